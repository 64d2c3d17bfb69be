/-! PART f5: a sale by both. -/
theorem rc3 (p q r : Int32) : p + q + r = p + r + q := by rw [Int32.add_assoc, Int32.add_comm q r, ← Int32.add_assoc]
theorem ac5 (x k h a c : Int32) : x + k + h + a + c = x + c + a + k + h := by
  rw [rc3 (x + k + h) a c, rc3 (x + k) h c, rc3 x k c, rc3 (x + c + k) h a, rc3 (x + c) k a]
theorem nt_ngi {n : Nat} (hn : n < 2147483648) : (-(nt n)).toInt = -(n : Int) := by
  rw [Int32.toInt_neg, nt_int hn]
  exact bm_id (by omega) (by omega)
section
variable {u s : TS} {nB nS nM p c co d fee : Nat}
theorem slC_f {wa : Int32} : frm (ks [607, 1105, 1107, 3206, 1207]) u (slC u nM nS wa) := frm_tr (frm_uR rfl) (frm_tr (frm_uI rfl) (frm_tr (frm_uR rfl) (frm_tr (frm_uQ rfl) (frm_uI rfl))))
theorem slC_agr {wa : Int32} {m : Nat} (hm : ¬ m = nM) : agm u (slC u nM nS wa) m := by
  unfold agm slC
  simp (disch := omega) only [I_uI, I_uI_n, R_uR, R_uR_n, A_uA, A_uA_n, J_uJ, J_uJ_n, Q_uQ, Q_uQ_n, E_uO, E_uO_n, I_uO, I_uO_n, R_uO, R_uO_n, E_uN, E_uN_n, L_uN, L_uN_n, A_uN, A_uN_n, J_uN, J_uN_n, Q_uN, Q_uN_n, A_uCA, A_uCA_n, J_uCJ, J_uCJ_n, E_uI, R_uI, L_uI, A_uI, J_uI, Q_uI, E_uR, I_uR, L_uR, A_uR, J_uR, Q_uR, E_uA, I_uA, R_uA, L_uA, J_uA, Q_uA, E_uJ, I_uJ, R_uJ, L_uJ, A_uJ, Q_uJ, E_uQ, I_uQ, R_uQ, L_uQ, A_uQ, J_uQ, L_uO, A_uO, J_uO, Q_uO, I_uN, R_uN, E_uCA, I_uCA, R_uCA, L_uCA, J_uCA, Q_uCA, E_uCJ, I_uCJ, R_uCJ, L_uCJ, A_uCJ, Q_uCJ, m1_s, m1_n, implies_true, and_self]
def smT (V : TS) (nM p c nS d : Nat) (to wa : Int32) : TS := uA (lmS V nM p c nS d to 1) 3323 0 nS wa
theorem smT_agr {to wa : Int32} {m : Nat} (hm : ¬ m = nM) : agm u (smT u nM p c nS d to wa) m := by
  unfold agm smT lmS mS
  simp (disch := omega) only [I_uI, I_uI_n, R_uR, R_uR_n, A_uA, A_uA_n, J_uJ, J_uJ_n, Q_uQ, Q_uQ_n, E_uO, E_uO_n, I_uO, I_uO_n, R_uO, R_uO_n, E_uN, E_uN_n, L_uN, L_uN_n, A_uN, A_uN_n, J_uN, J_uN_n, Q_uN, Q_uN_n, A_uCA, A_uCA_n, J_uCJ, J_uCJ_n, E_uI, R_uI, L_uI, A_uI, J_uI, Q_uI, E_uR, I_uR, L_uR, A_uR, J_uR, Q_uR, E_uA, I_uA, R_uA, L_uA, J_uA, Q_uA, E_uJ, I_uJ, R_uJ, L_uJ, A_uJ, Q_uJ, E_uQ, I_uQ, R_uQ, L_uQ, A_uQ, J_uQ, L_uO, A_uO, J_uO, Q_uO, I_uN, R_uN, E_uCA, I_uCA, R_uCA, L_uCA, J_uCA, Q_uCA, E_uCJ, I_uCJ, R_uCJ, L_uCJ, A_uCJ, Q_uCJ, m1_s, m1_n, implies_true, and_self]
theorem smT_f {to wa : Int32} : frm (ks [1316, 3317, 3318, 3319, 3320, 3321, 3322, 3323, 3324, 3340]) u (smT u nM p c nS d to wa) := frm_tr lmS_f (frm_uA rfl)
theorem sale_span {V V' : TS} {wa to : Int32} (hA : Iall nB nS nM u) (hlS : nS < 600) (hV : frm kSv u V) (hfs : frm scr (slC (cS V p c nS 1 (nt d) to) nM nS wa) s) (fk : frm kLn u s) (hV' : frm (ks kTm) s V') (hp : p < nB) (hpp : isPl (tA u 3308 0 p) = true) (hc : c < nB) (hcc : isCl (tA u 3308 0 c) = true) (hd : d ≤ 2999) (htl : nt d ≤ to) (hto : to ≤ 2999) : Ispan nB (nS + 1) (nM + 1) (smT V' nM p c nS d to wa) := by
  have hS := hA.2.2.2.2.2.1
  have fT := smT_f (u := V') (nM := nM) (p := p) (c := c) (nS := nS) (d := d) (to := to) (wa := wa)
  have hd0 : -9999 ≤ nt d := Int32.le_trans (by decide) (nt_nn (by omega))
  have hb : -9999 ≤ nt d ∧ nt d ≤ 2999 ∧ -9999 ≤ to ∧ to ≤ 2999 := ⟨hd0, Int32.le_trans htl hto, Int32.le_trans hd0 htl, hto⟩
  refine Ispan_add (p := p) (c := c) (so := 1) (fr := nt d) (to := to) (wa := wa) (mi := nt nM) (mv := some nM) hS hlS hA.1.1 (Nat.le_succ _) hp hpp hc hcc hb (Or.inr ⟨nM, Nat.lt_succ_self _, rfl, rfl⟩) ?_ ?_ ?_ ?_ ?_ ?_ ?_ ?_ ?_ ?_ ?_ ?_ ?_ ?_ ?_ ?_ ?_ ?_ ?_ ?_ ?_ ?_ ?_ ?_
  all_goals try simp only [(fT.1 1205 rfl).2.1, (fT.1 11 rfl).1, (fT.1 1100 rfl).2.1, (fT.1 1102 rfl).2.1, (fT.1 1103 rfl).2.1, (fT.1 1104 rfl).2.1, (fT.1 1105 rfl).2.1, (fT.1 1106 rfl).2.1, (fT.1 1101 rfl).2.2.1, (fT.1 1107 rfl).2.2.1, (fT.1 1108 rfl).2.2.1, (fT.1 109 rfl).2.2.1, (fT.1 110 rfl).2.2.1, (fT.1 111 rfl).2.1, (fT.1 3308 rfl).2.2.2.2.1]
  all_goals try simp only [(hV'.1 1205 rfl).2.1, (hV'.1 11 rfl).1, (hV'.1 1100 rfl).2.1, (hV'.1 1102 rfl).2.1, (hV'.1 1103 rfl).2.1, (hV'.1 1104 rfl).2.1, (hV'.1 1105 rfl).2.1, (hV'.1 1106 rfl).2.1, (hV'.1 1101 rfl).2.2.1, (hV'.1 1107 rfl).2.2.1, (hV'.1 1108 rfl).2.2.1, (hV'.1 109 rfl).2.2.1, (hV'.1 110 rfl).2.2.1, (hV'.1 111 rfl).2.1, (hV'.1 3308 rfl).2.2.2.2.1]
  all_goals try simp only [(hfs.1 1205 rfl).2.1, (hfs.1 11 rfl).1, (hfs.1 1100 rfl).2.1, (hfs.1 1102 rfl).2.1, (hfs.1 1103 rfl).2.1, (hfs.1 1104 rfl).2.1, (hfs.1 1105 rfl).2.1, (hfs.1 1106 rfl).2.1, (hfs.1 1101 rfl).2.2.1, (hfs.1 1107 rfl).2.2.1, (hfs.1 1108 rfl).2.2.1, (hfs.1 109 rfl).2.2.1, (hfs.1 110 rfl).2.2.1, (hfs.1 111 rfl).2.1]
  all_goals try unfold smT lmS mS
  all_goals try unfold slC cS
  all_goals cases ej : tR u 110 p
  all_goals simp (disch := omega) only [cS0, I_uI, I_uI_n, R_uR, R_uR_n, A_uA, A_uA_n, J_uJ, J_uJ_n, Q_uQ, Q_uQ_n, E_uO, E_uO_n, I_uO, I_uO_n, R_uO, R_uO_n, E_uN, E_uN_n, L_uN, L_uN_n, A_uN, A_uN_n, J_uN, J_uN_n, Q_uN, Q_uN_n, A_uCA, A_uCA_n, J_uCJ, J_uCJ_n, E_uI, R_uI, L_uI, A_uI, J_uI, Q_uI, E_uR, I_uR, L_uR, A_uR, J_uR, Q_uR, E_uA, I_uA, R_uA, L_uA, J_uA, Q_uA, E_uJ, I_uJ, R_uJ, L_uJ, A_uJ, Q_uJ, E_uQ, I_uQ, R_uQ, L_uQ, A_uQ, J_uQ, L_uO, A_uO, J_uO, Q_uO, I_uN, R_uN, E_uCA, I_uCA, R_uCA, L_uCA, J_uCA, Q_uCA, E_uCJ, I_uCJ, R_uCJ, L_uCJ, A_uCJ, Q_uCJ, m1_s, (hV.1 1205 rfl).2.1, (hV.1 11 rfl).1, (hV.1 1100 rfl).2.1, (hV.1 1102 rfl).2.1, (hV.1 1103 rfl).2.1, (hV.1 1104 rfl).2.1, (hV.1 1105 rfl).2.1, (hV.1 1106 rfl).2.1, (hV.1 1101 rfl).2.2.1, (hV.1 1107 rfl).2.2.1, (hV.1 1108 rfl).2.2.1, (hV.1 109 rfl).2.2.1, (hV.1 110 rfl).2.2.1, (hV.1 111 rfl).2.1, (hV'.1 3317 rfl).2.2.2.2.1, (hV'.1 3318 rfl).2.2.2.2.1, (hV'.1 3319 rfl).2.2.2.2.1, (hV'.1 3320 rfl).2.2.2.2.1, (hV'.1 3321 rfl).2.2.2.2.1, (hV'.1 3322 rfl).2.2.2.2.1, (hV'.1 3323 rfl).2.2.2.2.1, (hV'.1 3324 rfl).2.2.2.2.1, (fk.1 3308 rfl).2.2.2.2.1, (fk.1 3317 rfl).2.2.2.2.1, (fk.1 3318 rfl).2.2.2.2.1, (fk.1 3319 rfl).2.2.2.2.1, (fk.1 3320 rfl).2.2.2.2.1, (fk.1 3321 rfl).2.2.2.2.1, (fk.1 3322 rfl).2.2.2.2.1, (fk.1 3323 rfl).2.2.2.2.1, (fk.1 3324 rfl).2.2.2.2.1, oel_n, oel_s, m1_n, m1_m1, ej]
theorem sale_new (hL : Ilen u) (hA : Iall nB nS nM u) (hb : Icb nB nM u) (hlS : nS < 600) (hlM : nM < 200) (hR : Iterm u) (hday : tI u 1200 0 = nt d) (hday2 : tI u 1301 0 = nt d) (hd : d ≤ 2999) (hp : p < nB) (hpp : isPl (tA u 3308 0 p) = true) (hc : c < nB) (hcc : isCl (tA u 3308 0 c) = true) {so : Nat} (ho : own u nS p (nt d) = some so) (hco : co < nB) (hcoc : isCl (tA u 3308 0 co) = true) (hcs1 : tR u 1101 so = some co) (hcs2 : tA u 3318 0 so = nt co) (htl : nt d ≤ tA u 3349 0 1) (hf : fee ≤ 999999) {how : Nat} (hhow : how < 3) :
    ∃ W, F_X12_makeSale u (some p) (some c) (nt fee) (nt how) = some (nt nM, W) ∧ frm kLn u W ∧ ∀ s, frm scr W s → ∀ x6, (how = 0 → x6 = tA u 3349 0 6) → ∃ T, F_X13_sale s (nt p) (nt c) (nt fee) (if how = 0 then tA u 3349 0 4 else 0) (if how = 0 then tA u 3349 0 5 else 0) x6 = some (nt nM, T) ∧ Iall nB (nS + 1) (nM + 1) T ∧ Icb nB (nM + 1) T ∧ frm kMk u T := by
  have hA0 := hA
  obtain ⟨a1, a2, a3, a4, a5, a6, a7⟩ := hA
  have h150 := a1.1
  obtain ⟨sol, -, -⟩ := own_lt ho
  obtain ⟨kc, hkc1, hkc2, hkc3⟩ := kept_both a6 a7 hlM h150 sol hf
  obtain ⟨ag, hag1, hag2, hag3⟩ := agent_both a1 hp hf
  have hkc1' : ∀ x, kc = some x → x.1 < nB ∧ x.2 ≤ 500000 := fun x hx => ⟨(hkc1 x hx).1, (hkc1 x hx).2.2⟩
  obtain ⟨V, v1, v2, v3, v4, v5, v6⟩ := sale_c hL a1 a6 a7 hp hc hco hday hd hlM hlS ho hcs1 hf hhow hkc1' hkc2 hag2
  obtain ⟨y1, y2, y3, y4, y5, y6, y7, y8, y9, y10, y11, y12, y13, y14, y15, y16, y17, y18, y19⟩ := v4
  have fW : frm kLn u (slC (cS V p c nS 1 (nt d) (tA u 3208 0 1)) nM nS (tA u 3208 0 2)) := frm_tr (frm_sb v2 (fun k hk => kSv_kLn hk)) (frm_tr (frm_sb cS_f2 kLn_kCs) (frm_sb slC_f (ks_sb rfl)))
  refine ⟨_, v1, fW, fun s hs x6 hx6 => ?_⟩
  have fk : frm kLn u s := frm_tr fW (frm_sb hs kLn_scr)
  have e49 : tA s 3349 = tA u 3349 := (fk.1 3349 rfl).2.2.2.2.1
  obtain ⟨z1, z2, z3, z4, z5, z6, z7, z8, z9, z10, z11⟩ := a7.2.2.2.2 nM (Nat.le_refl _)
  have etc : tch s nS p d = tch u nS p d := by
    funext k
    unfold tch D0 NN lastZ
    have hcz : cz s nS p = cz u nS p := by funext z; exact cz_f fk (by decide)
    have h12 : tA s 3312 = tA u 3312 := (fk.1 3312 rfl).2.2.2.2.1
    unfold D0
    rw [hcz, h12]
  obtain ⟨V', b1_, b2, b3, b4, b5, b6⟩ := sale_m (s := s) (nB := nB) (nS := nS) (nM := nM) (p := p) (c := c) (co := co) (d := d) (fee := fee) (Ilen_f fk hL) (Mbody_f fk (by decide) (IbM a1)) (Mspan_f fk (by decide) (IsM a6)) (by rw [(fk.1 1327 rfl).2.1]; exact a7.2.2.1) (by rw [(fk.1 1316 rfl).2.1]; exact a6.2.2.1) hlM hlS (by rw [(fk.1 1301 rfl).2.1]; exact hday2) hd (by rw [own_f fk (by decide)]; exact ho) (by rw [(fk.1 3318 rfl).2.2.2.2.1]; exact hcs2) hp hc hco hf (if how = 0 then tA u 3349 0 4 else 0) (if how = 0 then tA u 3349 0 5 else 0) x6 hkc1' (fun T x1 x2 hT ht h24 => hkc3 T x1 x2 hT (fun a ha => by
      obtain ⟨q1, q2, q3⟩ := ht a ha
      rw [q1, q2, q3, (fk.1 3331 rfl).2.2.2.2.1, (fk.1 3336 rfl).2.2.2.2.1, (fk.1 3329 rfl).2.2.2.2.1]
      exact ⟨rfl, rfl, rfl⟩) (by rw [h24, (fk.1 3324 rfl).2.2.2.2.1])) (fun T v2 v8 hT h14 => hag3 T v2 v8 hT (by rw [h14, (fk.1 3314 rfl).2.2.2.2.1])) (fun i hi => by rw [(fk.1 3347 rfl).2.2.2.2.1]; exact z11 i hi) (by rw [(fk.1 3341 rfl).2.2.2.2.1]; exact z6) (by rw [(fk.1 3343 rfl).2.2.2.2.1]; exact z7)
  rw [etc] at b4 b5 b6
  rw [e49] at b1_ b4
  obtain ⟨w1, w2, w3, w4, w5, w6, w7, w8, w9, w10, w11, w12, w13, w14, w15, w16⟩ := b4
  have et1 : tA u 3208 0 1 = tA u 3349 0 1 := (hR 1 (by omega)).1
  have et2 : tA u 3208 0 2 = tA u 3349 0 2 := (hR 2 (by omega)).1
  have et3 : tA u 3208 0 3 = tA u 3349 0 3 := (hR 3 (by omega)).1
  have et4 : tA u 3208 0 4 = tA u 3349 0 4 := (hR 4 (by omega)).1
  have et5 : tA u 3208 0 5 = tA u 3349 0 5 := (hR 5 (by omega)).1
  have et6 : tA u 3208 0 6 = tA u 3349 0 6 := (hR 6 (by omega)).1
  have hto : tA u 3349 0 1 ≤ 2999 := (hR 1 (by omega)).2.2
  rw [et1, et2] at hs
  rw [et3] at y10
  rw [et4] at y11
  rw [et5] at y16
  rw [et6] at y17
  obtain ⟨T, hT⟩ : ∃ T, T = smT V' nM p c nS d (tA u 3349 0 1) (tA u 3349 0 2) := ⟨_, rfl⟩
  have fT : frm (ks [1316, 3317, 3318, 3319, 3320, 3321, 3322, 3323, 3324, 3340]) V' T := by rw [hT]; exact smT_f
  have f9 : frm kMk u T := frm_tr (frm_sb fk kMk_kLn) (frm_tr (frm_sb b2 (ks_sb rfl)) (frm_sb fT (ks_sb rfl)))
  have hsp : Ispan nB (nS + 1) (nM + 1) T := by rw [hT]; exact sale_span hA0 hlS v2 hs fk b2 hp hpp hc hcc hd htl hto
  have hagr : ∀ m, ¬ m = nM → agm u T m := fun m hm => by
    rw [hT]
    exact agm_tr (v3 m hm) (agm_tr (agm_f cS_f2 (by decide)) (agm_tr (slC_agr hm) (agm_tr (agm_f hs (by decide)) (agm_tr (b3 m hm) (smT_agr hm)))))
  obtain ⟨C, hC⟩ : ∃ C, C = cS V p c nS 1 (nt d) (tA u 3349 0 1) := ⟨_, rfl⟩
  have fC : frm kCs V C := by rw [hC]; exact cS_f2
  rw [← hC] at hs
  have fCs := slC_f (u := C) (nM := nM) (nS := nS) (wa := tA u 3349 0 2)
  have s3206 : tQ (slC C nM nS (tA u 3349 0 2)) 3206 0 nM = some nM := by unfold slC; simp (disch := omega) only [I_uI, I_uI_n, R_uR, R_uR_n, A_uA, A_uA_n, J_uJ, J_uJ_n, Q_uQ, Q_uQ_n, E_uO, E_uO_n, I_uO, I_uO_n, R_uO, R_uO_n, E_uN, E_uN_n, L_uN, L_uN_n, A_uN, A_uN_n, J_uN, J_uN_n, Q_uN, Q_uN_n, A_uCA, A_uCA_n, J_uCJ, J_uCJ_n, E_uI, R_uI, L_uI, A_uI, J_uI, Q_uI, E_uR, I_uR, L_uR, A_uR, J_uR, Q_uR, E_uA, I_uA, R_uA, L_uA, J_uA, Q_uA, E_uJ, I_uJ, R_uJ, L_uJ, A_uJ, Q_uJ, E_uQ, I_uQ, R_uQ, L_uQ, A_uQ, J_uQ, L_uO, A_uO, J_uO, Q_uO, I_uN, R_uN, E_uCA, I_uCA, R_uCA, L_uCA, J_uCA, Q_uCA, E_uCJ, I_uCJ, R_uCJ, L_uCJ, A_uCJ, Q_uCJ, m1_s]
  have s607 : tR (slC C nM nS (tA u 3349 0 2)) 607 nM = some nS := by unfold slC; simp (disch := omega) only [I_uI, I_uI_n, R_uR, R_uR_n, A_uA, A_uA_n, J_uJ, J_uJ_n, Q_uQ, Q_uQ_n, E_uO, E_uO_n, I_uO, I_uO_n, R_uO, R_uO_n, E_uN, E_uN_n, L_uN, L_uN_n, A_uN, A_uN_n, J_uN, J_uN_n, Q_uN, Q_uN_n, A_uCA, A_uCA_n, J_uCJ, J_uCJ_n, E_uI, R_uI, L_uI, A_uI, J_uI, Q_uI, E_uR, I_uR, L_uR, A_uR, J_uR, Q_uR, E_uA, I_uA, R_uA, L_uA, J_uA, Q_uA, E_uJ, I_uJ, R_uJ, L_uJ, A_uJ, Q_uJ, E_uQ, I_uQ, R_uQ, L_uQ, A_uQ, J_uQ, L_uO, A_uO, J_uO, Q_uO, I_uN, R_uN, E_uCA, I_uCA, R_uCA, L_uCA, J_uCA, Q_uCA, E_uCJ, I_uCJ, R_uCJ, L_uCJ, A_uCJ, Q_uCJ, m1_s]
  have s1207 : tI (slC C nM nS (tA u 3349 0 2)) 1207 0 = nt (nM + 1) := by unfold slC; simp (disch := omega) only [I_uI, I_uI_n, R_uR, R_uR_n, A_uA, A_uA_n, J_uJ, J_uJ_n, Q_uQ, Q_uQ_n, E_uO, E_uO_n, I_uO, I_uO_n, R_uO, R_uO_n, E_uN, E_uN_n, L_uN, L_uN_n, A_uN, A_uN_n, J_uN, J_uN_n, Q_uN, Q_uN_n, A_uCA, A_uCA_n, J_uCJ, J_uCJ_n, E_uI, R_uI, L_uI, A_uI, J_uI, Q_uI, E_uR, I_uR, L_uR, A_uR, J_uR, Q_uR, E_uA, I_uA, R_uA, L_uA, J_uA, Q_uA, E_uJ, I_uJ, R_uJ, L_uJ, A_uJ, Q_uJ, E_uQ, I_uQ, R_uQ, L_uQ, A_uQ, J_uQ, L_uO, A_uO, J_uO, Q_uO, I_uN, R_uN, E_uCA, I_uCA, R_uCA, L_uCA, J_uCA, Q_uCA, E_uCJ, I_uCJ, R_uCJ, L_uCJ, A_uCJ, Q_uCJ, m1_s]
  have t40 : tA T 3340 0 nM = nt nS := by rw [hT]; unfold smT lmS mS; simp (disch := omega) only [I_uI, I_uI_n, R_uR, R_uR_n, A_uA, A_uA_n, J_uJ, J_uJ_n, Q_uQ, Q_uQ_n, E_uO, E_uO_n, I_uO, I_uO_n, R_uO, R_uO_n, E_uN, E_uN_n, L_uN, L_uN_n, A_uN, A_uN_n, J_uN, J_uN_n, Q_uN, Q_uN_n, A_uCA, A_uCA_n, J_uCJ, J_uCJ_n, E_uI, R_uI, L_uI, A_uI, J_uI, Q_uI, E_uR, I_uR, L_uR, A_uR, J_uR, Q_uR, E_uA, I_uA, R_uA, L_uA, J_uA, Q_uA, E_uJ, I_uJ, R_uJ, L_uJ, A_uJ, Q_uJ, E_uQ, I_uQ, R_uQ, L_uQ, A_uQ, J_uQ, L_uO, A_uO, J_uO, Q_uO, I_uN, R_uN, E_uCA, I_uCA, R_uCA, L_uCA, J_uCA, Q_uCA, E_uCJ, I_uCJ, R_uCJ, L_uCJ, A_uCJ, Q_uCJ, m1_s]
  have t19 : tA T 3319 0 = mm_u1 (tA u 3319 0) nS (nt d) := by rw [hT]; unfold smT lmS mS; simp (disch := omega) only [I_uI, I_uI_n, R_uR, R_uR_n, A_uA, A_uA_n, J_uJ, J_uJ_n, Q_uQ, Q_uQ_n, E_uO, E_uO_n, I_uO, I_uO_n, R_uO, R_uO_n, E_uN, E_uN_n, L_uN, L_uN_n, A_uN, A_uN_n, J_uN, J_uN_n, Q_uN, Q_uN_n, A_uCA, A_uCA_n, J_uCJ, J_uCJ_n, E_uI, R_uI, L_uI, A_uI, J_uI, Q_uI, E_uR, I_uR, L_uR, A_uR, J_uR, Q_uR, E_uA, I_uA, R_uA, L_uA, J_uA, Q_uA, E_uJ, I_uJ, R_uJ, L_uJ, A_uJ, Q_uJ, E_uQ, I_uQ, R_uQ, L_uQ, A_uQ, J_uQ, L_uO, A_uO, J_uO, Q_uO, I_uN, R_uN, E_uCA, I_uCA, R_uCA, L_uCA, J_uCA, Q_uCA, E_uCJ, I_uCJ, R_uCJ, L_uCJ, A_uCJ, Q_uCJ, m1_s]; rw [(b2.1 3319 rfl).2.2.2.2.1, (fk.1 3319 rfl).2.2.2.2.1]
  have hshW := shW_le (nB := nB) (co := co) (q := tch u nS p d) hf
  have hkv : kv1 kc ≤ 500000 := by
    cases kc with
    | none => exact Nat.zero_le _
    | some x => exact (hkc1' x rfl).2
  have hko : (ko1 kc = none ∧ enc (ko1 kc) = -1) ∨ ∃ k, k < nB ∧ ko1 kc = some k ∧ enc (ko1 kc) = nt k := by
    cases kc with
    | none => exact Or.inl ⟨rfl, rfl⟩
    | some x => exact Or.inr ⟨x.1, (hkc1' x rfl).1, rfl, rfl⟩
  have hmv : Imove nB (nS + 1) (nM + 1) T := by
    refine Imove_up (u := u) h150 a7 hlM hagr (fun k hk => ?_) (f9.1 3308 rfl).2.2.2.2.1 (by rw [(fT.1 1207 rfl).2.1, (b2.1 1207 rfl).2.1, (hs.1 1207 rfl).2.1]; exact s1207) (by rw [(fT.1 1327 rfl).2.1]; exact w16) ?_
    · rw [t19, m1_n (by omega)]
    · obtain ⟨kp4, hkp4, ekp4⟩ : ∃ k, k ≤ 50 ∧ (if how = 0 then tA u 3349 0 4 else 0) = nt k := by
        by_cases e : how = 0
        · rw [if_pos e]
          exact nt_exb (b := 50) (show 0 ≤ tA u 3349 0 4 from (hR 4 (by omega)).2.1) (by omega) (show tA u 3349 0 4 ≤ nt 50 from (hR 4 (by omega)).2.2)
        · rw [if_neg e]; exact ⟨0, by omega, rfl⟩
      obtain ⟨kp5, hkp5, ekp5⟩ : ∃ k, k ≤ 999999 ∧ (if how = 0 then tA u 3349 0 5 else 0) = nt k := by
        by_cases e : how = 0
        · rw [if_pos e]
          exact nt_exb (b := 999999) (show 0 ≤ tA u 3349 0 5 from (hR 5 (by omega)).2.1) (by omega) (show tA u 3349 0 5 ≤ nt 999999 from (hR 5 (by omega)).2.2)
        · rw [if_neg e]; exact ⟨0, by omega, rfl⟩
      obtain ⟨sp, hsp5, esp⟩ := nt_exb (b := 5) (Int32.le_trans (by decide) (show 1 ≤ tA u 3349 0 3 from (hR 3 (by omega)).2.1)) (by omega) (show tA u 3349 0 3 ≤ nt 5 from (hR 3 (by omega)).2.2)
      have hsp1 : 1 ≤ sp := by
        have h1 : nt 1 ≤ nt sp := by rw [← esp]; exact (hR 3 (by omega)).2.1
        exact (nt_le (by omega) (by omega)).mp h1
      have hne : ¬ tA T 3337 0 nM = 0 → tI T 617 nM = tA T 3338 0 nM := fun q => by
        rw [(fT.1 3337 rfl).2.2.2.2.1, w10] at q
        rw [(fT.1 617 rfl).2.1, (b2.1 617 rfl).2.1, (hs.1 617 rfl).2.1, (fCs.1 617 rfl).2.1, (fC.1 617 rfl).2.1, y17, (fT.1 3338 rfl).2.2.2.2.1, w11]
        by_cases e : how = 0
        · exact (hx6 e).symm
        · rw [if_neg e] at q; exact absurd rfl q
      have h47 : ∀ i, i < 150 → tA T 3347 0 (150 * nM + i) = if i < nB then nt (shr nB fee co (tch u nS p d) i) else 0 := fun i hi => by rw [(fT.1 3347 rfl).2.2.2.2.1]; exact b5 i hi
      have h14 : tR T 614 nM = tR V 614 nM ∧ tL T 2614 nM = tL V 2614 nM ∧ tA T 2614 nM = tA V 2614 nM := by
        rw [(fT.1 614 rfl).2.2.1, (fT.1 2614 rfl).2.2.2.1, (fT.1 2614 rfl).2.2.2.2.1, (b2.1 614 rfl).2.2.1, (b2.1 2614 rfl).2.2.2.1, (b2.1 2614 rfl).2.2.2.2.1, (hs.1 614 rfl).2.2.1, (hs.1 2614 rfl).2.2.2.1, (hs.1 2614 rfl).2.2.2.2.1, (fCs.1 614 rfl).2.2.1, (fCs.1 2614 rfl).2.2.2.1, (fCs.1 2614 rfl).2.2.2.2.1, (fC.1 614 rfl).2.2.1, (fC.1 2614 rfl).2.2.2.1, (fC.1 2614 rfl).2.2.2.2.1]
        exact ⟨rfl, rfl, rfl⟩
      have hshare : Ishare nB nM T := by
        unfold Ishare
        rw [h14.1, h14.2.1, h14.2.2]
        rcases v5 with ⟨q1, q2⟩ | ⟨q1, q2, q3⟩
        · refine Or.inl ⟨q1, fun i hi => ?_⟩
          rw [h47 i hi]
          by_cases e : i < nB
          · rw [if_pos e, q2 i e]; rfl
          · rw [if_neg e]
        · refine Or.inr ⟨q1, by rw [q2]; exact Nat.le_refl _, fun i hi => ?_, fun i h1 hi => ?_⟩
          · rw [q2] at hi
            rw [h47 i (by omega), if_pos hi, q3 i hi]
          · rw [q2] at h1
            rw [h47 i hi, if_neg (by omega)]
      unfold Imove1
      have t617 := hne
      rw [(fT.1 3206 rfl).2.2.2.2.2.2, (fT.1 6 rfl).1, (fT.1 600 rfl).2.1, (fT.1 601 rfl).2.2.1, (fT.1 602 rfl).2.2.1, (fT.1 603 rfl).2.2.1, (fT.1 604 rfl).2.1, (fT.1 605 rfl).2.1, (fT.1 606 rfl).2.1, (fT.1 607 rfl).2.2.1, (fT.1 608 rfl).2.1, (fT.1 609 rfl).2.1, (fT.1 610 rfl).2.1, (fT.1 611 rfl).2.1, (fT.1 612 rfl).2.2.1, (fT.1 613 rfl).2.1, (fT.1 615 rfl).2.1, (fT.1 616 rfl).2.1, (fT.1 618 rfl).2.1, (fT.1 619 rfl).2.1, (fT.1 3328 rfl).2.2.2.2.1, (fT.1 3329 rfl).2.2.2.2.1, (fT.1 3330 rfl).2.2.2.2.1, (fT.1 3331 rfl).2.2.2.2.1, (fT.1 3332 rfl).2.2.2.2.1, (fT.1 3333 rfl).2.2.2.2.1, (fT.1 3334 rfl).2.2.2.2.1, (fT.1 3335 rfl).2.2.2.2.1, (fT.1 3336 rfl).2.2.2.2.1, (fT.1 3339 rfl).2.2.2.2.1, (fT.1 3341 rfl).2.2.2.2.1, (fT.1 3342 rfl).2.2.2.2.1, (fT.1 3343 rfl).2.2.2.2.1, (fT.1 3344 rfl).2.2.2.2.1, (fT.1 3345 rfl).2.2.2.2.1, (fT.1 3346 rfl).2.2.2.2.1, w1, w2, w3, w4, w5, w6, w7, w8, w9, w12, w13, w14, w15]
      rw [(b2.1 3206 rfl).2.2.2.2.2.2, (b2.1 6 rfl).1, (b2.1 600 rfl).2.1, (b2.1 601 rfl).2.2.1, (b2.1 602 rfl).2.2.1, (b2.1 603 rfl).2.2.1, (b2.1 604 rfl).2.1, (b2.1 605 rfl).2.1, (b2.1 606 rfl).2.1, (b2.1 607 rfl).2.2.1, (b2.1 608 rfl).2.1, (b2.1 609 rfl).2.1, (b2.1 610 rfl).2.1, (b2.1 611 rfl).2.1, (b2.1 612 rfl).2.2.1, (b2.1 613 rfl).2.1, (b2.1 615 rfl).2.1, (b2.1 616 rfl).2.1, (b2.1 618 rfl).2.1, (b2.1 619 rfl).2.1, (b2.1 3339 rfl).2.2.2.2.1, (b2.1 3345 rfl).2.2.2.2.1, (b2.1 3346 rfl).2.2.2.2.1, (hs.1 3206 rfl).2.2.2.2.2.2, (hs.1 6 rfl).1, (hs.1 600 rfl).2.1, (hs.1 601 rfl).2.2.1, (hs.1 602 rfl).2.2.1, (hs.1 603 rfl).2.2.1, (hs.1 604 rfl).2.1, (hs.1 605 rfl).2.1, (hs.1 606 rfl).2.1, (hs.1 607 rfl).2.2.1, (hs.1 608 rfl).2.1, (hs.1 609 rfl).2.1, (hs.1 610 rfl).2.1, (hs.1 611 rfl).2.1, (hs.1 612 rfl).2.2.1, (hs.1 613 rfl).2.1, (hs.1 615 rfl).2.1, (hs.1 616 rfl).2.1, (hs.1 618 rfl).2.1, (hs.1 619 rfl).2.1, s3206, s607]
      rw [(fCs.1 6 rfl).1, (fCs.1 600 rfl).2.1, (fCs.1 601 rfl).2.2.1, (fCs.1 602 rfl).2.2.1, (fCs.1 603 rfl).2.2.1, (fCs.1 604 rfl).2.1, (fCs.1 605 rfl).2.1, (fCs.1 606 rfl).2.1, (fCs.1 608 rfl).2.1, (fCs.1 609 rfl).2.1, (fCs.1 610 rfl).2.1, (fCs.1 611 rfl).2.1, (fCs.1 612 rfl).2.2.1, (fCs.1 613 rfl).2.1, (fCs.1 615 rfl).2.1, (fCs.1 616 rfl).2.1, (fCs.1 618 rfl).2.1, (fCs.1 619 rfl).2.1, (fC.1 6 rfl).1, (fC.1 600 rfl).2.1, (fC.1 601 rfl).2.2.1, (fC.1 602 rfl).2.2.1, (fC.1 603 rfl).2.2.1, (fC.1 604 rfl).2.1, (fC.1 605 rfl).2.1, (fC.1 606 rfl).2.1, (fC.1 608 rfl).2.1, (fC.1 609 rfl).2.1, (fC.1 610 rfl).2.1, (fC.1 611 rfl).2.1, (fC.1 612 rfl).2.2.1, (fC.1 613 rfl).2.1, (fC.1 615 rfl).2.1, (fC.1 616 rfl).2.1, (fC.1 618 rfl).2.1, (fC.1 619 rfl).2.1, y1, y2, y3, y4, y5, y6, y7, y8, y9, y10, y11, y12, y13, y14, y15, y16, y18, y19, (fk.1 3339 rfl).2.2.2.2.1, (fk.1 3345 rfl).2.2.2.2.1, (fk.1 3346 rfl).2.2.2.2.1, z5, z9, z10, t40, t19, ekp4, ekp5, esp]
      refine ⟨rfl, rfl, rfl, ⟨p, hp, by rw [(f9.1 3308 rfl).2.2.2.2.1]; exact hpp, rfl, rfl⟩, ⟨co, hco, by rw [(f9.1 3308 rfl).2.2.2.2.1]; exact hcoc, rfl, rfl⟩, ⟨c, hc, by rw [(f9.1 3308 rfl).2.2.2.2.1]; exact hcc, rfl, rfl⟩, ⟨fee, hf, rfl, rfl⟩, ⟨rfl, Or.inl rfl⟩, ⟨0, by omega, rfl, rfl⟩, ⟨nS, d, Nat.lt_succ_self _, hd, rfl, rfl, m1_s, rfl⟩, ⟨rfl, Or.inl rfl⟩, fun _ => ⟨sp, hsp1, hsp5, rfl, rfl⟩, ⟨kp4, hkp4, rfl, rfl⟩, ⟨kv1 kc, hkv, rfl, rfl⟩, hko, ⟨_, hshW, rfl, rfl⟩, hshare, fun i hi => ?_, rfl, ⟨kp5, hkp5, rfl, by rw [(fT.1 3337 rfl).2.2.2.2.1, w10, ekp5]⟩, t617, rfl, ⟨0, by omega, rfl, rfl⟩⟩
      rw [h47 i hi]
      by_cases e : i < nB
      · rw [if_pos e]; exact ⟨_, shr_le hf e, rfl⟩
      · rw [if_neg e]; exact ⟨0, by omega, rfl⟩
  have t103 : ∀ i, tI T 103 i = tI V 103 i := fun i => by rw [(fT.1 103 rfl).2.1, (b2.1 103 rfl).2.1, (hs.1 103 rfl).2.1, (fCs.1 103 rfl).2.1, (fC.1 103 rfl).2.1]
  have t310 : ∀ i, tA T 3310 0 i = tA V' 3310 0 i := fun i => by rw [(fT.1 3310 rfl).2.2.2.2.1]
  have e10 : tA s 3310 = tA u 3310 := (fk.1 3310 rfl).2.2.2.2.1
  rw [e10] at b6
  refine ⟨T, by rw [b1_, hT]; rfl, ⟨Ibody_f f9 (by decide) a1, ⟨fun i hi => ?_, fun i hi => ?_⟩, Iinc_f f9 (by decide) a3, Imat_f f9 (by decide) a4, Ilack_f f9 (by decide) a5, hsp, hmv⟩, fun i hi => ?_, f9⟩
  · rw [t103, v6 i hi, t310, b6, if_pos hi, a2.1 i hi]
    exact ac5 _ _ _ _ _
  · rw [t310, b6, if_neg (by omega)]
    exact a2.2 i hi
  · have hsw : sW T (nM + 1) = sW u nM + 3000000 := by
      have h1 : ∀ m, m < nM → mW T m = mW u m := fun m hm => by
        have ha := hagr m (by omega)
        unfold agm at ha
        unfold mW
        simp only [ha]
      show sW T nM + mW T nM = _
      rw [sW_c nM h1]
      unfold mW
      rw [(fT.1 3334 rfl).2.2.2.2.1, w7, (fT.1 3345 rfl).2.2.2.2.1, (b2.1 3345 rfl).2.2.2.2.1, (fk.1 3345 rfl).2.2.2.2.1, z9]
      rfl
    have hbd := sW_b a7
    have hx := hb i hi
    rw [hsw, t310, b6, if_pos hi]
    have i1 : ∃ z : Int, (if i = c then -(nt fee + nt ag) else 0 : Int32).toInt = z ∧ -1029999 ≤ z ∧ z ≤ 0 := by
      by_cases e : i = c
      · rw [if_pos e, nt_add, nt_ngi (by omega)]; exact ⟨_, rfl, by omega, by omega⟩
      · rw [if_neg e]; exact ⟨0, rfl, by omega, by omega⟩
    have i2 : ∃ z : Int, (if i = co then nt fee - nt (kv1 kc) - nt (shW nB fee co (tch u nS p d)) else 0 : Int32).toInt = z ∧ -550000 ≤ z ∧ z ≤ 999999 := by
      by_cases e : i = co
      · rw [if_pos e]
        have q1 : (nt fee - nt (kv1 kc)).toInt = (fee : Int) - (kv1 kc : Int) := by rw [ni_sub (by rw [nt_int (by omega), nt_int (by omega)]; omega) (by rw [nt_int (by omega), nt_int (by omega)]; omega), nt_int (by omega), nt_int (by omega)]
        have q2 : (nt (shW nB fee co (tch u nS p d))).toInt = (shW nB fee co (tch u nS p d) : Int) := nt_int (by omega)
        rw [ni_sub (by rw [q1, q2]; omega) (by rw [q1, q2]; omega), q1, q2]
        exact ⟨_, rfl, by omega, by omega⟩
      · rw [if_neg e]; exact ⟨0, rfl, by omega, by omega⟩
    have i3 : ∃ z : Int, (kk1 kc i).toInt = z ∧ 0 ≤ z ∧ z ≤ 500000 := by
      cases kc with
      | none => exact ⟨0, rfl, by omega, by omega⟩
      | some x =>
        show ∃ z : Int, (if i = x.1 then nt x.2 else 0 : Int32).toInt = z ∧ _
        have := (hkc1' x rfl).2
        by_cases e : i = x.1
        · rw [if_pos e, nt_int (by omega)]; exact ⟨_, rfl, by omega, by omega⟩
        · rw [if_neg e]; exact ⟨0, rfl, by omega, by omega⟩
    have i4 : ∃ z : Int, (nt (shr nB fee co (tch u nS p d) i)).toInt = z ∧ 0 ≤ z ∧ z ≤ 50000 := by
      have := shr_le (co := co) (q := tch u nS p d) hf hi
      rw [nt_int (by omega)]
      exact ⟨_, rfl, by omega, by omega⟩
    obtain ⟨q1, j1, k1, l1⟩ := i1
    obtain ⟨q2, j2, k2_, l2⟩ := i2
    obtain ⟨q3, j3, k3, l3⟩ := i3
    obtain ⟨q4, j4, k4, l4⟩ := i4
    have r1 := ni_add (x := tA u 3310 0 i) (y := if i = c then -(nt fee + nt ag) else 0) (by rw [j1]; omega) (by rw [j1]; omega)
    rw [j1] at r1
    have r2 := ni_add (x := tA u 3310 0 i + (if i = c then -(nt fee + nt ag) else 0)) (y := if i = co then nt fee - nt (kv1 kc) - nt (shW nB fee co (tch u nS p d)) else 0) (by rw [r1, j2]; omega) (by rw [r1, j2]; omega)
    rw [r1, j2] at r2
    have r3 := ni_add (x := tA u 3310 0 i + (if i = c then -(nt fee + nt ag) else 0) + (if i = co then nt fee - nt (kv1 kc) - nt (shW nB fee co (tch u nS p d)) else 0)) (y := kk1 kc i) (by rw [r2, j3]; omega) (by rw [r2, j3]; omega)
    rw [r2, j3] at r3
    have r4 := ni_add (x := tA u 3310 0 i + (if i = c then -(nt fee + nt ag) else 0) + (if i = co then nt fee - nt (kv1 kc) - nt (shW nB fee co (tch u nS p d)) else 0) + kk1 kc i) (y := nt (shr nB fee co (tch u nS p d) i)) (by rw [r3, j4]; omega) (by rw [r3, j4]; omega)
    rw [r3, j4] at r4
    rw [r4]
    omega
end
