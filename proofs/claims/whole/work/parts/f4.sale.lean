/-! PART f4: the model makes a sale. -/
section
variable {s T : TS} {nB nS nM p co c d fee m : Nat}
def smA (s : TS) (nM p co c d : Nat) (fee sp kp bo ne : Int32) : TS := uA (uA (uA (uA (lmA s nM p co c d fee false) 3335 0 nM sp) 3336 0 nM kp) 3337 0 nM bo) 3338 0 nM ne
theorem smA_f {f sp kp bo ne : Int32} : frm (ks [3328, 3329, 3330, 3331, 3332, 3333, 3334, 3335, 3336, 3337, 3338, 3342, 1327]) s (smA s nM p co c d f sp kp bo ne) := frm_tr (frm_sb (lmA_f _ _) (ks_sb rfl)) (frm_tr (frm_uA rfl) (frm_tr (frm_uA rfl) (frm_tr (frm_uA rfl) (frm_uA rfl))))
theorem smA_agr {f sp kp bo ne : Int32} {m : Nat} (hm : ¬ m = nM) : agm s (smA s nM p co c d f sp kp bo ne) m := by
  unfold agm smA lmA
  simp (disch := omega) only [I_uI, I_uI_n, R_uR, R_uR_n, A_uA, A_uA_n, J_uJ, J_uJ_n, Q_uQ, Q_uQ_n, E_uO, E_uO_n, I_uO, I_uO_n, R_uO, R_uO_n, E_uN, E_uN_n, L_uN, L_uN_n, A_uN, A_uN_n, J_uN, J_uN_n, Q_uN, Q_uN_n, A_uCA, A_uCA_n, J_uCJ, J_uCJ_n, E_uI, R_uI, L_uI, A_uI, J_uI, Q_uI, E_uR, I_uR, L_uR, A_uR, J_uR, Q_uR, E_uA, I_uA, R_uA, L_uA, J_uA, Q_uA, E_uJ, I_uJ, R_uJ, L_uJ, A_uJ, Q_uJ, E_uQ, I_uQ, R_uQ, L_uQ, A_uQ, J_uQ, L_uO, A_uO, J_uO, Q_uO, I_uN, R_uN, E_uCA, I_uCA, R_uCA, L_uCA, J_uCA, Q_uCA, E_uCJ, I_uCJ, R_uCJ, L_uCJ, A_uCJ, Q_uCJ, m1_s, m1_n, implies_true, and_self]
theorem smA_new {f sp kp bo ne : Int32} : tA (smA s nM p co c d f sp kp bo ne) 3328 0 nM = nt p ∧ tA (smA s nM p co c d f sp kp bo ne) 3329 0 nM = nt co ∧ tA (smA s nM p co c d f sp kp bo ne) 3330 0 nM = nt c ∧ tA (smA s nM p co c d f sp kp bo ne) 3331 0 nM = f ∧ tA (smA s nM p co c d f sp kp bo ne) 3332 0 nM = nt d ∧ tA (smA s nM p co c d f sp kp bo ne) 3333 0 nM = 0 ∧ tA (smA s nM p co c d f sp kp bo ne) 3334 0 nM = 0 ∧ tA (smA s nM p co c d f sp kp bo ne) 3335 0 nM = sp ∧ tA (smA s nM p co c d f sp kp bo ne) 3336 0 nM = kp ∧ tA (smA s nM p co c d f sp kp bo ne) 3337 0 nM = bo ∧ tA (smA s nM p co c d f sp kp bo ne) 3338 0 nM = ne ∧ tA (smA s nM p co c d f sp kp bo ne) 3342 0 nM = -1 ∧ tI (smA s nM p co c d f sp kp bo ne) 1327 0 = nt (nM + 1) := by
  unfold smA lmA
  simp (disch := omega) only [I_uI, I_uI_n, R_uR, R_uR_n, A_uA, A_uA_n, J_uJ, J_uJ_n, Q_uQ, Q_uQ_n, E_uO, E_uO_n, I_uO, I_uO_n, R_uO, R_uO_n, E_uN, E_uN_n, L_uN, L_uN_n, A_uN, A_uN_n, J_uN, J_uN_n, Q_uN, Q_uN_n, A_uCA, A_uCA_n, J_uCJ, J_uCJ_n, E_uI, R_uI, L_uI, A_uI, J_uI, Q_uI, E_uR, I_uR, L_uR, A_uR, J_uR, Q_uR, E_uA, I_uA, R_uA, L_uA, J_uA, Q_uA, E_uJ, I_uJ, R_uJ, L_uJ, A_uJ, Q_uJ, E_uQ, I_uQ, R_uQ, L_uQ, A_uQ, J_uQ, L_uO, A_uO, J_uO, Q_uO, I_uN, R_uN, E_uCA, I_uCA, R_uCA, L_uCA, J_uCA, Q_uCA, E_uCJ, I_uCJ, R_uCJ, L_uCJ, A_uCJ, Q_uCJ, m1_s, m1_m1, m1_s, and_self, b1_f]
/-- shares are laid to the coins -/
theorem sm_coin (hL : Ilen T) (hn : nB ≤ 150) (hm : m < 200) (h07 : tI T 1307 0 = nt nB) : ∃ u, B_X13_sale_242 10000 T (nt m) 0 = B_X13_sale_281 u (nt m) ∧ oA 3310 0 T u ∧ ∀ i, tA u 3310 0 i = if i < nB then tA T 3310 0 i + tA T 3347 0 (150 * m + i) else tA T 3310 0 i := by
  obtain ⟨N, hN⟩ : ∃ N : Nat, N = 10000 := ⟨_, rfl⟩
  rw [← hN]
  refine loop_wh (B := fun fu (x : Nat × TS) => B_X13_sale_242 fu x.2 (nt m) (nt x.1)) (mu := fun x => nB - x.1) (G := fun o => ∃ u, o = B_X13_sale_281 u (nt m) ∧ oA 3310 0 T u ∧ ∀ i, tA u 3310 0 i = if i < nB then tA T 3310 0 i + tA T 3347 0 (150 * m + i) else tA T 3310 0 i) (P := fun x => x.1 ≤ nB ∧ oA 3310 0 T x.2 ∧ ∀ i, tA x.2 3310 0 i = if i < x.1 then tA T 3310 0 i + tA T 3347 0 (150 * m + i) else tA T 3310 0 i) ?_ N (0, T) ⟨Nat.zero_le _, oA_rf, fun i => (if_neg (Nat.not_lt_zero i)).symm⟩ (by show nB - 0 < N; omega)
  intro fu x hx
  obtain ⟨k, u⟩ := x
  have hk : k ≤ nB := hx.1
  have h : oA 3310 0 T u := hx.2.1
  have hz : ∀ i, tA u 3310 0 i = if i < k then tA T 3310 0 i + tA T 3347 0 (150 * m + i) else tA T 3310 0 i := hx.2.2
  show (∃ u', BB_X13_sale_242 (B_X13_sale_242 fu) u (nt m) (nt k) = _ ∧ _) ∨ ∃ a', BB_X13_sale_242 (B_X13_sale_242 fu) u (nt m) (nt k) = _ ∧ _
  have hLu : Ilen u := Ilen_f (oA_f (D := ks [3310]) h rfl) hL
  have h47 : tA u 3347 = tA T 3347 := h.2.2.2.2.2.2.1 3347 (by decide)
  have h07u : tI u 1307 0 = nt nB := by rw [h.2.1]; exact h07
  unfold BB_X13_sale_242
  rw [h07u, igE (by omega) (by omega)]
  by_cases e : k = nB
  · left
    rw [if_pos (by omega)]
    exact ⟨u, rfl, h, by rw [e] at hz; exact hz⟩
  right
  have hk2 : k < nB := by omega
  refine ⟨(k + 1, uA u 3310 0 k (tA u 3310 0 k + tA T 3347 0 (150 * m + k))), ?_, ⟨hk2, oA_uA h, fun i => ?_⟩, by show nB - (k + 1) < nB - k; omega⟩
  · rw [if_neg (by omega), j150, (show tL _ 3310 0 = 150 from hLu 3310 rfl), (show tL _ 3347 0 = 30000 from hLu 3347 rfl), gd_nt _ (by omega) (by omega), gd_nt _ (by omega) (by omega), gd_nt _ (by omega) (by omega), nxt_e, nt_cl (by omega), nt_cl (by omega), h47, nt_succ]
  · show tA (uA u 3310 0 k (tA u 3310 0 k + tA T 3347 0 (150 * m + k))) 3310 0 i = if i < k + 1 then tA T 3310 0 i + tA T 3347 0 (150 * m + i) else tA T 3310 0 i
    rw [A_uA, m1_s]
    by_cases c : i = k
    · subst c
      rw [m1_s, hz, if_neg (by omega), if_pos (by omega)]
    · rw [m1_n c, hz]
      by_cases c2 : i < k
      · rw [if_pos c2, if_pos (by omega)]
      · rw [if_neg c2, if_neg (by omega)]
def kTm : List Nat := [1327, 3310, 3325, 3326, 3328, 3329, 3330, 3331, 3332, 3333, 3334, 3335, 3336, 3337, 3338, 3341, 3342, 3343, 3344, 3347]
theorem sale_m (hL : Ilen s) (hB : Mbody nB s) (hS : Mspan nB nS s) (h27 : tI s 1327 0 = nt nM) (h16 : tI s 1316 0 = nt nS) (hlM : nM < 200) (hlS : nS < 600) (hday : tI s 1301 0 = nt d) (hd : d ≤ 2999) {so : Nat} (ho : own s nS p (nt d) = some so) (hsc : tA s 3318 0 so = nt co) (hp : p < nB) (hc : c < nB) (hco : co < nB) (hf : fee ≤ 999999) (x4 x5 x6 : Int32) {kc : Option (Nat × Nat)} (hk1 : ∀ x, kc = some x → x.1 < nB ∧ x.2 ≤ 500000) (hkm : ∀ (T : TS) (x1 x2 : Int32), Ilen T → (∀ a, ¬ a = nM → tA T 3331 0 a = tA s 3331 0 a ∧ tA T 3336 0 a = tA s 3336 0 a ∧ tA T 3329 0 a = tA s 3329 0 a) → tA T 3324 0 so = tA s 3324 0 so → saleK T (nt so) x1 x2 (nt fee) (nt nM) = B_X13_sale_126 (pkM T nM kc) x1 x2 (nt fee) (nt nM)) {ag : Nat} (hag : ∀ (T : TS) (v2 v8 : Int32), Ilen T → tA T 3314 = tA s 3314 → (gd (nt p) (tL T 3314 0) (if 0 ≤ (tA T 3314 0 (nt p).toNatClampNeg) then (Option.bind (F_X13_up T (nt fee) 3) (fun r22 => (B_X13_sale_156 T v2 (nt fee) v8 r22 v8))) else (B_X13_sale_156 T v2 (nt fee) v8 0 v8))) = B_X13_sale_156 T v2 (nt fee) v8 (nt ag) v8)
    (hz : ∀ i, i < 150 → tA s 3347 0 (150 * nM + i) = 0) (h41 : tA s 3341 0 nM = 0) (h43 : tA s 3343 0 nM = 0) :
    ∃ V, F_X13_sale s (nt p) (nt c) (nt fee) x4 x5 x6 = some (nt nM, uA (lmS V nM p c nS d (tA s 3349 0 1) 1) 3323 0 nS (tA s 3349 0 2)) ∧ frm (ks kTm) s V ∧ (∀ m, ¬ m = nM → agm s V m) ∧
    (tA V 3328 0 nM = nt p ∧ tA V 3329 0 nM = nt co ∧ tA V 3330 0 nM = nt c ∧ tA V 3331 0 nM = nt fee ∧ tA V 3332 0 nM = nt d ∧ tA V 3333 0 nM = 0 ∧ tA V 3334 0 nM = 0 ∧ tA V 3335 0 nM = tA s 3349 0 3 ∧ tA V 3336 0 nM = x4 ∧ tA V 3337 0 nM = x5 ∧ tA V 3338 0 nM = x6 ∧ tA V 3341 0 nM = nt (kv1 kc) ∧ tA V 3342 0 nM = enc (ko1 kc) ∧ tA V 3343 0 nM = nt (shW nB fee co (tch s nS p d)) ∧ tA V 3344 0 nM = nt ag ∧ tI V 1327 0 = nt (nM + 1)) ∧
    (∀ i, i < 150 → tA V 3347 0 (150 * nM + i) = if i < nB then nt (shr nB fee co (tch s nS p d) i) else 0) ∧
    ∀ i, tA V 3310 0 i = if i < nB then tA s 3310 0 i + (if i = c then -(nt fee + nt ag) else 0) + (if i = co then nt fee - nt (kv1 kc) - nt (shW nB fee co (tch s nS p d)) else 0) + kk1 kc i + nt (shr nB fee co (tch s nS p d) i) else tA s 3310 0 i := by
  have hnB := hB.1
  obtain ⟨T0, hT0⟩ : ∃ T0, T0 = smA s nM p co c d (nt fee) (tA s 3349 0 3) x4 x5 x6 := ⟨_, rfl⟩
  have f0 : frm (ks [3328, 3329, 3330, 3331, 3332, 3333, 3334, 3335, 3336, 3337, 3338, 3342, 1327]) s T0 := by rw [hT0]; exact smA_f
  have g0 : ∀ m, ¬ m = nM → agm s T0 m := fun m hm => by rw [hT0]; exact smA_agr hm
  have n0 := smA_new (s := s) (nM := nM) (p := p) (co := co) (c := c) (d := d) (f := nt fee) (sp := tA s 3349 0 3) (kp := x4) (bo := x5) (ne := x6)
  rw [← hT0] at n0
  obtain ⟨n28, n29, n30, n31, n32, n33, n34, n35, n36, n37, n38, n42, n27⟩ := n0
  have hL0 := Ilen_f f0 hL
  -- the start
  have gd3 : ∀ k : Option (Int32 × TS), gd (3 : Int32) 9 k = k := fun _ => rfl
  have gd1 : ∀ k : Option (Int32 × TS), gd (1 : Int32) 9 k = k := fun _ => rfl
  have gd2 : ∀ k : Option (Int32 × TS), gd (2 : Int32) 9 k = k := fun _ => rfl
  have z1 : (1 : Int32).toNatClampNeg = 1 := rfl
  have z2 : (2 : Int32).toNatClampNeg = 2 := rfl
  have z3 : (3 : Int32).toNatClampNeg = 3 := rfl
  have hA := addMove_m (nB := nB) (p := p) (c := c) hL hS h27 hlM hday ho hsc (nt fee) false
  rw [b1_f] at hA
  have hstart : F_X13_sale s (nt p) (nt c) (nt fee) x4 x5 x6 = saleK T0 (nt so) (nt p) (nt c) (nt fee) (nt nM) := by
    have fA : frm (ks [3328, 3329, 3330, 3331, 3332, 3333, 3334, 3342, 1327]) s (lmA s nM p co c d (nt fee) false) := lmA_f _ _
    have LA := Ilen_f fA hL
    have A49 : tA (lmA s nM p co c d (nt fee) false) 3349 = tA s 3349 := (fA.1 3349 rfl).2.2.2.2.1
    have w : ∀ (u : TS) k (x : Int32) (K : TS → Option (Int32 × TS)), tL u k 0 = 200 → gd (nt nM) (tL u k 0) (nxt (uA u k 0 (nt nM).toNatClampNeg x) K) = K (uA u k 0 nM x) := fun u k x K h => by
      rw [h, gd_nt _ (by omega) (by omega), nxt_e, nt_cl (by omega)]
    unfold F_X13_sale
    rw [hday, ownSpan_eqM hL hS, (own_lt ho).2.1, ob_s, hA, ob2_s, (show tL _ 3349 0 = 9 from LA 3349 rfl), gd3, z3, A49]
    refine (w _ 3335 _ _ (by exact LA 3335 rfl)).trans ?_
    refine (w _ 3336 _ _ (by exact LA 3336 rfl)).trans ?_
    refine (w _ 3337 _ _ (by exact LA 3337 rfl)).trans ?_
    refine (w _ 3338 _ _ (by exact LA 3338 rfl)).trans ?_
    rw [hT0]
    rfl
  obtain ⟨T1, hT1⟩ : ∃ T1, T1 = pkM T0 nM kc := ⟨_, rfl⟩
  have hk := hkm T0 (nt p) (nt c) hL0 (fun a ha => by
    have g := g0 a ha
    unfold agm at g
    simp only [g, and_self]) (by rw [(f0.1 3324 rfl).2.2.2.2.1])
  rw [← hT1] at hk
  have f1 : frm (ks [3341, 3342]) T0 T1 := by
    rw [hT1]
    cases kc with
    | none => exact frm_rf
    | some x => exact frm_tr (frm_uA rfl) (frm_uA rfl)
  have g1 : ∀ m, ¬ m = nM → agm T0 T1 m := fun m hm => by
    rw [hT1]
    cases kc with
    | none => exact agm_f (D := fun _ => false) frm_rf (by decide)
    | some x =>
      unfold agm pkM
      simp (disch := omega) only [I_uI, I_uI_n, R_uR, R_uR_n, A_uA, A_uA_n, J_uJ, J_uJ_n, Q_uQ, Q_uQ_n, E_uO, E_uO_n, I_uO, I_uO_n, R_uO, R_uO_n, E_uN, E_uN_n, L_uN, L_uN_n, A_uN, A_uN_n, J_uN, J_uN_n, Q_uN, Q_uN_n, A_uCA, A_uCA_n, J_uCJ, J_uCJ_n, E_uI, R_uI, L_uI, A_uI, J_uI, Q_uI, E_uR, I_uR, L_uR, A_uR, J_uR, Q_uR, E_uA, I_uA, R_uA, L_uA, J_uA, Q_uA, E_uJ, I_uJ, R_uJ, L_uJ, A_uJ, Q_uJ, E_uQ, I_uQ, R_uQ, L_uQ, A_uQ, J_uQ, L_uO, A_uO, J_uO, Q_uO, I_uN, R_uN, E_uCA, I_uCA, R_uCA, L_uCA, J_uCA, Q_uCA, E_uCJ, I_uCJ, R_uCJ, L_uCJ, A_uCJ, Q_uCJ, m1_s, m1_n, implies_true, and_self]
  have r41 : tA T1 3341 0 nM = nt (kv1 kc) := by
    rw [hT1]
    cases kc with
    | none => show tA T0 3341 0 nM = nt 0; rw [(f0.1 3341 rfl).2.2.2.2.1]; exact h41
    | some x => show tA (uA (uA T0 3341 0 nM (nt x.2)) 3342 0 nM (nt x.1)) 3341 0 nM = nt x.2; simp (disch := omega) only [I_uI, I_uI_n, R_uR, R_uR_n, A_uA, A_uA_n, J_uJ, J_uJ_n, Q_uQ, Q_uQ_n, E_uO, E_uO_n, I_uO, I_uO_n, R_uO, R_uO_n, E_uN, E_uN_n, L_uN, L_uN_n, A_uN, A_uN_n, J_uN, J_uN_n, Q_uN, Q_uN_n, A_uCA, A_uCA_n, J_uCJ, J_uCJ_n, E_uI, R_uI, L_uI, A_uI, J_uI, Q_uI, E_uR, I_uR, L_uR, A_uR, J_uR, Q_uR, E_uA, I_uA, R_uA, L_uA, J_uA, Q_uA, E_uJ, I_uJ, R_uJ, L_uJ, A_uJ, Q_uJ, E_uQ, I_uQ, R_uQ, L_uQ, A_uQ, J_uQ, L_uO, A_uO, J_uO, Q_uO, I_uN, R_uN, E_uCA, I_uCA, R_uCA, L_uCA, J_uCA, Q_uCA, E_uCJ, I_uCJ, R_uCJ, L_uCJ, A_uCJ, Q_uCJ, m1_s]
  have r42 : tA T1 3342 0 nM = enc (ko1 kc) := by
    rw [hT1]
    cases kc with
    | none => exact n42
    | some x => show tA (uA (uA T0 3341 0 nM (nt x.2)) 3342 0 nM (nt x.1)) 3342 0 nM = nt x.1; simp (disch := omega) only [I_uI, I_uI_n, R_uR, R_uR_n, A_uA, A_uA_n, J_uJ, J_uJ_n, Q_uQ, Q_uQ_n, E_uO, E_uO_n, I_uO, I_uO_n, R_uO, R_uO_n, E_uN, E_uN_n, L_uN, L_uN_n, A_uN, A_uN_n, J_uN, J_uN_n, Q_uN, Q_uN_n, A_uCA, A_uCA_n, J_uCJ, J_uCJ_n, E_uI, R_uI, L_uI, A_uI, J_uI, Q_uI, E_uR, I_uR, L_uR, A_uR, J_uR, Q_uR, E_uA, I_uA, R_uA, L_uA, J_uA, Q_uA, E_uJ, I_uJ, R_uJ, L_uJ, A_uJ, Q_uJ, E_uQ, I_uQ, R_uQ, L_uQ, A_uQ, J_uQ, L_uO, A_uO, J_uO, Q_uO, I_uN, R_uN, E_uCA, I_uCA, R_uCA, L_uCA, J_uCA, Q_uCA, E_uCJ, I_uCJ, R_uCJ, L_uCJ, A_uCJ, Q_uCJ, m1_s]
  have ft1 : frm (ks kTm) s T1 := frm_tr (frm_sb f0 (ks_sb rfl)) (frm_sb f1 (ks_sb rfl))
  have hL1 := Ilen_f ft1 hL
  obtain ⟨T2, a1, a2, a3, a4⟩ := ps_all (t := T1) (m := nM) (p := p) (co := co) (d := d) (fee := fee) hL1 (Mbody_f ft1 (by decide) hB) (Mspan_f ft1 (by decide) hS) (by rw [(ft1.1 1301 rfl).2.1]; exact hday) hd hp hco hlM (by rw [(f1.1 3328 rfl).2.2.2.2.1]; exact n28) (by rw [(f1.1 3329 rfl).2.2.2.2.1]; exact n29) hf (by rw [(f1.1 3331 rfl).2.2.2.2.1]; exact n31) (fun i hi => by rw [(f1.1 3347 rfl).2.2.2.2.1, (f0.1 3347 rfl).2.2.2.2.1]; exact hz i hi) (by rw [(f1.1 3343 rfl).2.2.2.2.1, (f0.1 3343 rfl).2.2.2.2.1]; exact h43)
  have etc : tch T1 nS p d = tch s nS p d := by
    funext k
    unfold tch D0 NN lastZ
    have hcz : cz T1 nS p = cz s nS p := by funext z; exact cz_f ft1 (by decide)
    have h12 : tA T1 3312 = tA s 3312 := (ft1.1 3312 rfl).2.2.2.2.1
    unfold D0
    rw [hcz, h12]
  rw [etc] at a3 a4
  have g2 : ∀ m, ¬ m = nM → agm T1 T2 m := fun m hm => by
    have q5 := a4 m
    rw [m1_n hm] at q5
    have q6 : ∀ c, c < 150 → tA T2 3347 0 (150 * m + c) = tA T1 3347 0 (150 * m + c) := fun c hc => by rw [a3, if_neg (by omega)]
    unfold agm
    simp only [q5, (a2.1 3206 rfl).2.2.2.2.2.2, (a2.1 6 rfl).1, (a2.1 2614 rfl).1, (a2.1 2614 rfl).2.2.2.1, (a2.1 2614 rfl).2.2.2.2.1, (a2.1 600 rfl).2.1, (a2.1 604 rfl).2.1, (a2.1 605 rfl).2.1, (a2.1 606 rfl).2.1, (a2.1 608 rfl).2.1, (a2.1 609 rfl).2.1, (a2.1 610 rfl).2.1, (a2.1 611 rfl).2.1, (a2.1 613 rfl).2.1, (a2.1 615 rfl).2.1, (a2.1 616 rfl).2.1, (a2.1 617 rfl).2.1, (a2.1 618 rfl).2.1, (a2.1 619 rfl).2.1, (a2.1 601 rfl).2.2.1, (a2.1 602 rfl).2.2.1, (a2.1 603 rfl).2.2.1, (a2.1 607 rfl).2.2.1, (a2.1 612 rfl).2.2.1, (a2.1 614 rfl).2.2.1, (a2.1 3328 rfl).2.2.2.2.1, (a2.1 3329 rfl).2.2.2.2.1, (a2.1 3330 rfl).2.2.2.2.1, (a2.1 3331 rfl).2.2.2.2.1, (a2.1 3332 rfl).2.2.2.2.1, (a2.1 3333 rfl).2.2.2.2.1, (a2.1 3334 rfl).2.2.2.2.1, (a2.1 3335 rfl).2.2.2.2.1, (a2.1 3336 rfl).2.2.2.2.1, (a2.1 3337 rfl).2.2.2.2.1, (a2.1 3338 rfl).2.2.2.2.1, (a2.1 3339 rfl).2.2.2.2.1, (a2.1 3340 rfl).2.2.2.2.1, (a2.1 3341 rfl).2.2.2.2.1, (a2.1 3342 rfl).2.2.2.2.1, (a2.1 3344 rfl).2.2.2.2.1, (a2.1 3345 rfl).2.2.2.2.1, (a2.1 3346 rfl).2.2.2.2.1, true_and]
    exact q6
  have hL2 : Ilen T2 := Ilen_f a2 hL1
  have h43' : tA T2 3343 0 nM = nt (shW nB fee co (tch s nS p d)) := by rw [a4, m1_s]
  have h10 : tA T2 3310 = tA s 3310 := by rw [(a2.1 3310 rfl).2.2.2.2.1, (f1.1 3310 rfl).2.2.2.2.1, (f0.1 3310 rfl).2.2.2.2.1]
  have h29 : tA T2 3329 0 nM = nt co := by rw [(a2.1 3329 rfl).2.2.2.2.1, (f1.1 3329 rfl).2.2.2.2.1]; exact n29
  have h41' : tA T2 3341 0 nM = nt (kv1 kc) := by rw [(a2.1 3341 rfl).2.2.2.2.1]; exact r41
  have h42' : tA T2 3342 0 nM = enc (ko1 kc) := by rw [(a2.1 3342 rfl).2.2.2.2.1]; exact r42
  obtain ⟨X, hX⟩ : ∃ X, X = nt fee - nt (kv1 kc) - nt (shW nB fee co (tch s nS p d)) := ⟨_, rfl⟩
  obtain ⟨T3, hT3⟩ : ∃ T3, T3 = uA (uA (uA T2 3344 0 nM (nt ag)) 3310 0 c (tA s 3310 0 c - (nt fee + nt ag))) 3310 0 co (mm_u1 (tA s 3310 0) c (tA s 3310 0 c - (nt fee + nt ag)) co + X) := ⟨_, rfl⟩
  have f3 : frm (ks [3344, 3310]) T2 T3 := by rw [hT3]; exact frm_tr (frm_uA rfl) (frm_tr (frm_uA rfl) (frm_uA rfl))
  have g3 : ∀ m, ¬ m = nM → agm T2 T3 m := fun m hm => by
    rw [hT3]
    unfold agm
    simp (disch := omega) only [I_uI, I_uI_n, R_uR, R_uR_n, A_uA, A_uA_n, J_uJ, J_uJ_n, Q_uQ, Q_uQ_n, E_uO, E_uO_n, I_uO, I_uO_n, R_uO, R_uO_n, E_uN, E_uN_n, L_uN, L_uN_n, A_uN, A_uN_n, J_uN, J_uN_n, Q_uN, Q_uN_n, A_uCA, A_uCA_n, J_uCJ, J_uCJ_n, E_uI, R_uI, L_uI, A_uI, J_uI, Q_uI, E_uR, I_uR, L_uR, A_uR, J_uR, Q_uR, E_uA, I_uA, R_uA, L_uA, J_uA, Q_uA, E_uJ, I_uJ, R_uJ, L_uJ, A_uJ, Q_uJ, E_uQ, I_uQ, R_uQ, L_uQ, A_uQ, J_uQ, L_uO, A_uO, J_uO, Q_uO, I_uN, R_uN, E_uCA, I_uCA, R_uCA, L_uCA, J_uCA, Q_uCA, E_uCJ, I_uCJ, R_uCJ, L_uCJ, A_uCJ, Q_uCJ, m1_s, m1_n, implies_true, and_self]
  have hL3 := Ilen_f f3 hL2
  have c3 : ∀ i, tA T3 3310 0 i = tA s 3310 0 i + (if i = c then -(nt fee + nt ag) else 0) + (if i = co then X else 0) := fun i => by
    rw [hT3]
    simp (disch := omega) only [I_uI, I_uI_n, R_uR, R_uR_n, A_uA, A_uA_n, J_uJ, J_uJ_n, Q_uQ, Q_uQ_n, E_uO, E_uO_n, I_uO, I_uO_n, R_uO, R_uO_n, E_uN, E_uN_n, L_uN, L_uN_n, A_uN, A_uN_n, J_uN, J_uN_n, Q_uN, Q_uN_n, A_uCA, A_uCA_n, J_uCJ, J_uCJ_n, E_uI, R_uI, L_uI, A_uI, J_uI, Q_uI, E_uR, I_uR, L_uR, A_uR, J_uR, Q_uR, E_uA, I_uA, R_uA, L_uA, J_uA, Q_uA, E_uJ, I_uJ, R_uJ, L_uJ, A_uJ, Q_uJ, E_uQ, I_uQ, R_uQ, L_uQ, A_uQ, J_uQ, L_uO, A_uO, J_uO, Q_uO, I_uN, R_uN, E_uCA, I_uCA, R_uCA, L_uCA, J_uCA, Q_uCA, E_uCJ, I_uCJ, R_uCJ, L_uCJ, A_uCJ, Q_uCJ, m1_s, h10]
    by_cases e1 : i = co
    · subst e1
      rw [m1_s, if_pos rfl]
      by_cases e2 : i = c
      · subst e2; rw [m1_s, if_pos rfl, Int32.sub_eq_add_neg]
      · rw [m1_n e2, if_neg e2, Int32.add_zero]
    · rw [m1_n e1, if_neg e1, Int32.add_zero]
      by_cases e2 : i = c
      · subst e2; rw [m1_s, if_pos rfl, Int32.sub_eq_add_neg]
      · rw [m1_n e2, if_neg e2, Int32.add_zero]
  obtain ⟨T4, h156, f4, g4, c4⟩ : ∃ T4, B_X13_sale_156 T2 (nt c) (nt fee) (nt nM) (nt ag) (nt nM) = B_X13_sale_239 T4 (nt nM) ∧ frm (ks [3310]) T3 T4 ∧ (∀ m, ¬ m = nM → agm T3 T4 m) ∧ ∀ i, tA T4 3310 0 i = tA T3 3310 0 i + kk1 kc i := by
    have q1 : ∀ v, tA (uA T2 3344 0 nM v) 3310 = tA s 3310 := fun v => by rw [A_uA_n (by decide)]; exact h10
    have q2 : ∀ v, tA (uA T2 3344 0 nM v) 3344 0 nM = v := fun v => by rw [A_uA, m1_s, m1_s]
    have q3 : ∀ v w, tA (uA (uA T2 3344 0 nM v) 3310 0 c w) 3329 0 nM = nt co := fun v w => h29
    have q4 : ∀ v w, tA (uA (uA T2 3344 0 nM v) 3310 0 c w) 3310 0 = mm_u1 (tA s 3310 0) c w := fun v w => by rw [A_uA, m1_s, q1]
    have q5 : ∀ v w, tA (uA (uA T2 3344 0 nM v) 3310 0 c w) 3341 0 nM = nt (kv1 kc) := fun v w => h41'
    have q6 : ∀ v w, tA (uA (uA T2 3344 0 nM v) 3310 0 c w) 3343 0 nM = nt (shW nB fee co (tch s nS p d)) := fun v w => h43'
    have q7 : tA T3 3342 0 nM = enc (ko1 kc) := by rw [(f3.1 3342 rfl).2.2.2.2.1]; exact h42'
    have q8 : tA T3 3341 0 nM = nt (kv1 kc) := by rw [(f3.1 3341 rfl).2.2.2.2.1]; exact h41'
    have l1 : ∀ v k, tL (uA T2 3344 0 nM v) k = tL T2 k := fun _ _ => rfl
    have l2 : ∀ v w k, tL (uA (uA T2 3344 0 nM v) 3310 0 c w) k = tL T2 k := fun _ _ _ => rfl
    unfold B_X13_sale_156
    rw [(show tL _ 3344 0 = 200 from hL2 3344 rfl), gd_nt _ (by omega) (by omega), nt_cl (show nM < 2147483648 by omega), nxt_e, l1, l1, (show tL _ 3310 0 = 150 from hL2 3310 rfl), (show tL _ 3344 0 = 200 from hL2 3344 rfl), gd_nt _ (by omega) (by omega), gd_nt _ (by omega) (by omega), gd_nt _ (by omega) (by omega), nt_cl (show c < 2147483648 by omega), q1, q2, nxt_e, l2, l2, l2, l2, (show tL _ 3329 0 = 200 from hL2 3329 rfl), (show tL _ 3310 0 = 150 from hL2 3310 rfl), (show tL _ 3341 0 = 200 from hL2 3341 rfl), (show tL _ 3343 0 = 200 from hL2 3343 rfl), gd_nt _ (by omega) (by omega), q3, gd_nt _ (by omega) (by omega), gd_nt _ (by omega) (by omega), gd_nt _ (by omega) (by omega), gd_nt _ (by omega) (by omega), nt_cl (show co < 2147483648 by omega), q4, q5, q6, ← hX, ← hT3, nxt_e, (show tL _ 3342 0 = 200 from hL3 3342 rfl), gd_nt _ (by omega) (by omega), q7]
    cases kc with
    | none =>
      rw [if_pos (by decide)]
      exact ⟨T3, rfl, frm_rf, fun m hm => agm_f (D := fun _ => false) frm_rf (by decide), fun i => (Int32.add_zero _).symm⟩
    | some x =>
      obtain ⟨x1, x2⟩ := hk1 x rfl
      have e42 : enc (ko1 (some x)) = nt x.1 := rfl
      have e41 : kv1 (some x) = x.2 := rfl
      rw [e42, if_neg (nt_neg (by omega)), (show tL _ 3310 0 = 150 from hL3 3310 rfl), (show tL _ 3341 0 = 200 from hL3 3341 rfl), gd_nt _ (by omega) (by omega), gd_nt _ (by omega) (by omega), gd_nt _ (by omega) (by omega), gd_nt _ (by omega) (by omega), nt_cl (by omega), q8, e41, nxt_e]
      refine ⟨_, rfl, frm_uA rfl, fun m hm => agm_f (D := ks [3310]) (frm_uA rfl) (by decide), fun i => ?_⟩
      rw [A_uA, m1_s]
      show _ = tA T3 3310 0 i + (if i = x.1 then nt x.2 else 0)
      by_cases e : i = x.1
      · rw [if_pos e, e, m1_s]
      · rw [if_neg e, m1_n e, Int32.add_zero]
  have hL4 := Ilen_f f4 hL3
  have e07 : tI T4 1307 0 = nt nB := by rw [(f4.1 1307 rfl).2.1, (f3.1 1307 rfl).2.1, (a2.1 1307 rfl).2.1, (ft1.1 1307 rfl).2.1]; exact hB.2.1
  obtain ⟨T5, d1, d2, d3⟩ := sm_coin (T := T4) (m := nM) hL4 hnB hlM e07
  have f5 : frm (ks [3310]) T4 T5 := oA_f d2 rfl
  have hL5 := Ilen_f f5 hL4
  have e47 : tA T4 3347 = tA T2 3347 := by rw [(f4.1 3347 rfl).2.2.2.2.1, (f3.1 3347 rfl).2.2.2.2.1]
  have ft5 : frm (ks kTm) s T5 := frm_tr ft1 (frm_tr (frm_sb a2 (ks_sb rfl)) (frm_tr (frm_sb f3 (ks_sb rfl)) (frm_tr (frm_sb f4 (ks_sb rfl)) (frm_sb f5 (ks_sb rfl)))))
  have f25 : frm (ks [3344, 3310]) T2 T5 := frm_tr f3 (frm_tr (frm_sb f4 (ks_sb rfl)) (frm_sb f5 (ks_sb rfl)))
  have r44 : tA T5 3344 0 nM = nt ag := by rw [(f5.1 3344 rfl).2.2.2.2.1, (f4.1 3344 rfl).2.2.2.2.1, hT3]; simp (disch := omega) only [I_uI, I_uI_n, R_uR, R_uR_n, A_uA, A_uA_n, J_uJ, J_uJ_n, Q_uQ, Q_uQ_n, E_uO, E_uO_n, I_uO, I_uO_n, R_uO, R_uO_n, E_uN, E_uN_n, L_uN, L_uN_n, A_uN, A_uN_n, J_uN, J_uN_n, Q_uN, Q_uN_n, A_uCA, A_uCA_n, J_uCJ, J_uCJ_n, E_uI, R_uI, L_uI, A_uI, J_uI, Q_uI, E_uR, I_uR, L_uR, A_uR, J_uR, Q_uR, E_uA, I_uA, R_uA, L_uA, J_uA, Q_uA, E_uJ, I_uJ, R_uJ, L_uJ, A_uJ, Q_uJ, E_uQ, I_uQ, R_uQ, L_uQ, A_uQ, J_uQ, L_uO, A_uO, J_uO, Q_uO, I_uN, R_uN, E_uCA, I_uCA, R_uCA, L_uCA, J_uCA, Q_uCA, E_uCJ, I_uCJ, R_uCJ, L_uCJ, A_uCJ, Q_uCJ, m1_s]
  have e49 : tA T5 3349 = tA s 3349 := (ft5.1 3349 rfl).2.2.2.2.1
  have r28 : tA T5 3328 0 nM = nt p := by rw [(f25.1 3328 rfl).2.2.2.2.1, (a2.1 3328 rfl).2.2.2.2.1, (f1.1 3328 rfl).2.2.2.2.1]; exact n28
  have r30 : tA T5 3330 0 nM = nt c := by rw [(f25.1 3330 rfl).2.2.2.2.1, (a2.1 3330 rfl).2.2.2.2.1, (f1.1 3330 rfl).2.2.2.2.1]; exact n30
  refine ⟨T5, ?_, ft5, fun m hm => agm_tr (g0 m hm) (agm_tr (g1 m hm) (agm_tr (g2 m hm) (agm_tr (g3 m hm) (agm_tr (g4 m hm) (agm_f f5 (by decide)))))), ?_, fun i hi => ?_, fun i => ?_⟩
  · rw [hstart, hk]
    unfold B_X13_sale_126
    rw [a1, ob_s, hag T2 (nt c) (nt nM) hL2 (by rw [(a2.1 3314 rfl).2.2.2.2.1, (ft1.1 3314 rfl).2.2.2.2.1]), h156]
    unfold B_X13_sale_239
    rw [d1]
    unfold B_X13_sale_281
    have hsp := addMoveSpan_m (t := T5) (nM := nM) (nS := nS) (p := p) (c := c) (d := d) hL5 (by rw [(ft5.1 1316 rfl).2.1]; exact h16) hlS hlM (by rw [(ft5.1 1301 rfl).2.1]; exact hday) r28 r30 (tA s 3349 0 1) 1
    rw [(show tL _ 3349 0 = 9 from hL5 3349 rfl), gd1, z1, e49, hsp, ob_s]
    have fS : frm (ks [1316, 3317, 3318, 3319, 3320, 3321, 3322, 3323, 3324, 3340]) T5 (lmS T5 nM p c nS d (tA s 3349 0 1) 1) := lmS_f
    have hL6 := Ilen_f fS hL5
    have e40 : tA (lmS T5 nM p c nS d (tA s 3349 0 1) 1) 3340 0 nM = nt nS := by
      unfold lmS mS
      simp (disch := omega) only [I_uI, I_uI_n, R_uR, R_uR_n, A_uA, A_uA_n, J_uJ, J_uJ_n, Q_uQ, Q_uQ_n, E_uO, E_uO_n, I_uO, I_uO_n, R_uO, R_uO_n, E_uN, E_uN_n, L_uN, L_uN_n, A_uN, A_uN_n, J_uN, J_uN_n, Q_uN, Q_uN_n, A_uCA, A_uCA_n, J_uCJ, J_uCJ_n, E_uI, R_uI, L_uI, A_uI, J_uI, Q_uI, E_uR, I_uR, L_uR, A_uR, J_uR, Q_uR, E_uA, I_uA, R_uA, L_uA, J_uA, Q_uA, E_uJ, I_uJ, R_uJ, L_uJ, A_uJ, Q_uJ, E_uQ, I_uQ, R_uQ, L_uQ, A_uQ, J_uQ, L_uO, A_uO, J_uO, Q_uO, I_uN, R_uN, E_uCA, I_uCA, R_uCA, L_uCA, J_uCA, Q_uCA, E_uCJ, I_uCJ, R_uCJ, L_uCJ, A_uCJ, Q_uCJ, m1_s]
    rw [(show tL _ 3340 0 = 200 from hL6 3340 rfl), (show tL _ 3349 0 = 9 from hL6 3349 rfl), (show tL _ 3323 0 = 600 from hL6 3323 rfl), gd_nt _ (by omega) (by omega), gd2, nt_cl (show nM < 2147483648 by omega), e40, gd_nt _ (by omega) (by omega), nt_cl (by omega), z2, (fS.1 3349 rfl).2.2.2.2.1, e49, nxt_e]
  · rw [r28, r30, r44, (f25.1 3329 rfl).2.2.2.2.1, (f25.1 3331 rfl).2.2.2.2.1, (f25.1 3332 rfl).2.2.2.2.1, (f25.1 3333 rfl).2.2.2.2.1, (f25.1 3334 rfl).2.2.2.2.1, (f25.1 3335 rfl).2.2.2.2.1, (f25.1 3336 rfl).2.2.2.2.1, (f25.1 3337 rfl).2.2.2.2.1, (f25.1 3338 rfl).2.2.2.2.1, (f25.1 3341 rfl).2.2.2.2.1, (f25.1 3342 rfl).2.2.2.2.1, (f25.1 3343 rfl).2.2.2.2.1, (f25.1 1327 rfl).2.1, h29, h41', h42', h43', (a2.1 3331 rfl).2.2.2.2.1, (a2.1 3332 rfl).2.2.2.2.1, (a2.1 3333 rfl).2.2.2.2.1, (a2.1 3334 rfl).2.2.2.2.1, (a2.1 3335 rfl).2.2.2.2.1, (a2.1 3336 rfl).2.2.2.2.1, (a2.1 3337 rfl).2.2.2.2.1, (a2.1 3338 rfl).2.2.2.2.1, (a2.1 1327 rfl).2.1, (f1.1 3331 rfl).2.2.2.2.1, (f1.1 3332 rfl).2.2.2.2.1, (f1.1 3333 rfl).2.2.2.2.1, (f1.1 3334 rfl).2.2.2.2.1, (f1.1 3335 rfl).2.2.2.2.1, (f1.1 3336 rfl).2.2.2.2.1, (f1.1 3337 rfl).2.2.2.2.1, (f1.1 3338 rfl).2.2.2.2.1, (f1.1 1327 rfl).2.1]
    exact ⟨rfl, rfl, rfl, n31, n32, n33, n34, n35, n36, n37, n38, rfl, rfl, rfl, rfl, n27⟩
  · rw [(f25.1 3347 rfl).2.2.2.2.1, a3]
    by_cases e : i < nB
    · rw [if_pos (by omega), if_pos e, show 150 * nM + i - 150 * nM = i by omega]
    · rw [if_neg (by omega), if_neg e, (f1.1 3347 rfl).2.2.2.2.1, (f0.1 3347 rfl).2.2.2.2.1]; exact hz i hi
  · rw [d3]
    by_cases e : i < nB
    · have hcb : 150 * nM ≤ 150 * nM + i ∧ 150 * nM + i < 150 * nM + nB := by omega
      rw [if_pos e, if_pos e, c4, c3, e47, a3, if_pos hcb, show 150 * nM + i - 150 * nM = i by omega, ← hX]
    · have hic : ¬ i = c := by omega
      have hico : ¬ i = co := by omega
      have hik : kk1 kc i = 0 := by
        cases kc with
        | none => rfl
        | some x => exact if_neg (by have := (hk1 x rfl).1; omega)
      rw [if_neg e, if_neg e, c4, c3, if_neg hic, if_neg hico, hik, Int32.add_zero, Int32.add_zero, Int32.add_zero]
end
