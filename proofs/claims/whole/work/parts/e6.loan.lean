/-! PART e6: the move and the span that a loan brings, by both. -/
section
variable {u s : TS} {nB nS nM p c co d : Nat}
def lnW (u : TS) (nS nM p c co d : Nat) : TS := lnC (cS (lnB (lnA u nM p co c (tA u 3208 0 0) (tA u 3208 0 8)) co c (tA u 3208 0 0)) p c nS 2 (nt d) (tA u 3208 0 7)) nM nS
theorem lnA_f {fee opt : Int32} : frm (ko 6) u (lnA u nM p co c fee opt) := frm_tr (frm_uO (fun k h => h)) (frm_tr (frm_uI rfl) (frm_tr (frm_uI rfl) (frm_tr (frm_uR rfl) (frm_tr (frm_uR rfl) (frm_tr (frm_uR rfl) (frm_tr (frm_uI rfl) (frm_tr (frm_uI rfl) (frm_uI rfl))))))))
theorem lnB_f {fee : Int32} : frm (ks [103]) u (lnB u co c fee) := frm_tr (frm_uI rfl) (frm_uI rfl)
theorem lnC_f : frm (ks [607, 1107, 3206, 1207]) u (lnC u nM nS) := frm_tr (frm_uR rfl) (frm_tr (frm_uR rfl) (frm_tr (frm_uQ rfl) (frm_uI rfl)))
theorem kLn_ks {L : List Nat} (h : L.all kLn = true) : ∀ k, kLn k = false → ks L k = false := ks_sb h
theorem lnW_f : frm kLn u (lnW u nS nM p c co d) := frm_tr (frm_sb lnA_f kLn_ko6) (frm_tr (frm_sb lnB_f (ks_sb rfl)) (frm_tr (frm_sb cS_f2 kLn_kCs) (frm_sb lnC_f (ks_sb rfl))))
theorem lnA_agr {fee opt : Int32} {m : Nat} (hm : ¬ m = nM) : agm u (lnA u nM p co c fee opt) m := by
  unfold agm lnA
  simp (disch := omega) only [I_uI, I_uI_n, R_uR, R_uR_n, A_uA, A_uA_n, J_uJ, J_uJ_n, Q_uQ, Q_uQ_n, E_uO, E_uO_n, I_uO, I_uO_n, R_uO, R_uO_n, E_uN, E_uN_n, L_uN, L_uN_n, A_uN, A_uN_n, J_uN, J_uN_n, Q_uN, Q_uN_n, A_uCA, A_uCA_n, J_uCJ, J_uCJ_n, E_uI, R_uI, L_uI, A_uI, J_uI, Q_uI, E_uR, I_uR, L_uR, A_uR, J_uR, Q_uR, E_uA, I_uA, R_uA, L_uA, J_uA, Q_uA, E_uJ, I_uJ, R_uJ, L_uJ, A_uJ, Q_uJ, E_uQ, I_uQ, R_uQ, L_uQ, A_uQ, J_uQ, L_uO, A_uO, J_uO, Q_uO, I_uN, R_uN, E_uCA, I_uCA, R_uCA, L_uCA, J_uCA, Q_uCA, E_uCJ, I_uCJ, R_uCJ, L_uCJ, A_uCJ, Q_uCJ, m1_s, m1_n, implies_true, and_self]
theorem lnC_agr {m : Nat} (hm : ¬ m = nM) : agm u (lnC u nM nS) m := by
  unfold agm lnC
  simp (disch := omega) only [I_uI, I_uI_n, R_uR, R_uR_n, A_uA, A_uA_n, J_uJ, J_uJ_n, Q_uQ, Q_uQ_n, E_uO, E_uO_n, I_uO, I_uO_n, R_uO, R_uO_n, E_uN, E_uN_n, L_uN, L_uN_n, A_uN, A_uN_n, J_uN, J_uN_n, Q_uN, Q_uN_n, A_uCA, A_uCA_n, J_uCJ, J_uCJ_n, E_uI, R_uI, L_uI, A_uI, J_uI, Q_uI, E_uR, I_uR, L_uR, A_uR, J_uR, Q_uR, E_uA, I_uA, R_uA, L_uA, J_uA, Q_uA, E_uJ, I_uJ, R_uJ, L_uJ, A_uJ, Q_uJ, E_uQ, I_uQ, R_uQ, L_uQ, A_uQ, J_uQ, L_uO, A_uO, J_uO, Q_uO, I_uN, R_uN, E_uCA, I_uCA, R_uCA, L_uCA, J_uCA, Q_uCA, E_uCJ, I_uCJ, R_uCJ, L_uCJ, A_uCJ, Q_uCJ, m1_s, m1_n, implies_true, and_self]
theorem lnW_agr {m : Nat} (hm : ¬ m = nM) : agm u (lnW u nS nM p c co d) m := by
  unfold lnW
  have h1 := lnA_agr (u := u) (p := p) (co := co) (c := c) (fee := tA u 3208 0 0) (opt := tA u 3208 0 8) hm
  generalize lnA u nM p co c (tA u 3208 0 0) (tA u 3208 0 8) = a at h1 ⊢
  have h2 : agm a (lnB a co c (tA u 3208 0 0)) m := agm_f lnB_f (by decide)
  generalize lnB a co c (tA u 3208 0 0) = b at h2 ⊢
  have h3 : agm b (cS b p c nS 2 (nt d) (tA u 3208 0 7)) m := agm_f cS_f2 (by decide)
  exact agm_tr h1 (agm_tr h2 (agm_tr h3 (lnC_agr hm)))
theorem lmT_agr {m : Nat} (hm : ¬ m = nM) (h200 : nM < 200) : agm s (lmT s nS nM p co c d) m := by
  unfold agm lmT lmS mS lmC lmB lmA
  simp (disch := omega) only [I_uI, I_uI_n, R_uR, R_uR_n, A_uA, A_uA_n, J_uJ, J_uJ_n, Q_uQ, Q_uQ_n, E_uO, E_uO_n, I_uO, I_uO_n, R_uO, R_uO_n, E_uN, E_uN_n, L_uN, L_uN_n, A_uN, A_uN_n, J_uN, J_uN_n, Q_uN, Q_uN_n, A_uCA, A_uCA_n, J_uCJ, J_uCJ_n, E_uI, R_uI, L_uI, A_uI, J_uI, Q_uI, E_uR, I_uR, L_uR, A_uR, J_uR, Q_uR, E_uA, I_uA, R_uA, L_uA, J_uA, Q_uA, E_uJ, I_uJ, R_uJ, L_uJ, A_uJ, Q_uJ, E_uQ, I_uQ, R_uQ, L_uQ, A_uQ, J_uQ, L_uO, A_uO, J_uO, Q_uO, I_uN, R_uN, E_uCA, I_uCA, R_uCA, L_uCA, J_uCA, Q_uCA, E_uCJ, I_uCJ, R_uCJ, L_uCJ, A_uCJ, Q_uCJ, m1_s, m1_n, implies_true, and_self]
theorem lmT_f : frm (ks [1316, 3317, 3318, 3319, 3320, 3321, 3322, 3323, 3324, 3340, 3310, 3339, 3328, 3329, 3330, 3331, 3332, 3333, 3334, 3342, 1327]) s (lmT s nS nM p co c d) := frm_tr (frm_sb (lmA_f _ _) (ks_sb rfl)) (frm_tr (frm_uA rfl) (frm_tr (frm_uA rfl) (frm_tr (frm_uA rfl) (frm_sb lmS_f (ks_sb rfl)))))
/-- reads of the class's state at the new move -/
theorem lnW_new : tQ (lnW u nS nM p c co d) 3206 0 nM = some nM ∧ tE (lnW u nS nM p c co d) 6 nM = true ∧ tI (lnW u nS nM p c co d) 600 nM = nt nM ∧ tR (lnW u nS nM p c co d) 601 nM = some p ∧ tR (lnW u nS nM p c co d) 602 nM = some co ∧ tR (lnW u nS nM p c co d) 603 nM = some c ∧ tI (lnW u nS nM p c co d) 604 nM = tA u 3208 0 0 ∧ tI (lnW u nS nM p c co d) 605 nM = 1 ∧ tI (lnW u nS nM p c co d) 606 nM = tA u 3208 0 8 ∧ tR (lnW u nS nM p c co d) 607 nM = some nS ∧ tI (lnW u nS nM p c co d) 608 nM = 0 ∧ tI (lnW u nS nM p c co d) 610 nM = 0 ∧ tI (lnW u nS nM p c co d) 611 nM = 0 ∧ tR (lnW u nS nM p c co d) 612 nM = none ∧ tI (lnW u nS nM p c co d) 613 nM = 0 ∧ tR (lnW u nS nM p c co d) 614 nM = none ∧ tI (lnW u nS nM p c co d) 615 nM = 0 ∧ tI (lnW u nS nM p c co d) 616 nM = 0 ∧ tI (lnW u nS nM p c co d) 618 nM = 0 ∧ tI (lnW u nS nM p c co d) 619 nM = 0 ∧ tI (lnW u nS nM p c co d) 1207 0 = nt (nM + 1) := by
  have f1 := cS_f2 (t := lnB (lnA u nM p co c (tA u 3208 0 0) (tA u 3208 0 8)) co c (tA u 3208 0 0)) (p := p) (c := c) (n := nS) (so := 2) (fr := nt d) (to := tA u 3208 0 7)
  unfold lnW
  generalize cS (lnB (lnA u nM p co c (tA u 3208 0 0) (tA u 3208 0 8)) co c (tA u 3208 0 0)) p c nS 2 (nt d) (tA u 3208 0 7) = v at f1 ⊢
  unfold lnC
  simp (disch := omega) only [I_uI, I_uI_n, R_uR, R_uR_n, A_uA, A_uA_n, J_uJ, J_uJ_n, Q_uQ, Q_uQ_n, E_uO, E_uO_n, I_uO, I_uO_n, R_uO, R_uO_n, E_uN, E_uN_n, L_uN, L_uN_n, A_uN, A_uN_n, J_uN, J_uN_n, Q_uN, Q_uN_n, A_uCA, A_uCA_n, J_uCJ, J_uCJ_n, E_uI, R_uI, L_uI, A_uI, J_uI, Q_uI, E_uR, I_uR, L_uR, A_uR, J_uR, Q_uR, E_uA, I_uA, R_uA, L_uA, J_uA, Q_uA, E_uJ, I_uJ, R_uJ, L_uJ, A_uJ, Q_uJ, E_uQ, I_uQ, R_uQ, L_uQ, A_uQ, J_uQ, L_uO, A_uO, J_uO, Q_uO, I_uN, R_uN, E_uCA, I_uCA, R_uCA, L_uCA, J_uCA, Q_uCA, E_uCJ, I_uCJ, R_uCJ, L_uCJ, A_uCJ, Q_uCJ, m1_s, (f1.1 3206 rfl).2.2.2.2.2.2, (f1.1 6 rfl).1, (f1.1 600 rfl).2.1, (f1.1 601 rfl).2.2.1, (f1.1 602 rfl).2.2.1, (f1.1 603 rfl).2.2.1, (f1.1 604 rfl).2.1, (f1.1 605 rfl).2.1, (f1.1 606 rfl).2.1, (f1.1 608 rfl).2.1, (f1.1 610 rfl).2.1, (f1.1 611 rfl).2.1, (f1.1 612 rfl).2.2.1, (f1.1 613 rfl).2.1, (f1.1 614 rfl).2.2.1, (f1.1 615 rfl).2.1, (f1.1 616 rfl).2.1, (f1.1 618 rfl).2.1, (f1.1 619 rfl).2.1]
  unfold lnB lnA
  simp (disch := omega) only [I_uI, I_uI_n, R_uR, R_uR_n, A_uA, A_uA_n, J_uJ, J_uJ_n, Q_uQ, Q_uQ_n, E_uO, E_uO_n, I_uO, I_uO_n, R_uO, R_uO_n, E_uN, E_uN_n, L_uN, L_uN_n, A_uN, A_uN_n, J_uN, J_uN_n, Q_uN, Q_uN_n, A_uCA, A_uCA_n, J_uCJ, J_uCJ_n, E_uI, R_uI, L_uI, A_uI, J_uI, Q_uI, E_uR, I_uR, L_uR, A_uR, J_uR, Q_uR, E_uA, I_uA, R_uA, L_uA, J_uA, Q_uA, E_uJ, I_uJ, R_uJ, L_uJ, A_uJ, Q_uJ, E_uQ, I_uQ, R_uQ, L_uQ, A_uQ, J_uQ, L_uO, A_uO, J_uO, Q_uO, I_uN, R_uN, E_uCA, I_uCA, R_uCA, L_uCA, J_uCA, Q_uCA, E_uCJ, I_uCJ, R_uCJ, L_uCJ, A_uCJ, Q_uCJ, m1_s, m1_m1, m1_s, and_self]
theorem lmT_new : tA (lmT s nS nM p co c d) 3328 0 nM = nt p ∧ tA (lmT s nS nM p co c d) 3329 0 nM = nt co ∧ tA (lmT s nS nM p co c d) 3330 0 nM = nt c ∧ tA (lmT s nS nM p co c d) 3331 0 nM = tA s 3349 0 0 ∧ tA (lmT s nS nM p co c d) 3332 0 nM = nt d ∧ tA (lmT s nS nM p co c d) 3333 0 nM = 1 ∧ tA (lmT s nS nM p co c d) 3334 0 nM = 0 ∧ tA (lmT s nS nM p co c d) 3339 0 nM = tA s 3349 0 8 ∧ tA (lmT s nS nM p co c d) 3340 0 nM = nt nS ∧ tA (lmT s nS nM p co c d) 3342 0 nM = -1 ∧ tA (lmT s nS nM p co c d) 3319 0 = mm_u1 (tA s 3319 0) nS (nt d) ∧ tI (lmT s nS nM p co c d) 1327 0 = nt (nM + 1) ∧ tA (lmT s nS nM p co c d) 3310 0 = mm_u1 (mm_u1 (tA s 3310 0) c (tA s 3310 0 c - tA s 3349 0 0)) co (mm_u1 (tA s 3310 0) c (tA s 3310 0 c - tA s 3349 0 0) co + tA s 3349 0 0) := by
  unfold lmT lmS mS lmC lmB lmA
  simp (disch := omega) only [I_uI, I_uI_n, R_uR, R_uR_n, A_uA, A_uA_n, J_uJ, J_uJ_n, Q_uQ, Q_uQ_n, E_uO, E_uO_n, I_uO, I_uO_n, R_uO, R_uO_n, E_uN, E_uN_n, L_uN, L_uN_n, A_uN, A_uN_n, J_uN, J_uN_n, Q_uN, Q_uN_n, A_uCA, A_uCA_n, J_uCJ, J_uCJ_n, E_uI, R_uI, L_uI, A_uI, J_uI, Q_uI, E_uR, I_uR, L_uR, A_uR, J_uR, Q_uR, E_uA, I_uA, R_uA, L_uA, J_uA, Q_uA, E_uJ, I_uJ, R_uJ, L_uJ, A_uJ, Q_uJ, E_uQ, I_uQ, R_uQ, L_uQ, A_uQ, J_uQ, L_uO, A_uO, J_uO, Q_uO, I_uN, R_uN, E_uCA, I_uCA, R_uCA, L_uCA, J_uCA, Q_uCA, E_uCJ, I_uCJ, R_uCJ, L_uCJ, A_uCJ, Q_uCJ, m1_s, m1_m1, m1_s, and_self, b1_t]
theorem loan_span (hA : Iall nB nS nM u) (hlS : nS < 600) (hfs : frm scr (lnW u nS nM p c co d) s) (hp : p < nB) (hpp : isPl (tA u 3308 0 p) = true) (hc : c < nB) (hcc : isCl (tA u 3308 0 c) = true) (hR : Iterm u) (hd : d ≤ 2999) (htl : nt d ≤ tA u 3349 0 7) : Ispan nB (nS + 1) (nM + 1) (lmT s nS nM p co c d) := by
  have hS := hA.2.2.2.2.2.1
  have f1 := cS_f2 (t := lnB (lnA u nM p co c (tA u 3208 0 0) (tA u 3208 0 8)) co c (tA u 3208 0 0)) (p := p) (c := c) (n := nS) (so := 2) (fr := nt d) (to := tA u 3208 0 7)
  have fk : frm kLn u s := frm_tr lnW_f (frm_sb hfs kLn_scr)
  obtain ⟨g1, g2, g3⟩ := hR 7 (by omega)
  have fT := lmT_f (s := s) (nS := nS) (nM := nM) (p := p) (co := co) (c := c) (d := d)
  have hto : tA u 3349 0 7 ≤ 2999 := g3
  have hd0 : -9999 ≤ nt d := Int32.le_trans (by decide) (nt_nn (by omega))
  have hb : -9999 ≤ nt d ∧ nt d ≤ 2999 ∧ -9999 ≤ tA u 3349 0 7 ∧ tA u 3349 0 7 ≤ 2999 := ⟨hd0, Int32.le_trans htl hto, Int32.le_trans hd0 htl, hto⟩
  refine Ispan_add (p := p) (c := c) (so := 2) (fr := nt d) (to := tA u 3349 0 7) (wa := 0) (mi := nt nM) (mv := some nM) hS hlS hA.1.1 (Nat.le_succ _) hp hpp hc hcc hb (Or.inr ⟨nM, Nat.lt_succ_self _, rfl, rfl⟩) ?_ ?_ ?_ ?_ ?_ ?_ ?_ ?_ ?_ ?_ ?_ ?_ ?_ ?_ ?_ ?_ ?_ ?_ ?_ ?_ ?_ ?_ ?_ ?_
  all_goals try simp only [(fT.1 1205 rfl).2.1, (fT.1 11 rfl).1, (fT.1 1100 rfl).2.1, (fT.1 1102 rfl).2.1, (fT.1 1103 rfl).2.1, (fT.1 1104 rfl).2.1, (fT.1 1105 rfl).2.1, (fT.1 1106 rfl).2.1, (fT.1 1101 rfl).2.2.1, (fT.1 1107 rfl).2.2.1, (fT.1 1108 rfl).2.2.1, (fT.1 109 rfl).2.2.1, (fT.1 110 rfl).2.2.1, (fT.1 111 rfl).2.1, (fT.1 3308 rfl).2.2.2.2.1]
  all_goals try simp only [(hfs.1 1205 rfl).2.1, (hfs.1 11 rfl).1, (hfs.1 1100 rfl).2.1, (hfs.1 1102 rfl).2.1, (hfs.1 1103 rfl).2.1, (hfs.1 1104 rfl).2.1, (hfs.1 1105 rfl).2.1, (hfs.1 1106 rfl).2.1, (hfs.1 1101 rfl).2.2.1, (hfs.1 1107 rfl).2.2.1, (hfs.1 1108 rfl).2.2.1, (hfs.1 109 rfl).2.2.1, (hfs.1 110 rfl).2.2.1, (hfs.1 111 rfl).2.1]
  all_goals try unfold lmT lmS mS lmC lmB lmA
  all_goals try unfold lnW lnC cS lnB lnA
  all_goals cases ej : tR u 110 p
  all_goals simp (disch := omega) only [cS0, I_uI, I_uI_n, R_uR, R_uR_n, A_uA, A_uA_n, J_uJ, J_uJ_n, Q_uQ, Q_uQ_n, E_uO, E_uO_n, I_uO, I_uO_n, R_uO, R_uO_n, E_uN, E_uN_n, L_uN, L_uN_n, A_uN, A_uN_n, J_uN, J_uN_n, Q_uN, Q_uN_n, A_uCA, A_uCA_n, J_uCJ, J_uCJ_n, E_uI, R_uI, L_uI, A_uI, J_uI, Q_uI, E_uR, I_uR, L_uR, A_uR, J_uR, Q_uR, E_uA, I_uA, R_uA, L_uA, J_uA, Q_uA, E_uJ, I_uJ, R_uJ, L_uJ, A_uJ, Q_uJ, E_uQ, I_uQ, R_uQ, L_uQ, A_uQ, J_uQ, L_uO, A_uO, J_uO, Q_uO, I_uN, R_uN, E_uCA, I_uCA, R_uCA, L_uCA, J_uCA, Q_uCA, E_uCJ, I_uCJ, R_uCJ, L_uCJ, A_uCJ, Q_uCJ, m1_s, (fk.1 3308 rfl).2.2.2.2.1, (fk.1 3317 rfl).2.2.2.2.1, (fk.1 3318 rfl).2.2.2.2.1, (fk.1 3319 rfl).2.2.2.2.1, (fk.1 3320 rfl).2.2.2.2.1, (fk.1 3321 rfl).2.2.2.2.1, (fk.1 3322 rfl).2.2.2.2.1, (fk.1 3323 rfl).2.2.2.2.1, (fk.1 3324 rfl).2.2.2.2.1, (fk.1 3349 rfl).2.2.2.2.1, oel_n, oel_s, m1_n, m1_m1, ej, g1]
theorem loan_new (hL : Ilen u) (hA : Iall nB nS nM u) (hb : Icb nB nM u) (hlS : nS < 600) (hlM : nM < 200) (hfs : frm scr (lnW u nS nM p c co d) s) (hp : p < nB) (hpp : isPl (tA u 3308 0 p) = true) (hc : c < nB) (hcc : isCl (tA u 3308 0 c) = true) (hco : co < nB) (hcoc : isCl (tA u 3308 0 co) = true) (hR : Iterm u) (hd : d ≤ 2999) (htl : nt d ≤ tA u 3349 0 7) : Iall nB (nS + 1) (nM + 1) (lmT s nS nM p co c d) ∧ Icb nB (nM + 1) (lmT s nS nM p co c d) ∧ frm kMk u (lmT s nS nM p co c d) := by
  obtain ⟨a1, a2, a3, a4, a5, a6, a7⟩ := hA
  have h150 := a1.1
  have fk : frm kLn u s := frm_tr lnW_f (frm_sb hfs kLn_scr)
  have fT := lmT_f (s := s) (nS := nS) (nM := nM) (p := p) (co := co) (c := c) (d := d)
  have f9 : frm kMk u (lmT s nS nM p co c d) := frm_tr (frm_sb fk kMk_kLn) (frm_sb fT (ks_sb rfl))
  have hsp : Ispan nB (nS + 1) (nM + 1) (lmT s nS nM p co c d) := loan_span ⟨a1, a2, a3, a4, a5, a6, a7⟩ hlS hfs hp hpp hc hcc hR hd htl
  obtain ⟨w1, w2, w3, w4, w5, w6, w7, w8, w9, w10, w11, w12, w13, w14, w15, w16, w17, w18, w19, w20, w21⟩ := lnW_new (u := u) (nS := nS) (nM := nM) (p := p) (c := c) (co := co) (d := d)
  obtain ⟨m1, m2, m3, m4, m5, m6, m7, m8, m9, m10, m11, m12, m13⟩ := lmT_new (s := s) (nS := nS) (nM := nM) (p := p) (co := co) (c := c) (d := d)
  obtain ⟨z1, z2, z3, z4, z5, z6, z7, z8, z9, z10, z11⟩ := a7.2.2.2.2 nM (Nat.le_refl _)
  have e49 : tA s 3349 = tA u 3349 := (fk.1 3349 rfl).2.2.2.2.1
  have e10 : tA s 3310 = tA u 3310 := (fk.1 3310 rfl).2.2.2.2.1
  obtain ⟨r0a, r0b, r0c⟩ := hR 0 (by omega)
  obtain ⟨r8a, r8b, r8c⟩ := hR 8 (by omega)
  obtain ⟨fee, hfee, efee⟩ := nt_exb (b := 999999) (show 0 ≤ tA u 3349 0 0 from r0b) (by omega) (show tA u 3349 0 0 ≤ nt 999999 from r0c)
  obtain ⟨opt, hopt, eopt⟩ := nt_exb (b := 999999) (show 0 ≤ tA u 3349 0 8 from r8b) (by omega) (show tA u 3349 0 8 ≤ nt 999999 from r8c)
  rw [e49, e10] at m13
  rw [e49] at m4 m8
  have hmv : Imove nB (nS + 1) (nM + 1) (lmT s nS nM p co c d) := by
    refine Imove_up (u := u) h150 a7 hlM (fun m hm => agm_tr (lnW_agr hm) (agm_tr (agm_f hfs (by decide)) (lmT_agr hm hlM))) (fun k hk => ?_) (f9.1 3308 rfl).2.2.2.2.1 (by rw [(fT.1 1207 rfl).2.1, (hfs.1 1207 rfl).2.1]; exact w21) m12 ?_
    · rw [m11, m1_n (by omega), (fk.1 3319 (by decide)).2.2.2.2.1]
    · unfold Imove1 Ishare
      simp only [(fT.1 3206 rfl).2.2.2.2.2.2, (fT.1 6 rfl).1, (fT.1 600 rfl).2.1, (fT.1 601 rfl).2.2.1, (fT.1 602 rfl).2.2.1, (fT.1 603 rfl).2.2.1, (fT.1 604 rfl).2.1, (fT.1 605 rfl).2.1, (fT.1 606 rfl).2.1, (fT.1 607 rfl).2.2.1, (fT.1 608 rfl).2.1, (fT.1 609 rfl).2.1, (fT.1 610 rfl).2.1, (fT.1 611 rfl).2.1, (fT.1 612 rfl).2.2.1, (fT.1 613 rfl).2.1, (fT.1 614 rfl).2.2.1, (fT.1 615 rfl).2.1, (fT.1 616 rfl).2.1, (fT.1 617 rfl).2.1, (fT.1 618 rfl).2.1, (fT.1 619 rfl).2.1, (fT.1 2614 rfl).2.2.2.1, (fT.1 2614 rfl).2.2.2.2.1, (fT.1 3308 rfl).2.2.2.2.1, (fT.1 3335 rfl).2.2.2.2.1, (fT.1 3336 rfl).2.2.2.2.1, (fT.1 3337 rfl).2.2.2.2.1, (fT.1 3338 rfl).2.2.2.2.1, (fT.1 3341 rfl).2.2.2.2.1, (fT.1 3343 rfl).2.2.2.2.1, (fT.1 3344 rfl).2.2.2.2.1, (fT.1 3345 rfl).2.2.2.2.1, (fT.1 3346 rfl).2.2.2.2.1, (fT.1 3347 rfl).2.2.2.2.1]
      simp only [(hfs.1 3206 rfl).2.2.2.2.2.2, (hfs.1 6 rfl).1, (hfs.1 600 rfl).2.1, (hfs.1 601 rfl).2.2.1, (hfs.1 602 rfl).2.2.1, (hfs.1 603 rfl).2.2.1, (hfs.1 604 rfl).2.1, (hfs.1 605 rfl).2.1, (hfs.1 606 rfl).2.1, (hfs.1 607 rfl).2.2.1, (hfs.1 608 rfl).2.1, (hfs.1 609 rfl).2.1, (hfs.1 610 rfl).2.1, (hfs.1 611 rfl).2.1, (hfs.1 612 rfl).2.2.1, (hfs.1 613 rfl).2.1, (hfs.1 614 rfl).2.2.1, (hfs.1 615 rfl).2.1, (hfs.1 616 rfl).2.1, (hfs.1 617 rfl).2.1, (hfs.1 618 rfl).2.1, (hfs.1 619 rfl).2.1, (hfs.1 2614 rfl).2.2.2.1, (hfs.1 2614 rfl).2.2.2.2.1, (fk.1 3308 rfl).2.2.2.2.1, (fk.1 3335 rfl).2.2.2.2.1, (fk.1 3336 rfl).2.2.2.2.1, (fk.1 3337 rfl).2.2.2.2.1, (fk.1 3338 rfl).2.2.2.2.1, (fk.1 3341 rfl).2.2.2.2.1, (fk.1 3343 rfl).2.2.2.2.1, (fk.1 3344 rfl).2.2.2.2.1, (fk.1 3345 rfl).2.2.2.2.1, (fk.1 3346 rfl).2.2.2.2.1, (fk.1 3347 rfl).2.2.2.2.1]
      rw [w1, w2, w3, w4, w5, w6, w7, w8, w9, w10, w11, w12, w13, w14, w15, w16, w17, w18, w19, w20, m1, m2, m3, m4, m5, m6, m7, m8, m9, m10, m11, r0a, r8a, efee, eopt, z3, z4, z6, z7, z8, z9, z10]
      refine ⟨rfl, rfl, rfl, ⟨p, hp, hpp, rfl, rfl⟩, ⟨co, hco, hcoc, rfl, rfl⟩, ⟨c, hc, hcc, rfl, rfl⟩, ⟨fee, hfee, rfl, rfl⟩, ⟨rfl, Or.inr rfl⟩, ⟨opt, hopt, rfl, rfl⟩, ⟨nS, d, Nat.lt_succ_self _, hd, rfl, rfl, m1_s, rfl⟩, ⟨rfl, Or.inl rfl⟩, fun q => absurd q (by decide), ⟨0, by omega, rfl, rfl⟩, ⟨0, by omega, rfl, rfl⟩, Or.inl ⟨rfl, rfl⟩, ⟨0, by omega, rfl, rfl⟩, Or.inl ⟨rfl, z11⟩, fun k hk => ⟨0, by omega, z11 k hk⟩, rfl, ⟨0, by omega, rfl, rfl⟩, fun q => absurd rfl q, rfl, ⟨0, by omega, rfl, rfl⟩⟩
  refine ⟨⟨Ibody_f f9 (by decide) a1, ⟨fun i hi => ?_, fun i hi => ?_⟩, Iinc_f f9 (by decide) a3, Imat_f f9 (by decide) a4, Ilack_f f9 (by decide) a5, hsp, hmv⟩, fun i hi => ?_, f9⟩
  · have w103 : tI (lnW u nS nM p c co d) 103 = mm_u1 (mm_u1 (tI u 103) co (tI u 103 co + tA u 3208 0 0)) c (mm_u1 (tI u 103) co (tI u 103 co + tA u 3208 0 0) c - tA u 3208 0 0) := by
      unfold lnW
      rw [(lnC_f.1 103 rfl).2.1, (cS_f2.1 103 rfl).2.1]
      unfold lnB
      rw [I_uI, I_uI, ((lnA_f (u := u)).1 103 rfl).2.1]
    rw [(fT.1 103 rfl).2.1, (hfs.1 103 rfl).2.1, w103, m13, r0a]
    exact two_coin a2.1 hco hc _ _ i hi
  · rw [m13, m1_n (by omega), m1_n (by omega)]
    exact a2.2 i hi
  · have hsw : sW (lmT s nS nM p co c d) (nM + 1) = sW u nM + 3000000 := by
      have h1 : ∀ m, m < nM → mW (lmT s nS nM p co c d) m = mW u m := fun m hm => by
        have ha : agm u (lmT s nS nM p co c d) m := agm_tr (lnW_agr (by omega)) (agm_tr (agm_f hfs (by decide)) (lmT_agr (by omega) hlM))
        unfold agm at ha
        unfold mW
        simp only [ha]
      show sW (lmT s nS nM p co c d) nM + mW (lmT s nS nM p co c d) nM = _
      rw [sW_c nM h1]
      unfold mW
      rw [m7, (fT.1 3345 rfl).2.2.2.2.1, (fk.1 3345 rfl).2.2.2.2.1, z9]
      rfl
    rw [hsw, m13, efee]
    have hbd := sW_b a7
    have b1 := hb i hi
    have b2 := hb c hc
    have b3 := hb co hco
    have hf : (nt fee).toInt = fee := nt_int (by omega)
    have key : ∀ x : Int32, -((10000000 + sW u nM : Nat) : Int) ≤ x.toInt → x.toInt ≤ ((10000000 + sW u nM : Nat) : Int) → (x - nt fee).toInt = x.toInt - fee ∧ (x + nt fee).toInt = x.toInt + fee ∧ (x - nt fee + nt fee).toInt = x.toInt := fun x h1 h2 => by
      have e1 : (x - nt fee).toInt = x.toInt - fee := by rw [ni_sub (by omega) (by omega), hf]
      refine ⟨e1, by rw [ni_add (by omega) (by omega), hf], ?_⟩
      rw [ni_add (by rw [e1]; omega) (by rw [e1]; omega), e1, hf]; omega
    unfold mm_u1
    by_cases g1 : i = co
    · rw [if_pos g1]
      by_cases g2 : co = c
      · rw [if_pos g2, (key _ b2.1 b2.2).2.2]; omega
      · rw [if_neg g2, (key _ b3.1 b3.2).2.1]; omega
    · rw [if_neg g1]
      by_cases g2 : i = c
      · rw [if_pos g2, (key _ b2.1 b2.2).1]; omega
      · rw [if_neg g2]; omega
end
