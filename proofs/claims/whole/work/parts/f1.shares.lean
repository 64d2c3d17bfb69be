/-! PART f1: shares by the class. -/
section
variable {t : TS} {nB nS nM p co d fee : Nat} {q : Nat → Nat}
theorem cs_sum (hL : Ilen t) (hn : nB ≤ 150) (h04 : tI t 1204 0 = nt nB) (hw : ∀ i, i < nB → tA t 3209 0 i = nt (wq co q i)) (hq : ∀ i, i < nB → q i ≤ 4000) : B_X12_payShares_25 10000 t nM 0 0 = B_X12_payShares_48 t nM (nt (sN (wq co q) nB)) := by
  obtain ⟨N, hN⟩ : ∃ N : Nat, N = 10000 := ⟨_, rfl⟩
  rw [← hN]
  refine loop_wh (B := fun fu (i : Nat) => B_X12_payShares_25 fu t nM (nt (sN (wq co q) i)) (nt i)) (mu := fun i => nB - i) (G := fun o => o = B_X12_payShares_48 t nM (nt (sN (wq co q) nB))) (P := fun i => i ≤ nB) ?_ N 0 (Nat.zero_le _) (by omega)
  intro fu i hi
  show BB_X12_payShares_25 (B_X12_payShares_25 fu) t _ _ _ = _ ∨ ∃ a', BB_X12_payShares_25 (B_X12_payShares_25 fu) t _ _ _ = _ ∧ _
  unfold BB_X12_payShares_25
  rw [h04, igE (by omega) (by omega)]
  by_cases e : i = nB
  · left
    subst e
    rw [if_pos (Nat.le_refl _)]
  · right
    refine ⟨i + 1, ?_, by omega, by omega⟩
    rw [if_neg (by omega), (show tL _ 3209 0 = 150 from hL 3209 rfl), gd_nt _ (by omega) (by omega), nt_cl (by omega), hw i (by omega), nt_add, nt_succ]
    rfl
/-- the shares are laid to the coins -/
theorem cs_coin (hL : Ilen t) (hn : nB ≤ 150) (h04 : tI t 1204 0 = nt nB) (h03 : ∀ i, i < nB → tQ t 3203 0 i = some i) (h14 : tR t 614 nM = some nM) (hl : tL t 2614 nM = nB) : ∃ u, B_X12_payShares_96 10000 t nM 0 = some u ∧ frm (ks [103]) t u ∧ ∀ i, tI u 103 i = if i < nB then tI t 103 i + tA t 2614 nM i else tI t 103 i := by
  obtain ⟨N, hN⟩ : ∃ N : Nat, N = 10000 := ⟨_, rfl⟩
  rw [← hN]
  refine loop_wh (B := fun fu (x : Nat × TS) => B_X12_payShares_96 fu x.2 nM (nt x.1)) (mu := fun x => nB - x.1) (G := fun o => ∃ u, o = some u ∧ frm (ks [103]) t u ∧ ∀ i, tI u 103 i = if i < nB then tI t 103 i + tA t 2614 nM i else tI t 103 i) (P := fun x => x.1 ≤ nB ∧ frm (ks [103]) t x.2 ∧ ∀ i, tI x.2 103 i = if i < x.1 then tI t 103 i + tA t 2614 nM i else tI t 103 i) ?_ N (0, t) ⟨Nat.zero_le _, frm_rf, fun i => (if_neg (Nat.not_lt_zero i)).symm⟩ (by show nB - 0 < N; omega)
  intro fu x hx
  obtain ⟨k, u⟩ := x
  have hk : k ≤ nB := hx.1
  have h : frm (ks [103]) t u := hx.2.1
  have hz : ∀ i, tI u 103 i = if i < k then tI t 103 i + tA t 2614 nM i else tI t 103 i := hx.2.2
  show (∃ u', BB_X12_payShares_96 (B_X12_payShares_96 fu) u nM (nt k) = some u' ∧ _) ∨ ∃ a', BB_X12_payShares_96 (B_X12_payShares_96 fu) u nM (nt k) = _ ∧ _
  have hLu := Ilen_f h hL
  unfold BB_X12_payShares_96
  rw [(h.1 1204 rfl).2.1, h04, igE (by omega) (by omega)]
  by_cases e : k = nB
  · left
    rw [if_pos (by omega)]
    exact ⟨u, rfl, h, by rw [e] at hz; exact hz⟩
  right
  have hk2 : k < nB := by omega
  refine ⟨(k + 1, uI u 103 k (tI u 103 k + tA t 2614 nM k)), ?_, ⟨hk2, frm_tr h (frm_uI rfl), fun i => ?_⟩, by show nB - (k + 1) < nB - k; omega⟩
  · rw [if_neg (by omega), (show tL _ 3203 0 = 150 from hLu 3203 rfl), gd_nt _ (by omega) (by omega), nt_cl (by omega), (h.1 3203 rfl).2.2.2.2.2.2, h03 k hk2, nxt_e, oc_s, (h.1 614 rfl).2.2.1, h14, nxt_e, oc_s, (h.1 2614 rfl).2.2.2.1, hl, gd_nt _ (by omega) (by omega), (h.1 2614 rfl).2.2.2.2.1, nxt_e, nt_succ]
  · show tI (uI u 103 k (tI u 103 k + tA t 2614 nM k)) 103 i = if i < k + 1 then tI t 103 i + tA t 2614 nM i else tI t 103 i
    rw [I_uI]
    by_cases c : i = k
    · subst c
      rw [m1_s, hz, if_neg (by omega), if_pos (by omega)]
    · rw [m1_n c, hz]
      by_cases c2 : i < k
      · rw [if_pos c2, if_pos (by omega)]
      · rw [if_neg c2, if_neg (by omega)]
theorem cs_all (hL : Ilen t) (hB : Ibody nB t) (hS : Ispan nB nS nM t) (hday : tI t 1200 0 = nt d) (hd : d ≤ 2999) (hp : p < nB) (hco : co < nB) (h601 : tR t 601 nM = some p) (h602 : tR t 602 nM = some co) (hf : fee ≤ 999999) (h604 : tI t 604 nM = nt fee) (h613 : tI t 613 nM = 0) (h614 : tR t 614 nM = none) (hE : tE t 2614 nM = false) : ∃ u, F_X12_payShares t (some nM) = some u ∧ frm (k2 scr (ks [103, 613, 614, 2614])) t u ∧ (∀ i, i < nB → tI u 103 i = tI t 103 i + nt (shr nB fee co (tch t nS p d) i)) ∧ (∀ k, tI u 613 k = mm_u1 (tI t 613) nM (nt (shW nB fee co (tch t nS p d))) k) ∧ (∀ k, ¬ k = nM → tE u 2614 k = tE t 2614 k ∧ tL u 2614 k = tL t 2614 k ∧ tA u 2614 k = tA t 2614 k ∧ tR u 614 k = tR t 614 k) ∧ ((tR u 614 nM = none ∧ ∀ i, i < nB → shr nB fee co (tch t nS p d) i = 0) ∨ (tR u 614 nM = some nM ∧ tL u 2614 nM = nB ∧ ∀ i, i < nB → tA u 2614 nM i = nt (shr nB fee co (tch t nS p d) i))) := by
  have hnB := hB.1
  have hq : ∀ i, i < nB → tch t nS p d i ≤ 4000 := fun i _ => tch_le (IbM hB) hp hd i
  obtain ⟨u1, a1, a2, a3, -⟩ := ct_eq hL hB hS hp hd hday
  have hL1 := Ilen_f a2 hL
  have e100 : tI u1 100 co = nt co := by rw [(a2.1 100 rfl).2.1]; exact (hB.2.2.2.1 co hco).2.2.1
  obtain ⟨u2, h2⟩ : ∃ u2, u2 = uA u1 3209 0 co 0 := ⟨_, rfl⟩
  have f2 : frm (ks [3209]) u1 u2 := by rw [h2]; exact frm_uA rfl
  have ft2 : frm (ks [3209, 3210]) t u2 := frm_tr a2 (frm_sb f2 (ks_sb rfl))
  have hL2 := Ilen_f ft2 hL
  have w2 : ∀ i, i < nB → tA u2 3209 0 i = nt (wq co (tch t nS p d) i) := fun i hi => by
    rw [h2, A_uA, m1_s]
    unfold wq
    by_cases c : i = co
    · rw [c, m1_s, if_pos rfl]; rfl
    · rw [m1_n c, if_neg c]; exact a3 i hi
  have hsum := cs_sum (nM := nM) hL2 hnB (by rw [(ft2.1 1204 rfl).2.1]; exact hB.2.1) w2 hq
  have hSb := wq_sum (co := co) hnB hq
  unfold F_X12_payShares
  rw [oc_s, h601, nxt_e, a1, ob_s, (a2.1 602 rfl).2.2.1, h602, nxt_e, oc_s, e100, (show tL _ 3209 0 = 150 from hL1 3209 rfl), gd_nt _ (by omega) (by omega), nt_cl (by omega), ← h2, nxt_e, hsum]
  unfold B_X12_payShares_48
  have cS : (nt (sN (wq co (tch t nS p d)) nB) = 0) = (sN (wq co (tch t nS p d)) nB = 0) := eq_nt (n := 0) (by omega) (by omega)
  rw [ifP (congrArg Not cS)]
  by_cases e0 : sN (wq co (tch t nS p d)) nB = 0
  · have hr0 : ∀ i, shr nB fee co (tch t nS p d) i = 0 := fun i => by unfold shr; rw [if_pos e0]
    have hw0 : shW nB fee co (tch t nS p d) = 0 := by unfold shW; rw [if_pos e0]
    rw [if_neg (fun g => g e0)]
    refine ⟨u2, rfl, frm_sb ft2 (fun k hk => ks_sb (D := scr) rfl k (k2_l k hk)), fun i hi => ?_, fun k => ?_, fun k hk => ?_, Or.inl ⟨?_, fun i _ => hr0 i⟩⟩
    · rw [hr0, (ft2.1 103 rfl).2.1]; exact (Int32.add_zero _).symm
    · rw [hw0, (ft2.1 613 rfl).2.1]
      by_cases c : k = nM
      · rw [c, m1_s, h613]; rfl
      · rw [m1_n c]
    · rw [(ft2.1 2614 rfl).1, (ft2.1 2614 rfl).2.2.2.1, (ft2.1 2614 rfl).2.2.2.2.1, (ft2.1 614 rfl).2.2.1]
      exact ⟨rfl, rfl, rfl, rfl⟩
    · rw [(ft2.1 614 rfl).2.2.1]; exact h614
  · have hS0 : 0 < sN (wq co (tch t nS p d)) nB := by omega
    have hW : (fee * 5 + 99) / 100 ≤ 50000 := by omega
    have hr : ∀ i, shr nB fee co (tch t nS p d) i = prN nB ((fee * 5 + 99) / 100) (wq co (tch t nS p d)) i := fun i => by unfold shr; rw [if_neg e0]
    have hw : shW nB fee co (tch t nS p d) = (fee * 5 + 99) / 100 := by unfold shW; rw [if_neg e0]
    rw [if_pos e0, (ft2.1 1204 rfl).2.1, hB.2.1, gn_nt _ (by omega) (by omega), gE_f _ (by rw [(ft2.1 2614 rfl).1]; exact hE), nxt_e, nt_cl (by omega), nxt_e]
    obtain ⟨u3, h3⟩ : ∃ u3, u3 = uR (uN u2 2614 nM nB) 614 nM (some nM) := ⟨_, rfl⟩
    have f3 : frm (ks [2614, 614]) u2 u3 := by rw [h3]; exact frm_tr (frm_uN rfl (Or.inl rfl)) (frm_uR rfl)
    have e604 : tI u3 604 nM = nt fee := by rw [(f3.1 604 rfl).2.1, (ft2.1 604 rfl).2.1]; exact h604
    rw [← h3, e604, show (5 : Int32) = nt 5 from rfl, hun_eq u3 (by omega), ob_s, nxt_e]
    obtain ⟨u4, h4⟩ : ∃ u4, u4 = uI u3 613 nM (nt ((5 * fee + 99) / 100)) := ⟨_, rfl⟩
    have f4 : frm (ks [613]) u3 u4 := by rw [h4]; exact frm_uI rfl
    have r614 : tR u4 614 nM = some nM := by rw [(f4.1 614 rfl).2.2.1, h3, R_uR, m1_s]
    have l26 : tL u4 2614 = mm_u1 (tL t 2614) nM nB := by rw [(f4.1 2614 rfl).2.2.2.1, h3]; simp (disch := omega) only [I_uI, I_uI_n, R_uR, R_uR_n, A_uA, A_uA_n, J_uJ, J_uJ_n, Q_uQ, Q_uQ_n, E_uO, E_uO_n, I_uO, I_uO_n, R_uO, R_uO_n, E_uN, E_uN_n, L_uN, L_uN_n, A_uN, A_uN_n, J_uN, J_uN_n, Q_uN, Q_uN_n, A_uCA, A_uCA_n, J_uCJ, J_uCJ_n, E_uI, R_uI, L_uI, A_uI, J_uI, Q_uI, E_uR, I_uR, L_uR, A_uR, J_uR, Q_uR, E_uA, I_uA, R_uA, L_uA, J_uA, Q_uA, E_uJ, I_uJ, R_uJ, L_uJ, A_uJ, Q_uJ, E_uQ, I_uQ, R_uQ, L_uQ, A_uQ, J_uQ, L_uO, A_uO, J_uO, Q_uO, I_uN, R_uN, E_uCA, I_uCA, R_uCA, L_uCA, J_uCA, Q_uCA, E_uCJ, I_uCJ, R_uCJ, L_uCJ, A_uCJ, Q_uCJ, m1_s]; rw [(ft2.1 2614 rfl).2.2.2.1]
    have a26 : tA u4 2614 = mm_u1 (tA t 2614) nM (fun _ => 0) := by rw [(f4.1 2614 rfl).2.2.2.2.1, h3]; simp (disch := omega) only [I_uI, I_uI_n, R_uR, R_uR_n, A_uA, A_uA_n, J_uJ, J_uJ_n, Q_uQ, Q_uQ_n, E_uO, E_uO_n, I_uO, I_uO_n, R_uO, R_uO_n, E_uN, E_uN_n, L_uN, L_uN_n, A_uN, A_uN_n, J_uN, J_uN_n, Q_uN, Q_uN_n, A_uCA, A_uCA_n, J_uCJ, J_uCJ_n, E_uI, R_uI, L_uI, A_uI, J_uI, Q_uI, E_uR, I_uR, L_uR, A_uR, J_uR, Q_uR, E_uA, I_uA, R_uA, L_uA, J_uA, Q_uA, E_uJ, I_uJ, R_uJ, L_uJ, A_uJ, Q_uJ, E_uQ, I_uQ, R_uQ, L_uQ, A_uQ, J_uQ, L_uO, A_uO, J_uO, Q_uO, I_uN, R_uN, E_uCA, I_uCA, R_uCA, L_uCA, J_uCA, Q_uCA, E_uCJ, I_uCJ, R_uCJ, L_uCJ, A_uCJ, Q_uCJ, m1_s]; rw [(ft2.1 2614 rfl).2.2.2.2.1]
    have e26 : tE u4 2614 = mm_u1 (tE t 2614) nM true := by rw [(f4.1 2614 rfl).1, h3]; simp (disch := omega) only [I_uI, I_uI_n, R_uR, R_uR_n, A_uA, A_uA_n, J_uJ, J_uJ_n, Q_uQ, Q_uQ_n, E_uO, E_uO_n, I_uO, I_uO_n, R_uO, R_uO_n, E_uN, E_uN_n, L_uN, L_uN_n, A_uN, A_uN_n, J_uN, J_uN_n, Q_uN, Q_uN_n, A_uCA, A_uCA_n, J_uCJ, J_uCJ_n, E_uI, R_uI, L_uI, A_uI, J_uI, Q_uI, E_uR, I_uR, L_uR, A_uR, J_uR, Q_uR, E_uA, I_uA, R_uA, L_uA, J_uA, Q_uA, E_uJ, I_uJ, R_uJ, L_uJ, A_uJ, Q_uJ, E_uQ, I_uQ, R_uQ, L_uQ, A_uQ, J_uQ, L_uO, A_uO, J_uO, Q_uO, I_uN, R_uN, E_uCA, I_uCA, R_uCA, L_uCA, J_uCA, Q_uCA, E_uCJ, I_uCJ, R_uCJ, L_uCJ, A_uCJ, Q_uCJ, m1_s]; rw [(ft2.1 2614 rfl).1]
    have fr4 : tR u4 614 = mm_u1 (tR t 614) nM (some nM) := by rw [(f4.1 614 rfl).2.2.1, h3]; simp (disch := omega) only [I_uI, I_uI_n, R_uR, R_uR_n, A_uA, A_uA_n, J_uJ, J_uJ_n, Q_uQ, Q_uQ_n, E_uO, E_uO_n, I_uO, I_uO_n, R_uO, R_uO_n, E_uN, E_uN_n, L_uN, L_uN_n, A_uN, A_uN_n, J_uN, J_uN_n, Q_uN, Q_uN_n, A_uCA, A_uCA_n, J_uCJ, J_uCJ_n, E_uI, R_uI, L_uI, A_uI, J_uI, Q_uI, E_uR, I_uR, L_uR, A_uR, J_uR, Q_uR, E_uA, I_uA, R_uA, L_uA, J_uA, Q_uA, E_uJ, I_uJ, R_uJ, L_uJ, A_uJ, Q_uJ, E_uQ, I_uQ, R_uQ, L_uQ, A_uQ, J_uQ, L_uO, A_uO, J_uO, Q_uO, I_uN, R_uN, E_uCA, I_uCA, R_uCA, L_uCA, J_uCA, Q_uCA, E_uCJ, I_uCJ, R_uCJ, L_uCJ, A_uCJ, Q_uCJ, m1_s]; rw [(ft2.1 614 rfl).2.2.1]
    have i613 : tI u4 613 = mm_u1 (tI t 613) nM (nt ((5 * fee + 99) / 100)) := by rw [h4, I_uI, (f3.1 613 rfl).2.1, (ft2.1 613 rfl).2.1]
    have e1204 : tI u4 1204 0 = nt nB := by rw [(f4.1 1204 rfl).2.1, (f3.1 1204 rfl).2.1, (ft2.1 1204 rfl).2.1]; exact hB.2.1
    have hL3 := Ilen_f f3 hL2
    have hL4 := Ilen_f f4 hL3
    have w4 : ∀ i, i < nB → tA u4 3209 0 i = nt (wq co (tch t nS p d) i) ∧ wq co (tch t nS p d) i ≤ 10000000 := fun i hi => by
      rw [(f4.1 3209 rfl).2.2.2.2.1, (f3.1 3209 rfl).2.2.2.2.1]
      exact ⟨w2 i hi, by have := wq_le (co := co) hq i hi; omega⟩
    obtain ⟨u5, b1_, b2, b3⟩ := addParts_eq (t := u4) (kw := 3209) (iw := 0) (kp := 2614) (ip := nM) (n := nB) (W := (5 * fee + 99) / 100) (q := wq co (tch t nS p d)) (by decide) (by rw [show tL u4 3209 0 = 150 from hL4 3209 rfl]; exact hnB) (by rw [l26, m1_s]; exact Nat.le_refl _) (by omega) (by omega) w4 hS0
    have f5 : frm (ks [2614]) u4 u5 := oA_f b2 rfl
    have hL5 := Ilen_f f5 hL4
    rw [← h4, r614, nxt_e, oc_s, e1204, i613, m1_s, b1_, ob_s]
    obtain ⟨u6, c1, c2, c3⟩ := cs_coin (t := u5) (nM := nM) hL5 hnB (by rw [(f5.1 1204 rfl).2.1]; exact e1204) (fun i hi => by rw [(f5.1 3203 rfl).2.2.2.2.2.2, (f4.1 3203 rfl).2.2.2.2.2.2, (f3.1 3203 rfl).2.2.2.2.2.2, (ft2.1 3203 rfl).2.2.2.2.2.2]; exact (hB.2.2.2.1 i hi).1) (by rw [(f5.1 614 rfl).2.2.1]; exact r614) (by rw [b2.2.2.2.1, l26, m1_s])
    have h5f : 5 * fee = fee * 5 := Nat.mul_comm _ _
    have hsh : ∀ i, i < nB → tA u5 2614 nM i = nt (shr nB fee co (tch t nS p d) i) := fun i hi => by
      rw [b3, if_pos hi, a26, m1_s, hr, h5f]
      exact Int32.zero_add _
    have fall : frm (k2 scr (ks [103, 613, 614, 2614])) t u6 := by
      have q0 : ∀ k, k2 scr (ks [103, 613, 614, 2614]) k = false → scr k = false := k2_l
      have q1 : ∀ k, k2 scr (ks [103, 613, 614, 2614]) k = false → ks [103, 613, 614, 2614] k = false := fun k hk => (Bool.or_eq_false_iff.mp hk).2
      have r1 : ∀ k, ks [103, 613, 614, 2614] k = false → ks [2614, 614] k = false := ks_sb rfl
      have r2 : ∀ k, ks [103, 613, 614, 2614] k = false → ks [613] k = false := ks_sb rfl
      have r3 : ∀ k, ks [103, 613, 614, 2614] k = false → ks [2614] k = false := ks_sb rfl
      have r4 : ∀ k, ks [103, 613, 614, 2614] k = false → ks [103] k = false := ks_sb rfl
      exact frm_tr (frm_sb ft2 (fun k hk => ks_sb (D := scr) rfl k (q0 k hk))) (frm_tr (frm_sb f3 (fun k hk => r1 k (q1 k hk))) (frm_tr (frm_sb f4 (fun k hk => r2 k (q1 k hk))) (frm_tr (frm_sb f5 (fun k hk => r3 k (q1 k hk))) (frm_sb c2 (fun k hk => r4 k (q1 k hk))))))
    refine ⟨u6, c1, fall, fun i hi => ?_, fun k => ?_, fun k hk => ?_, Or.inr ⟨?_, ?_, fun i hi => ?_⟩⟩
    · rw [c3, if_pos hi, hsh i hi, (f5.1 103 rfl).2.1, (f4.1 103 rfl).2.1, (f3.1 103 rfl).2.1, (ft2.1 103 rfl).2.1]
    · rw [(c2.1 613 rfl).2.1, (f5.1 613 rfl).2.1, i613, hw, h5f]
    · rw [(c2.1 2614 rfl).1, (c2.1 2614 rfl).2.2.2.1, (c2.1 2614 rfl).2.2.2.2.1, (c2.1 614 rfl).2.2.1, b2.1, b2.2.2.2.1, b2.2.2.2.2.2.2.2 k hk, (f5.1 614 rfl).2.2.1, e26, l26, a26, fr4, m1_n hk, m1_n hk, m1_n hk, m1_n hk]
      exact ⟨rfl, rfl, rfl, rfl⟩
    · rw [(c2.1 614 rfl).2.2.1, (f5.1 614 rfl).2.2.1]; exact r614
    · rw [(c2.1 2614 rfl).2.2.2.1, b2.2.2.2.1, l26, m1_s]
    · rw [(c2.1 2614 rfl).2.2.2.2.1]; exact hsh i hi
end
