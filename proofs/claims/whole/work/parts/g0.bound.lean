/-! PART g0: bodies again, with the bound of coins and the kinds; play, undo with the bound. -/
theorem Icb_new {t t2 : TS} {nB nM : Nat} {v : Int32} (hb : Icb nB nM t) (hC : Icoin nB t) (hf : frm kNew t t2) (h0 : 0 ≤ v) (h9 : v ≤ 9999999) (h : tA t2 3310 0 = mm_u1 (tA t 3310 0) nB v) : Icb (nB + 1) nM t2 := fun i hi => by
  have e : sW t2 nM = sW t nM := sW_c _ (fun m _ => by unfold mW; rw [(hf.1 3334 rfl).2.2.2.2.1, (hf.1 3345 rfl).2.2.2.2.1])
  rw [e, h]
  by_cases g : i = nB
  · subst g
    rw [m1_s]
    have a := ni_le.mp h0
    have b := ni_le.mp h9
    have a' : (0 : Int) ≤ v.toInt := a
    have b' : v.toInt ≤ (9999999 : Int) := b
    omega
  · rw [m1_n g]
    exact hb i (by omega)
section
variable {t : TS} {nB nS nM : Nat}
theorem m_body2 (x : Int32) (hL : Ilen t) (hA : Iall nB nS nM t) (hb : Icb nB nM t) : Eqm (F_X12_body t x) (fun t => F_X13_body t x) (fun t2 => ∃ nB', Iall nB' nS nM t2 ∧ nB ≤ nB' ∧ frm kNew t t2 ∧ Icb nB' nM t2 ∧ (∀ i, i < nB → tA t2 3308 0 i = tA t 3308 0 i) ∧ tI t2 1 = tI t 1) := by
  have hB := hA.1
  have h150 := hB.1
  by_cases hx : x = 0 ∨ x = 1 ∨ x = 6
  case neg =>
    have h0 : ¬ x = 0 := fun e => hx (Or.inl e)
    have h1 : ¬ x = 1 := fun e => hx (Or.inr (Or.inl e))
    have h6 : ¬ x = 6 := fun e => hx (Or.inr (Or.inr e))
    exact ⟨-1, t, t, by simp only [F_X12_body, h0, h1, h6, if_false], by simp only [F_X13_body, h0, h1, h6, if_false], nB, hA, Nat.le_refl _, frm_rf, hb, fun _ _ => rfl, rfl⟩
  have e12 : F_X12_body t x = B_X12_body_17 t x := by
    unfold F_X12_body
    rcases hx with rfl | rfl | rfl <;> rfl
  have e13 : ∀ t, F_X13_body t x = B_X13_body_17 t x := by
    intro t
    unfold F_X13_body
    rcases hx with rfl | rfl | rfl <;> rfl
  rw [e12]
  by_cases hn : nB = 150
  · exact ⟨-3, t, t, by unfold B_X12_body_17; rw [addBody_full hB hn, ob2_s, oc_n], by show F_X13_body t x = _; rw [e13]; unfold B_X13_body_17; rw [hB.2.2.1, if_neg (fun q => q (by rw [n150 h150]; exact hn))], nB, hA, Nat.le_refl _, frm_rf, hb, fun _ _ => rfl, rfl⟩
  · have hlt : nB < 150 := by omega
    have h5 : ¬ x = 5 := by rcases hx with rfl | rfl | rfl <;> decide
    have h7 : ¬ x = 7 := by rcases hx with rfl | rfl | rfl <;> decide
    have hfa : frm kNew t (cN t nB x) := frm_tr (frm_uO k2_l) (frm_tr (frm_uI rfl) (frm_tr (frm_uI rfl) (frm_tr (frm_uR rfl) (frm_tr (frm_uQ rfl) (frm_uI rfl)))))
    have hf2 : frm kNew (cN t nB x) (mN (cN t nB x) nB x) := frm_tr (frm_uA rfl) (frm_tr (frm_uA rfl) (frm_uI rfl))
    have hf := frm_tr hfa hf2
    have hL1 := Ilen_f hfa hL
    have h13 : tI (cN t nB x) 1307 0 = nt nB := by
      simp (disch := omega) only [cN, I_uI, I_uI_n, R_uR, R_uR_n, A_uA, A_uA_n, J_uJ, J_uJ_n, Q_uQ, Q_uQ_n, E_uO, E_uO_n, I_uO, I_uO_n, R_uO, R_uO_n, E_uN, E_uN_n, L_uN, L_uN_n, A_uN, A_uN_n, J_uN, J_uN_n, Q_uN, Q_uN_n, A_uCA, A_uCA_n, J_uCJ, J_uCJ_n, E_uI, R_uI, L_uI, A_uI, J_uI, Q_uI, E_uR, I_uR, L_uR, A_uR, J_uR, Q_uR, E_uA, I_uA, R_uA, L_uA, J_uA, Q_uA, E_uJ, I_uJ, R_uJ, L_uJ, A_uJ, Q_uJ, E_uQ, I_uQ, R_uQ, L_uQ, A_uQ, J_uQ, L_uO, A_uO, J_uO, Q_uO, I_uN, R_uN, E_uCA, I_uCA, R_uCA, L_uCA, J_uCA, Q_uCA, E_uCJ, I_uCJ, R_uCJ, L_uCJ, A_uCJ, Q_uCJ, m1_s]
      exact hB.2.2.1
    refine ⟨nt nB, cN t nB x, mN (cN t nB x) nB x, ?_, ?_, nB + 1, ?_, by omega, hf, ?_, fun i hi => ?_, ?_⟩
    · unfold B_X12_body_17
      rw [addBody_N hL hB hlt h5 h7, ob2_s, oc_s]
      congr 2
      simp (disch := omega) only [cN, I_uI, I_uI_n, R_uR, R_uR_n, A_uA, A_uA_n, J_uJ, J_uJ_n, Q_uQ, Q_uQ_n, E_uO, E_uO_n, I_uO, I_uO_n, R_uO, R_uO_n, E_uN, E_uN_n, L_uN, L_uN_n, A_uN, A_uN_n, J_uN, J_uN_n, Q_uN, Q_uN_n, A_uCA, A_uCA_n, J_uCJ, J_uCJ_n, E_uI, R_uI, L_uI, A_uI, J_uI, Q_uI, E_uR, I_uR, L_uR, A_uR, J_uR, Q_uR, E_uA, I_uA, R_uA, L_uA, J_uA, Q_uA, E_uJ, I_uJ, R_uJ, L_uJ, A_uJ, Q_uJ, E_uQ, I_uQ, R_uQ, L_uQ, A_uQ, J_uQ, L_uO, A_uO, J_uO, Q_uO, I_uN, R_uN, E_uCA, I_uCA, R_uCA, L_uCA, J_uCA, Q_uCA, E_uCJ, I_uCJ, R_uCJ, L_uCJ, A_uCJ, Q_uCJ, m1_s, m1_s]
    · show F_X13_body _ x = _
      rw [e13]
      unfold B_X13_body_17
      rw [h13, if_pos (fun q => by rw [n150 h150] at q; exact hn q), add_eq hL1 hlt h13, ob2_s]
    · have hfr := hB.2.2.2.2 nB (Nat.le_refl _)
      have hncl : ¬ isCl x = true := by rcases hx with rfl | rfl | rfl <;> decide
      refine Iall_new (k := x) (lg := 0) (co := 0) (bo := 0) (wo := 0) (ai := -1) (ag := none) hA hlt hf.1 ?_ ⟨0, by omega, rfl⟩ (by decide) (Or.inl ⟨rfl, rfl⟩) (by simp (disch := omega) only [mN, cN, cC, I_uI, I_uI_n, R_uR, R_uR_n, A_uA, A_uA_n, J_uJ, J_uJ_n, Q_uQ, Q_uQ_n, E_uO, E_uO_n, I_uO, I_uO_n, R_uO, R_uO_n, E_uN, E_uN_n, L_uN, L_uN_n, A_uN, A_uN_n, J_uN, J_uN_n, Q_uN, Q_uN_n, A_uCA, A_uCA_n, J_uCJ, J_uCJ_n, E_uI, R_uI, L_uI, A_uI, J_uI, Q_uI, E_uR, I_uR, L_uR, A_uR, J_uR, Q_uR, E_uA, I_uA, R_uA, L_uA, J_uA, Q_uA, E_uJ, I_uJ, R_uJ, L_uJ, A_uJ, Q_uJ, E_uQ, I_uQ, R_uQ, L_uQ, A_uQ, J_uQ, L_uO, A_uO, J_uO, Q_uO, I_uN, R_uN, E_uCA, I_uCA, R_uCA, L_uCA, J_uCA, Q_uCA, E_uCJ, I_uCJ, R_uCJ, L_uCJ, A_uCJ, Q_uCJ, m1_s, m1_s]) (by simp (disch := omega) only [mN, cN, cC, I_uI, I_uI_n, R_uR, R_uR_n, A_uA, A_uA_n, J_uJ, J_uJ_n, Q_uQ, Q_uQ_n, E_uO, E_uO_n, I_uO, I_uO_n, R_uO, R_uO_n, E_uN, E_uN_n, L_uN, L_uN_n, A_uN, A_uN_n, J_uN, J_uN_n, Q_uN, Q_uN_n, A_uCA, A_uCA_n, J_uCJ, J_uCJ_n, E_uI, R_uI, L_uI, A_uI, J_uI, Q_uI, E_uR, I_uR, L_uR, A_uR, J_uR, Q_uR, E_uA, I_uA, R_uA, L_uA, J_uA, Q_uA, E_uJ, I_uJ, R_uJ, L_uJ, A_uJ, Q_uJ, E_uQ, I_uQ, R_uQ, L_uQ, A_uQ, J_uQ, L_uO, A_uO, J_uO, Q_uO, I_uN, R_uN, E_uCA, I_uCA, R_uCA, L_uCA, J_uCA, Q_uCA, E_uCJ, I_uCJ, R_uCJ, L_uCJ, A_uCJ, Q_uCJ, m1_s, m1_s]) (by simp (disch := omega) only [mN, cN, cC, I_uI, I_uI_n, R_uR, R_uR_n, A_uA, A_uA_n, J_uJ, J_uJ_n, Q_uQ, Q_uQ_n, E_uO, E_uO_n, I_uO, I_uO_n, R_uO, R_uO_n, E_uN, E_uN_n, L_uN, L_uN_n, A_uN, A_uN_n, J_uN, J_uN_n, Q_uN, Q_uN_n, A_uCA, A_uCA_n, J_uCJ, J_uCJ_n, E_uI, R_uI, L_uI, A_uI, J_uI, Q_uI, E_uR, I_uR, L_uR, A_uR, J_uR, Q_uR, E_uA, I_uA, R_uA, L_uA, J_uA, Q_uA, E_uJ, I_uJ, R_uJ, L_uJ, A_uJ, Q_uJ, E_uQ, I_uQ, R_uQ, L_uQ, A_uQ, J_uQ, L_uO, A_uO, J_uO, Q_uO, I_uN, R_uN, E_uCA, I_uCA, R_uCA, L_uCA, J_uCA, Q_uCA, E_uCJ, I_uCJ, R_uCJ, L_uCJ, A_uCJ, Q_uCJ, m1_s]; exact pu_m) (by simp (disch := omega) only [mN, cN, cC, I_uI, I_uI_n, R_uR, R_uR_n, A_uA, A_uA_n, J_uJ, J_uJ_n, Q_uQ, Q_uQ_n, E_uO, E_uO_n, I_uO, I_uO_n, R_uO, R_uO_n, E_uN, E_uN_n, L_uN, L_uN_n, A_uN, A_uN_n, J_uN, J_uN_n, Q_uN, Q_uN_n, A_uCA, A_uCA_n, J_uCJ, J_uCJ_n, E_uI, R_uI, L_uI, A_uI, J_uI, Q_uI, E_uR, I_uR, L_uR, A_uR, J_uR, Q_uR, E_uA, I_uA, R_uA, L_uA, J_uA, Q_uA, E_uJ, I_uJ, R_uJ, L_uJ, A_uJ, Q_uJ, E_uQ, I_uQ, R_uQ, L_uQ, A_uQ, J_uQ, L_uO, A_uO, J_uO, Q_uO, I_uN, R_uN, E_uCA, I_uCA, R_uCA, L_uCA, J_uCA, Q_uCA, E_uCJ, I_uCJ, R_uCJ, L_uCJ, A_uCJ, Q_uCJ, m1_s]; exact pu_m) (by simp (disch := omega) only [mN, cN, cC, I_uI, I_uI_n, R_uR, R_uR_n, A_uA, A_uA_n, J_uJ, J_uJ_n, Q_uQ, Q_uQ_n, E_uO, E_uO_n, I_uO, I_uO_n, R_uO, R_uO_n, E_uN, E_uN_n, L_uN, L_uN_n, A_uN, A_uN_n, J_uN, J_uN_n, Q_uN, Q_uN_n, A_uCA, A_uCA_n, J_uCJ, J_uCJ_n, E_uI, R_uI, L_uI, A_uI, J_uI, Q_uI, E_uR, I_uR, L_uR, A_uR, J_uR, Q_uR, E_uA, I_uA, R_uA, L_uA, J_uA, Q_uA, E_uJ, I_uJ, R_uJ, L_uJ, A_uJ, Q_uJ, E_uQ, I_uQ, R_uQ, L_uQ, A_uQ, J_uQ, L_uO, A_uO, J_uO, Q_uO, I_uN, R_uN, E_uCA, I_uCA, R_uCA, L_uCA, J_uCA, Q_uCA, E_uCJ, I_uCJ, R_uCJ, L_uCJ, A_uCJ, Q_uCJ, m1_s]; exact pu_mm) (by simp (disch := omega) only [mN, cN, cC, I_uI, I_uI_n, R_uR, R_uR_n, A_uA, A_uA_n, J_uJ, J_uJ_n, Q_uQ, Q_uQ_n, E_uO, E_uO_n, I_uO, I_uO_n, R_uO, R_uO_n, E_uN, E_uN_n, L_uN, L_uN_n, A_uN, A_uN_n, J_uN, J_uN_n, Q_uN, Q_uN_n, A_uCA, A_uCA_n, J_uCJ, J_uCJ_n, E_uI, R_uI, L_uI, A_uI, J_uI, Q_uI, E_uR, I_uR, L_uR, A_uR, J_uR, Q_uR, E_uA, I_uA, R_uA, L_uA, J_uA, Q_uA, E_uJ, I_uJ, R_uJ, L_uJ, A_uJ, Q_uJ, E_uQ, I_uQ, R_uQ, L_uQ, A_uQ, J_uQ, L_uO, A_uO, J_uO, Q_uO, I_uN, R_uN, E_uCA, I_uCA, R_uCA, L_uCA, J_uCA, Q_uCA, E_uCJ, I_uCJ, R_uCJ, L_uCJ, A_uCJ, Q_uCJ, m1_s]; exact pu_mm) (by simp (disch := omega) only [mN, cN, cC, I_uI, I_uI_n, R_uR, R_uR_n, A_uA, A_uA_n, J_uJ, J_uJ_n, Q_uQ, Q_uQ_n, E_uO, E_uO_n, I_uO, I_uO_n, R_uO, R_uO_n, E_uN, E_uN_n, L_uN, L_uN_n, A_uN, A_uN_n, J_uN, J_uN_n, Q_uN, Q_uN_n, A_uCA, A_uCA_n, J_uCJ, J_uCJ_n, E_uI, R_uI, L_uI, A_uI, J_uI, Q_uI, E_uR, I_uR, L_uR, A_uR, J_uR, Q_uR, E_uA, I_uA, R_uA, L_uA, J_uA, Q_uA, E_uJ, I_uJ, R_uJ, L_uJ, A_uJ, Q_uJ, E_uQ, I_uQ, R_uQ, L_uQ, A_uQ, J_uQ, L_uO, A_uO, J_uO, Q_uO, I_uN, R_uN, E_uCA, I_uCA, R_uCA, L_uCA, J_uCA, Q_uCA, E_uCJ, I_uCJ, R_uCJ, L_uCJ, A_uCJ, Q_uCJ, m1_s]; exact pu_m) (by simp (disch := omega) only [mN, cN, cC, I_uI, I_uI_n, R_uR, R_uR_n, A_uA, A_uA_n, J_uJ, J_uJ_n, Q_uQ, Q_uQ_n, E_uO, E_uO_n, I_uO, I_uO_n, R_uO, R_uO_n, E_uN, E_uN_n, L_uN, L_uN_n, A_uN, A_uN_n, J_uN, J_uN_n, Q_uN, Q_uN_n, A_uCA, A_uCA_n, J_uCJ, J_uCJ_n, E_uI, R_uI, L_uI, A_uI, J_uI, Q_uI, E_uR, I_uR, L_uR, A_uR, J_uR, Q_uR, E_uA, I_uA, R_uA, L_uA, J_uA, Q_uA, E_uJ, I_uJ, R_uJ, L_uJ, A_uJ, Q_uJ, E_uQ, I_uQ, R_uQ, L_uQ, A_uQ, J_uQ, L_uO, A_uO, J_uO, Q_uO, I_uN, R_uN, E_uCA, I_uCA, R_uCA, L_uCA, J_uCA, Q_uCA, E_uCJ, I_uCJ, R_uCJ, L_uCJ, A_uCJ, Q_uCJ, m1_s]; exact pu_m) (by simp (disch := omega) only [mN, cN, cC, I_uI, I_uI_n, R_uR, R_uR_n, A_uA, A_uA_n, J_uJ, J_uJ_n, Q_uQ, Q_uQ_n, E_uO, E_uO_n, I_uO, I_uO_n, R_uO, R_uO_n, E_uN, E_uN_n, L_uN, L_uN_n, A_uN, A_uN_n, J_uN, J_uN_n, Q_uN, Q_uN_n, A_uCA, A_uCA_n, J_uCJ, J_uCJ_n, E_uI, R_uI, L_uI, A_uI, J_uI, Q_uI, E_uR, I_uR, L_uR, A_uR, J_uR, Q_uR, E_uA, I_uA, R_uA, L_uA, J_uA, Q_uA, E_uJ, I_uJ, R_uJ, L_uJ, A_uJ, Q_uJ, E_uQ, I_uQ, R_uQ, L_uQ, A_uQ, J_uQ, L_uO, A_uO, J_uO, Q_uO, I_uN, R_uN, E_uCA, I_uCA, R_uCA, L_uCA, J_uCA, Q_uCA, E_uCJ, I_uCJ, R_uCJ, L_uCJ, A_uCJ, Q_uCJ, m1_s]; exact pu_m) (by simp (disch := omega) only [mN, cN, cC, I_uI, I_uI_n, R_uR, R_uR_n, A_uA, A_uA_n, J_uJ, J_uJ_n, Q_uQ, Q_uQ_n, E_uO, E_uO_n, I_uO, I_uO_n, R_uO, R_uO_n, E_uN, E_uN_n, L_uN, L_uN_n, A_uN, A_uN_n, J_uN, J_uN_n, Q_uN, Q_uN_n, A_uCA, A_uCA_n, J_uCJ, J_uCJ_n, E_uI, R_uI, L_uI, A_uI, J_uI, Q_uI, E_uR, I_uR, L_uR, A_uR, J_uR, Q_uR, E_uA, I_uA, R_uA, L_uA, J_uA, Q_uA, E_uJ, I_uJ, R_uJ, L_uJ, A_uJ, Q_uJ, E_uQ, I_uQ, R_uQ, L_uQ, A_uQ, J_uQ, L_uO, A_uO, J_uO, Q_uO, I_uN, R_uN, E_uCA, I_uCA, R_uCA, L_uCA, J_uCA, Q_uCA, E_uCJ, I_uCJ, R_uCJ, L_uCJ, A_uCJ, Q_uCJ, m1_s]; exact pu_m) (by simp (disch := omega) only [mN, cN, cC, I_uI, I_uI_n, R_uR, R_uR_n, A_uA, A_uA_n, J_uJ, J_uJ_n, Q_uQ, Q_uQ_n, E_uO, E_uO_n, I_uO, I_uO_n, R_uO, R_uO_n, E_uN, E_uN_n, L_uN, L_uN_n, A_uN, A_uN_n, J_uN, J_uN_n, Q_uN, Q_uN_n, A_uCA, A_uCA_n, J_uCJ, J_uCJ_n, E_uI, R_uI, L_uI, A_uI, J_uI, Q_uI, E_uR, I_uR, L_uR, A_uR, J_uR, Q_uR, E_uA, I_uA, R_uA, L_uA, J_uA, Q_uA, E_uJ, I_uJ, R_uJ, L_uJ, A_uJ, Q_uJ, E_uQ, I_uQ, R_uQ, L_uQ, A_uQ, J_uQ, L_uO, A_uO, J_uO, Q_uO, I_uN, R_uN, E_uCA, I_uCA, R_uCA, L_uCA, J_uCA, Q_uCA, E_uCJ, I_uCJ, R_uCJ, L_uCJ, A_uCJ, Q_uCJ, m1_s]; exact pu_m) (by simp (disch := omega) only [mN, cN, cC, I_uI, I_uI_n, R_uR, R_uR_n, A_uA, A_uA_n, J_uJ, J_uJ_n, Q_uQ, Q_uQ_n, E_uO, E_uO_n, I_uO, I_uO_n, R_uO, R_uO_n, E_uN, E_uN_n, L_uN, L_uN_n, A_uN, A_uN_n, J_uN, J_uN_n, Q_uN, Q_uN_n, A_uCA, A_uCA_n, J_uCJ, J_uCJ_n, E_uI, R_uI, L_uI, A_uI, J_uI, Q_uI, E_uR, I_uR, L_uR, A_uR, J_uR, Q_uR, E_uA, I_uA, R_uA, L_uA, J_uA, Q_uA, E_uJ, I_uJ, R_uJ, L_uJ, A_uJ, Q_uJ, E_uQ, I_uQ, R_uQ, L_uQ, A_uQ, J_uQ, L_uO, A_uO, J_uO, Q_uO, I_uN, R_uN, E_uCA, I_uCA, R_uCA, L_uCA, J_uCA, Q_uCA, E_uCJ, I_uCJ, R_uCJ, L_uCJ, A_uCJ, Q_uCJ, m1_s]; exact pu_m) ⟨fun i hi => ?_, fun q => absurd q hncl, fun i hi => ⟨?_, ?_, ?_⟩⟩ (by simp (disch := omega) only [mN, cN, cC, I_uI, I_uI_n, R_uR, R_uR_n, A_uA, A_uA_n, J_uJ, J_uJ_n, Q_uQ, Q_uQ_n, E_uO, E_uO_n, I_uO, I_uO_n, R_uO, R_uO_n, E_uN, E_uN_n, L_uN, L_uN_n, A_uN, A_uN_n, J_uN, J_uN_n, Q_uN, Q_uN_n, A_uCA, A_uCA_n, J_uCJ, J_uCJ_n, E_uI, R_uI, L_uI, A_uI, J_uI, Q_uI, E_uR, I_uR, L_uR, A_uR, J_uR, Q_uR, E_uA, I_uA, R_uA, L_uA, J_uA, Q_uA, E_uJ, I_uJ, R_uJ, L_uJ, A_uJ, Q_uJ, E_uQ, I_uQ, R_uQ, L_uQ, A_uQ, J_uQ, L_uO, A_uO, J_uO, Q_uO, I_uN, R_uN, E_uCA, I_uCA, R_uCA, L_uCA, J_uCA, Q_uCA, E_uCJ, I_uCJ, R_uCJ, L_uCJ, A_uCJ, Q_uCJ, m1_s]; exact pu_m) (by simp (disch := omega) only [mN, cN, cC, I_uI, I_uI_n, R_uR, R_uR_n, A_uA, A_uA_n, J_uJ, J_uJ_n, Q_uQ, Q_uQ_n, E_uO, E_uO_n, I_uO, I_uO_n, R_uO, R_uO_n, E_uN, E_uN_n, L_uN, L_uN_n, A_uN, A_uN_n, J_uN, J_uN_n, Q_uN, Q_uN_n, A_uCA, A_uCA_n, J_uCJ, J_uCJ_n, E_uI, R_uI, L_uI, A_uI, J_uI, Q_uI, E_uR, I_uR, L_uR, A_uR, J_uR, Q_uR, E_uA, I_uA, R_uA, L_uA, J_uA, Q_uA, E_uJ, I_uJ, R_uJ, L_uJ, A_uJ, Q_uJ, E_uQ, I_uQ, R_uQ, L_uQ, A_uQ, J_uQ, L_uO, A_uO, J_uO, Q_uO, I_uN, R_uN, E_uCA, I_uCA, R_uCA, L_uCA, J_uCA, Q_uCA, E_uCJ, I_uCJ, R_uCJ, L_uCJ, A_uCJ, Q_uCJ, m1_s]; exact pu_m) (by simp (disch := omega) only [mN, cN, cC, I_uI, I_uI_n, R_uR, R_uR_n, A_uA, A_uA_n, J_uJ, J_uJ_n, Q_uQ, Q_uQ_n, E_uO, E_uO_n, I_uO, I_uO_n, R_uO, R_uO_n, E_uN, E_uN_n, L_uN, L_uN_n, A_uN, A_uN_n, J_uN, J_uN_n, Q_uN, Q_uN_n, A_uCA, A_uCA_n, J_uCJ, J_uCJ_n, E_uI, R_uI, L_uI, A_uI, J_uI, Q_uI, E_uR, I_uR, L_uR, A_uR, J_uR, Q_uR, E_uA, I_uA, R_uA, L_uA, J_uA, Q_uA, E_uJ, I_uJ, R_uJ, L_uJ, A_uJ, Q_uJ, E_uQ, I_uQ, R_uQ, L_uQ, A_uQ, J_uQ, L_uO, A_uO, J_uO, Q_uO, I_uN, R_uN, E_uCA, I_uCA, R_uCA, L_uCA, J_uCA, Q_uCA, E_uCJ, I_uCJ, R_uCJ, L_uCJ, A_uCJ, Q_uCJ, m1_s]; exact pu_m) (by simp (disch := omega) only [mN, cN, cC, I_uI, I_uI_n, R_uR, R_uR_n, A_uA, A_uA_n, J_uJ, J_uJ_n, Q_uQ, Q_uQ_n, E_uO, E_uO_n, I_uO, I_uO_n, R_uO, R_uO_n, E_uN, E_uN_n, L_uN, L_uN_n, A_uN, A_uN_n, J_uN, J_uN_n, Q_uN, Q_uN_n, A_uCA, A_uCA_n, J_uCJ, J_uCJ_n, E_uI, R_uI, L_uI, A_uI, J_uI, Q_uI, E_uR, I_uR, L_uR, A_uR, J_uR, Q_uR, E_uA, I_uA, R_uA, L_uA, J_uA, Q_uA, E_uJ, I_uJ, R_uJ, L_uJ, A_uJ, Q_uJ, E_uQ, I_uQ, R_uQ, L_uQ, A_uQ, J_uQ, L_uO, A_uO, J_uO, Q_uO, I_uN, R_uN, E_uCA, I_uCA, R_uCA, L_uCA, J_uCA, Q_uCA, E_uCJ, I_uCJ, R_uCJ, L_uCJ, A_uCJ, Q_uCJ, m1_s]; exact pu_m) (by simp (disch := omega) only [mN, cN, cC, I_uI, I_uI_n, R_uR, R_uR_n, A_uA, A_uA_n, J_uJ, J_uJ_n, Q_uQ, Q_uQ_n, E_uO, E_uO_n, I_uO, I_uO_n, R_uO, R_uO_n, E_uN, E_uN_n, L_uN, L_uN_n, A_uN, A_uN_n, J_uN, J_uN_n, Q_uN, Q_uN_n, A_uCA, A_uCA_n, J_uCJ, J_uCJ_n, E_uI, R_uI, L_uI, A_uI, J_uI, Q_uI, E_uR, I_uR, L_uR, A_uR, J_uR, Q_uR, E_uA, I_uA, R_uA, L_uA, J_uA, Q_uA, E_uJ, I_uJ, R_uJ, L_uJ, A_uJ, Q_uJ, E_uQ, I_uQ, R_uQ, L_uQ, A_uQ, J_uQ, L_uO, A_uO, J_uO, Q_uO, I_uN, R_uN, E_uCA, I_uCA, R_uCA, L_uCA, J_uCA, Q_uCA, E_uCJ, I_uCJ, R_uCJ, L_uCJ, A_uCJ, Q_uCJ, m1_s]; exact pu_m) ?_ ?_ ?_ ?_ (by simp (disch := omega) only [mN, cN, cC, I_uI, I_uI_n, R_uR, R_uR_n, A_uA, A_uA_n, J_uJ, J_uJ_n, Q_uQ, Q_uQ_n, E_uO, E_uO_n, I_uO, I_uO_n, R_uO, R_uO_n, E_uN, E_uN_n, L_uN, L_uN_n, A_uN, A_uN_n, J_uN, J_uN_n, Q_uN, Q_uN_n, A_uCA, A_uCA_n, J_uCJ, J_uCJ_n, E_uI, R_uI, L_uI, A_uI, J_uI, Q_uI, E_uR, I_uR, L_uR, A_uR, J_uR, Q_uR, E_uA, I_uA, R_uA, L_uA, J_uA, Q_uA, E_uJ, I_uJ, R_uJ, L_uJ, A_uJ, Q_uJ, E_uQ, I_uQ, R_uQ, L_uQ, A_uQ, J_uQ, L_uO, A_uO, J_uO, Q_uO, I_uN, R_uN, E_uCA, I_uCA, R_uCA, L_uCA, J_uCA, Q_uCA, E_uCJ, I_uCJ, R_uCJ, L_uCJ, A_uCJ, Q_uCJ, m1_s]; exact pu_m)
      · rcases hx with rfl | rfl | rfl
        · exact ⟨0, by omega, rfl⟩
        · exact ⟨1, by omega, rfl⟩
        · exact ⟨6, by omega, rfl⟩
      · simp (disch := omega) only [mN, cN, I_uI, I_uI_n, R_uR, R_uR_n, A_uA, A_uA_n, J_uJ, J_uJ_n, Q_uQ, Q_uQ_n, E_uO, E_uO_n, I_uO, I_uO_n, R_uO, R_uO_n, E_uN, E_uN_n, L_uN, L_uN_n, A_uN, A_uN_n, J_uN, J_uN_n, Q_uN, Q_uN_n, A_uCA, A_uCA_n, J_uCJ, J_uCJ_n, E_uI, R_uI, L_uI, A_uI, J_uI, Q_uI, E_uR, I_uR, L_uR, A_uR, J_uR, Q_uR, E_uA, I_uA, R_uA, L_uA, J_uA, Q_uA, E_uJ, I_uJ, R_uJ, L_uJ, A_uJ, Q_uJ, E_uQ, I_uQ, R_uQ, L_uQ, A_uQ, J_uQ, L_uO, A_uO, J_uO, Q_uO, I_uN, R_uN, E_uCA, I_uCA, R_uCA, L_uCA, J_uCA, Q_uCA, E_uCJ, I_uCJ, R_uCJ, L_uCJ, A_uCJ, Q_uCJ, m1_s, m1_n]
      · simp (disch := omega) only [mN, cN, I_uI, I_uI_n, R_uR, R_uR_n, A_uA, A_uA_n, J_uJ, J_uJ_n, Q_uQ, Q_uQ_n, E_uO, E_uO_n, I_uO, I_uO_n, R_uO, R_uO_n, E_uN, E_uN_n, L_uN, L_uN_n, A_uN, A_uN_n, J_uN, J_uN_n, Q_uN, Q_uN_n, A_uCA, A_uCA_n, J_uCJ, J_uCJ_n, E_uI, R_uI, L_uI, A_uI, J_uI, Q_uI, E_uR, I_uR, L_uR, A_uR, J_uR, Q_uR, E_uA, I_uA, R_uA, L_uA, J_uA, Q_uA, E_uJ, I_uJ, R_uJ, L_uJ, A_uJ, Q_uJ, E_uQ, I_uQ, R_uQ, L_uQ, A_uQ, J_uQ, L_uO, A_uO, J_uO, Q_uO, I_uN, R_uN, E_uCA, I_uCA, R_uCA, L_uCA, J_uCA, Q_uCA, E_uCJ, I_uCJ, R_uCJ, L_uCJ, A_uCJ, Q_uCJ, m1_s]
      · simp (disch := omega) only [mN, cN, I_uI, I_uI_n, R_uR, R_uR_n, A_uA, A_uA_n, J_uJ, J_uJ_n, Q_uQ, Q_uQ_n, E_uO, E_uO_n, I_uO, I_uO_n, R_uO, R_uO_n, E_uN, E_uN_n, L_uN, L_uN_n, A_uN, A_uN_n, J_uN, J_uN_n, Q_uN, Q_uN_n, A_uCA, A_uCA_n, J_uCJ, J_uCJ_n, E_uI, R_uI, L_uI, A_uI, J_uI, Q_uI, E_uR, I_uR, L_uR, A_uR, J_uR, Q_uR, E_uA, I_uA, R_uA, L_uA, J_uA, Q_uA, E_uJ, I_uJ, R_uJ, L_uJ, A_uJ, Q_uJ, E_uQ, I_uQ, R_uQ, L_uQ, A_uQ, J_uQ, L_uO, A_uO, J_uO, Q_uO, I_uN, R_uN, E_uCA, I_uCA, R_uCA, L_uCA, J_uCA, Q_uCA, E_uCJ, I_uCJ, R_uCJ, L_uCJ, A_uCJ, Q_uCJ, m1_s]
      · simp (disch := omega) only [mN, cN, I_uI, I_uI_n, R_uR, R_uR_n, A_uA, A_uA_n, J_uJ, J_uJ_n, Q_uQ, Q_uQ_n, E_uO, E_uO_n, I_uO, I_uO_n, R_uO, R_uO_n, E_uN, E_uN_n, L_uN, L_uN_n, A_uN, A_uN_n, J_uN, J_uN_n, Q_uN, Q_uN_n, A_uCA, A_uCA_n, J_uCJ, J_uCJ_n, E_uI, R_uI, L_uI, A_uI, J_uI, Q_uI, E_uR, I_uR, L_uR, A_uR, J_uR, Q_uR, E_uA, I_uA, R_uA, L_uA, J_uA, Q_uA, E_uJ, I_uJ, R_uJ, L_uJ, A_uJ, Q_uJ, E_uQ, I_uQ, R_uQ, L_uQ, A_uQ, J_uQ, L_uO, A_uO, J_uO, Q_uO, I_uN, R_uN, E_uCA, I_uCA, R_uCA, L_uCA, J_uCA, Q_uCA, E_uCJ, I_uCJ, R_uCJ, L_uCJ, A_uCJ, Q_uCJ, m1_s]
      · simp (disch := omega) only [mN, cN, I_uI, I_uI_n, R_uR, R_uR_n, A_uA, A_uA_n, J_uJ, J_uJ_n, Q_uQ, Q_uQ_n, E_uO, E_uO_n, I_uO, I_uO_n, R_uO, R_uO_n, E_uN, E_uN_n, L_uN, L_uN_n, A_uN, A_uN_n, J_uN, J_uN_n, Q_uN, Q_uN_n, A_uCA, A_uCA_n, J_uCJ, J_uCJ_n, E_uI, R_uI, L_uI, A_uI, J_uI, Q_uI, E_uR, I_uR, L_uR, A_uR, J_uR, Q_uR, E_uA, I_uA, R_uA, L_uA, J_uA, Q_uA, E_uJ, I_uJ, R_uJ, L_uJ, A_uJ, Q_uJ, E_uQ, I_uQ, R_uQ, L_uQ, A_uQ, J_uQ, L_uO, A_uO, J_uO, Q_uO, I_uN, R_uN, E_uCA, I_uCA, R_uCA, L_uCA, J_uCA, Q_uCA, E_uCJ, I_uCJ, R_uCJ, L_uCJ, A_uCJ, Q_uCJ, m1_s]; exact pu_r hfr.2.1
      · simp (disch := omega) only [mN, cN, I_uI, I_uI_n, R_uR, R_uR_n, A_uA, A_uA_n, J_uJ, J_uJ_n, Q_uQ, Q_uQ_n, E_uO, E_uO_n, I_uO, I_uO_n, R_uO, R_uO_n, E_uN, E_uN_n, L_uN, L_uN_n, A_uN, A_uN_n, J_uN, J_uN_n, Q_uN, Q_uN_n, A_uCA, A_uCA_n, J_uCJ, J_uCJ_n, E_uI, R_uI, L_uI, A_uI, J_uI, Q_uI, E_uR, I_uR, L_uR, A_uR, J_uR, Q_uR, E_uA, I_uA, R_uA, L_uA, J_uA, Q_uA, E_uJ, I_uJ, R_uJ, L_uJ, A_uJ, Q_uJ, E_uQ, I_uQ, R_uQ, L_uQ, A_uQ, J_uQ, L_uO, A_uO, J_uO, Q_uO, I_uN, R_uN, E_uCA, I_uCA, R_uCA, L_uCA, J_uCA, Q_uCA, E_uCJ, I_uCJ, R_uCJ, L_uCJ, A_uCJ, Q_uCJ, m1_s]; exact pu_r (hA.2.1.2 nB (Nat.le_refl _))
      · simp (disch := omega) only [mN, cN, I_uI, I_uI_n, R_uR, R_uR_n, A_uA, A_uA_n, J_uJ, J_uJ_n, Q_uQ, Q_uQ_n, E_uO, E_uO_n, I_uO, I_uO_n, R_uO, R_uO_n, E_uN, E_uN_n, L_uN, L_uN_n, A_uN, A_uN_n, J_uN, J_uN_n, Q_uN, Q_uN_n, A_uCA, A_uCA_n, J_uCJ, J_uCJ_n, E_uI, R_uI, L_uI, A_uI, J_uI, Q_uI, E_uR, I_uR, L_uR, A_uR, J_uR, Q_uR, E_uA, I_uA, R_uA, L_uA, J_uA, Q_uA, E_uJ, I_uJ, R_uJ, L_uJ, A_uJ, Q_uJ, E_uQ, I_uQ, R_uQ, L_uQ, A_uQ, J_uQ, L_uO, A_uO, J_uO, Q_uO, I_uN, R_uN, E_uCA, I_uCA, R_uCA, L_uCA, J_uCA, Q_uCA, E_uCJ, I_uCJ, R_uCJ, L_uCJ, A_uCJ, Q_uCJ, m1_s]; exact pu_r hfr.2.2.1
      · simp (disch := omega) only [mN, cN, I_uI, I_uI_n, R_uR, R_uR_n, A_uA, A_uA_n, J_uJ, J_uJ_n, Q_uQ, Q_uQ_n, E_uO, E_uO_n, I_uO, I_uO_n, R_uO, R_uO_n, E_uN, E_uN_n, L_uN, L_uN_n, A_uN, A_uN_n, J_uN, J_uN_n, Q_uN, Q_uN_n, A_uCA, A_uCA_n, J_uCJ, J_uCJ_n, E_uI, R_uI, L_uI, A_uI, J_uI, Q_uI, E_uR, I_uR, L_uR, A_uR, J_uR, Q_uR, E_uA, I_uA, R_uA, L_uA, J_uA, Q_uA, E_uJ, I_uJ, R_uJ, L_uJ, A_uJ, Q_uJ, E_uQ, I_uQ, R_uQ, L_uQ, A_uQ, J_uQ, L_uO, A_uO, J_uO, Q_uO, I_uN, R_uN, E_uCA, I_uCA, R_uCA, L_uCA, J_uCA, Q_uCA, E_uCJ, I_uCJ, R_uCJ, L_uCJ, A_uCJ, Q_uCJ, m1_s]; exact pu_r hfr.2.2.2
    · refine Icb_new (v := 0) hb hA.2.1 hf (Int32.le_refl _) (by decide) ?_
      simp (disch := omega) only [mN, cN, I_uI, I_uI_n, R_uR, R_uR_n, A_uA, A_uA_n, J_uJ, J_uJ_n, Q_uQ, Q_uQ_n, E_uO, E_uO_n, I_uO, I_uO_n, R_uO, R_uO_n, E_uN, E_uN_n, L_uN, L_uN_n, A_uN, A_uN_n, J_uN, J_uN_n, Q_uN, Q_uN_n, A_uCA, A_uCA_n, J_uCJ, J_uCJ_n, E_uI, R_uI, L_uI, A_uI, J_uI, Q_uI, E_uR, I_uR, L_uR, A_uR, J_uR, Q_uR, E_uA, I_uA, R_uA, L_uA, J_uA, Q_uA, E_uJ, I_uJ, R_uJ, L_uJ, A_uJ, Q_uJ, E_uQ, I_uQ, R_uQ, L_uQ, A_uQ, J_uQ, L_uO, A_uO, J_uO, Q_uO, I_uN, R_uN, E_uCA, I_uCA, R_uCA, L_uCA, J_uCA, Q_uCA, E_uCJ, I_uCJ, R_uCJ, L_uCJ, A_uCJ, Q_uCJ, m1_s]
      exact (m1_sf (hA.2.1.2 nB (Nat.le_refl _))).symm
    · simp (disch := omega) only [mN, cN, I_uI, I_uI_n, R_uR, R_uR_n, A_uA, A_uA_n, J_uJ, J_uJ_n, Q_uQ, Q_uQ_n, E_uO, E_uO_n, I_uO, I_uO_n, R_uO, R_uO_n, E_uN, E_uN_n, L_uN, L_uN_n, A_uN, A_uN_n, J_uN, J_uN_n, Q_uN, Q_uN_n, A_uCA, A_uCA_n, J_uCJ, J_uCJ_n, E_uI, R_uI, L_uI, A_uI, J_uI, Q_uI, E_uR, I_uR, L_uR, A_uR, J_uR, Q_uR, E_uA, I_uA, R_uA, L_uA, J_uA, Q_uA, E_uJ, I_uJ, R_uJ, L_uJ, A_uJ, Q_uJ, E_uQ, I_uQ, R_uQ, L_uQ, A_uQ, J_uQ, L_uO, A_uO, J_uO, Q_uO, I_uN, R_uN, E_uCA, I_uCA, R_uCA, L_uCA, J_uCA, Q_uCA, E_uCJ, I_uCJ, R_uCJ, L_uCJ, A_uCJ, Q_uCJ, m1_s, m1_n]
    · simp (disch := omega) only [mN, cN, I_uI, I_uI_n, R_uR, R_uR_n, A_uA, A_uA_n, J_uJ, J_uJ_n, Q_uQ, Q_uQ_n, E_uO, E_uO_n, I_uO, I_uO_n, R_uO, R_uO_n, E_uN, E_uN_n, L_uN, L_uN_n, A_uN, A_uN_n, J_uN, J_uN_n, Q_uN, Q_uN_n, A_uCA, A_uCA_n, J_uCJ, J_uCJ_n, E_uI, R_uI, L_uI, A_uI, J_uI, Q_uI, E_uR, I_uR, L_uR, A_uR, J_uR, Q_uR, E_uA, I_uA, R_uA, L_uA, J_uA, Q_uA, E_uJ, I_uJ, R_uJ, L_uJ, A_uJ, Q_uJ, E_uQ, I_uQ, R_uQ, L_uQ, A_uQ, J_uQ, L_uO, A_uO, J_uO, Q_uO, I_uN, R_uN, E_uCA, I_uCA, R_uCA, L_uCA, J_uCA, Q_uCA, E_uCJ, I_uCJ, R_uCJ, L_uCJ, A_uCJ, Q_uCJ, m1_s]
theorem m_club2 (x1 x2 x3 : Int32) (hL : Ilen t) (hG : Ileag t) (hA : Iall nB nS nM t) (hb : Icb nB nM t) : Eqm (F_X12_club t x1 x2 x3) (fun t => F_X13_club t x1 x2 x3) (fun t2 => ∃ nB', Iall nB' nS nM t2 ∧ nB ≤ nB' ∧ frm kNew t t2 ∧ Icb nB' nM t2 ∧ (∀ i, i < nB → tA t2 3308 0 i = tA t 3308 0 i) ∧ tI t2 1 = tI t 1) := by
  have hB := hA.1
  have h150 := hB.1
  have hbad : ∀ r, F_X12_club t x1 x2 x3 = some (r, t) → F_X13_club t x1 x2 x3 = some (r, t) → Eqm (F_X12_club t x1 x2 x3) (fun t => F_X13_club t x1 x2 x3) (fun t2 => ∃ nB', Iall nB' nS nM t2 ∧ nB ≤ nB' ∧ frm kNew t t2 ∧ Icb nB' nM t2 ∧ (∀ i, i < nB → tA t2 3308 0 i = tA t 3308 0 i) ∧ tI t2 1 = tI t 1) := fun r h1 h2 => ⟨r, t, t, h1, h2, nB, hA, Nat.le_refl _, frm_rf, hb, fun _ _ => rfl, rfl⟩
  by_cases hx : x1 = 5 ∨ x1 = 7
  case neg =>
    have h5 : ¬ x1 = 5 := fun e => hx (Or.inl e)
    have h7 : ¬ x1 = 7 := fun e => hx (Or.inr e)
    exact hbad (-1) (by simp only [F_X12_club, h5, h7, Bool.false_eq_true, Bool.true_eq_false, if_true, if_false, not_true_eq_false, not_false_eq_true]) (by simp only [F_X13_club, h5, h7, Bool.false_eq_true, Bool.true_eq_false, if_true, if_false, not_true_eq_false, not_false_eq_true])
  have e12 : F_X12_club t x1 x2 x3 = B_X12_club_11 t x1 x2 x3 := by
    unfold F_X12_club
    rcases hx with rfl | rfl <;> rfl
  have e13 : ∀ t, F_X13_club t x1 x2 x3 = B_X13_club_11 t x1 x2 x3 := by
    intro t
    unfold F_X13_club
    rcases hx with rfl | rfl <;> rfl
  simp only [e12, e13] at hbad ⊢
  cases hl : ix 4 x2 with
  | none => exact hbad (-1) (by simp only [B_X12_club_11, leagueAt_eq hL hG, hl, nxt_e, oc_s, oc_n, ob_s, ob2_s, gb_b1, gb_0, gb_1, gw0, gw1, Bool.false_eq_true, Bool.true_eq_false, if_true, if_false, not_true_eq_false, not_false_eq_true]) (by simp only [B_X13_club_11, isLeague_eq, hl, isS_n, nxt_e, oc_s, oc_n, ob_s, ob2_s, gb_b1, gb_0, gb_1, gw0, gw1, Bool.false_eq_true, Bool.true_eq_false, if_true, if_false, not_true_eq_false, not_false_eq_true])
  | some l =>
  obtain ⟨hl4, rfl⟩ := ix_some hl
  by_cases h3 : 0 ≤ x3 ∧ x3 ≤ 9999999
  case neg => exact hbad (-1) (by simp only [B_X12_club_11, leagueAt_eq hL hG, hl, win_eq, decide_eq_false h3, nxt_e, oc_s, oc_n, ob_s, ob2_s, gb_b1, gb_0, gb_1, gw0, gw1, Bool.false_eq_true, Bool.true_eq_false, if_true, if_false, not_true_eq_false, not_false_eq_true]) (by simp only [B_X13_club_11, isLeague_eq, hl, isS_s, in_eq, decide_eq_false h3, nxt_e, oc_s, oc_n, ob_s, ob2_s, gb_b1, gb_0, gb_1, gw0, gw1, Bool.false_eq_true, Bool.true_eq_false, if_true, if_false, not_true_eq_false, not_false_eq_true])
  by_cases hn : nB = 150
  · have hn9 : nt nB = 150 := by rw [n150 h150]; exact hn
    exact hbad (-3) (by simp only [B_X12_club_11, leagueAt_eq hL hG, hl, win_eq, decide_eq_true h3, nxt_e, oc_s, oc_n, ob_s, ob2_s, gb_b1, gb_0, gb_1, gw0, gw1, Bool.false_eq_true, Bool.true_eq_false, if_true, if_false, not_true_eq_false, not_false_eq_true, addBody_full hB hn]) (by simp only [B_X13_club_11, isLeague_eq, hl, isS_s, in_eq, decide_eq_true h3, nxt_e, oc_s, oc_n, ob_s, ob2_s, gb_b1, gb_0, gb_1, gw0, gw1, Bool.false_eq_true, Bool.true_eq_false, if_true, if_false, not_true_eq_false, not_false_eq_true, hB.2.2.1, hn9])
  · have hlt : nB < 150 := by omega
    have hcl : isCl x1 = true := by rcases hx with rfl | rfl <;> decide
    have hfa : frm kNew t (uI (uI (cC t nB x1) 102 nB (nt l)) 103 nB x3) := frm_tr (frm_uO k2_l) (frm_tr (frm_uI rfl) (frm_tr (frm_uI rfl) (frm_tr (frm_uN rfl (Or.inl rfl)) (frm_tr (frm_uR rfl) (frm_tr (frm_uQ rfl) (frm_tr (frm_uI rfl) (frm_tr (frm_uI rfl) (frm_uI rfl))))))))
    have hf2 : frm kNew (uI (uI (cC t nB x1) 102 nB (nt l)) 103 nB x3) (uA (uA (mN (uI (uI (cC t nB x1) 102 nB (nt l)) 103 nB x3) nB x1) 3309 0 nB (nt l)) 3310 0 nB x3) := frm_tr (frm_uA rfl) (frm_tr (frm_uA rfl) (frm_tr (frm_uI rfl) (frm_tr (frm_uA rfl) (frm_uA rfl))))
    have hf := frm_tr hfa hf2
    have hL1 := Ilen_f hfa hL
    have h13 : tI (uI (uI (cC t nB x1) 102 nB (nt l)) 103 nB x3) 1307 0 = nt nB := by
      simp (disch := omega) only [cC, I_uI, I_uI_n, R_uR, R_uR_n, A_uA, A_uA_n, J_uJ, J_uJ_n, Q_uQ, Q_uQ_n, E_uO, E_uO_n, I_uO, I_uO_n, R_uO, R_uO_n, E_uN, E_uN_n, L_uN, L_uN_n, A_uN, A_uN_n, J_uN, J_uN_n, Q_uN, Q_uN_n, A_uCA, A_uCA_n, J_uCJ, J_uCJ_n, E_uI, R_uI, L_uI, A_uI, J_uI, Q_uI, E_uR, I_uR, L_uR, A_uR, J_uR, Q_uR, E_uA, I_uA, R_uA, L_uA, J_uA, Q_uA, E_uJ, I_uJ, R_uJ, L_uJ, A_uJ, Q_uJ, E_uQ, I_uQ, R_uQ, L_uQ, A_uQ, J_uQ, L_uO, A_uO, J_uO, Q_uO, I_uN, R_uN, E_uCA, I_uCA, R_uCA, L_uCA, J_uCA, Q_uCA, E_uCJ, I_uCJ, R_uCJ, L_uCJ, A_uCJ, Q_uCJ, m1_s]
      exact hB.2.2.1
    have hL2 : Ilen (mN (uI (uI (cC t nB x1) 102 nB (nt l)) 103 nB x3) nB x1) := Ilen_f (frm_tr (frm_uA rfl) (frm_tr (frm_uA rfl) (frm_uI rfl)) : frm kNew _ _) hL1
    refine ⟨nt nB, uI (uI (cC t nB x1) 102 nB (nt l)) 103 nB x3, uA (uA (mN (uI (uI (cC t nB x1) 102 nB (nt l)) 103 nB x3) nB x1) 3309 0 nB (nt l)) 3310 0 nB x3, ?_, ?_, nB + 1, ?_, by omega, hf, ?_, fun i hi => ?_, ?_⟩
    · simp (disch := omega) only [B_X12_club_11, leagueAt_eq hL hG, hl, win_eq, decide_eq_true h3, nxt_e, oc_s, oc_n, ob_s, ob2_s, gb_b1, gb_0, gb_1, gw0, gw1, Bool.false_eq_true, Bool.true_eq_false, if_true, if_false, not_true_eq_false, not_false_eq_true, addBody_C hL hB hA.2.2.1 hlt hx]
      congr 2
      simp (disch := omega) only [cC, I_uI, I_uI_n, R_uR, R_uR_n, A_uA, A_uA_n, J_uJ, J_uJ_n, Q_uQ, Q_uQ_n, E_uO, E_uO_n, I_uO, I_uO_n, R_uO, R_uO_n, E_uN, E_uN_n, L_uN, L_uN_n, A_uN, A_uN_n, J_uN, J_uN_n, Q_uN, Q_uN_n, A_uCA, A_uCA_n, J_uCJ, J_uCJ_n, E_uI, R_uI, L_uI, A_uI, J_uI, Q_uI, E_uR, I_uR, L_uR, A_uR, J_uR, Q_uR, E_uA, I_uA, R_uA, L_uA, J_uA, Q_uA, E_uJ, I_uJ, R_uJ, L_uJ, A_uJ, Q_uJ, E_uQ, I_uQ, R_uQ, L_uQ, A_uQ, J_uQ, L_uO, A_uO, J_uO, Q_uO, I_uN, R_uN, E_uCA, I_uCA, R_uCA, L_uCA, J_uCA, Q_uCA, E_uCJ, I_uCJ, R_uCJ, L_uCJ, A_uCJ, Q_uCJ, m1_s, m1_s]
    · have hn2 : ¬ nt nB = 150 := fun q => by rw [n150 h150] at q; exact hn q
      simp (disch := omega) only [B_X13_club_11, isLeague_eq, hl, isS_s, in_eq, decide_eq_true h3, nxt_e, oc_s, oc_n, ob_s, ob2_s, gb_b1, gb_0, gb_1, gw0, gw1, Bool.false_eq_true, Bool.true_eq_false, if_true, if_false, not_true_eq_false, not_false_eq_true, h13, hn2, add_eq hL1 hlt h13, (show tL _ 3309 0 = 150 from hL2 3309 rfl), (show tL _ 3310 0 = 150 from hL2 3310 rfl), gd_nt, nt_cl, I_uI, I_uI_n, A_uA, A_uA_n, E_uI, R_uI, L_uI, A_uI, J_uI, Q_uI, E_uA, I_uA, R_uA, L_uA, J_uA, Q_uA, m1_s]
    · have hfr := hB.2.2.2.2 nB (Nat.le_refl _)
      refine Iall_new (k := x1) (lg := nt l) (co := x3) (bo := 0) (wo := 0) (ai := -1) (ag := none) hA hlt hf.1 ?_ ⟨l, hl4, rfl⟩ (by decide) (Or.inl ⟨rfl, rfl⟩) (by simp (disch := omega) only [mN, cN, cC, I_uI, I_uI_n, R_uR, R_uR_n, A_uA, A_uA_n, J_uJ, J_uJ_n, Q_uQ, Q_uQ_n, E_uO, E_uO_n, I_uO, I_uO_n, R_uO, R_uO_n, E_uN, E_uN_n, L_uN, L_uN_n, A_uN, A_uN_n, J_uN, J_uN_n, Q_uN, Q_uN_n, A_uCA, A_uCA_n, J_uCJ, J_uCJ_n, E_uI, R_uI, L_uI, A_uI, J_uI, Q_uI, E_uR, I_uR, L_uR, A_uR, J_uR, Q_uR, E_uA, I_uA, R_uA, L_uA, J_uA, Q_uA, E_uJ, I_uJ, R_uJ, L_uJ, A_uJ, Q_uJ, E_uQ, I_uQ, R_uQ, L_uQ, A_uQ, J_uQ, L_uO, A_uO, J_uO, Q_uO, I_uN, R_uN, E_uCA, I_uCA, R_uCA, L_uCA, J_uCA, Q_uCA, E_uCJ, I_uCJ, R_uCJ, L_uCJ, A_uCJ, Q_uCJ, m1_s, m1_s]) (by simp (disch := omega) only [mN, cN, cC, I_uI, I_uI_n, R_uR, R_uR_n, A_uA, A_uA_n, J_uJ, J_uJ_n, Q_uQ, Q_uQ_n, E_uO, E_uO_n, I_uO, I_uO_n, R_uO, R_uO_n, E_uN, E_uN_n, L_uN, L_uN_n, A_uN, A_uN_n, J_uN, J_uN_n, Q_uN, Q_uN_n, A_uCA, A_uCA_n, J_uCJ, J_uCJ_n, E_uI, R_uI, L_uI, A_uI, J_uI, Q_uI, E_uR, I_uR, L_uR, A_uR, J_uR, Q_uR, E_uA, I_uA, R_uA, L_uA, J_uA, Q_uA, E_uJ, I_uJ, R_uJ, L_uJ, A_uJ, Q_uJ, E_uQ, I_uQ, R_uQ, L_uQ, A_uQ, J_uQ, L_uO, A_uO, J_uO, Q_uO, I_uN, R_uN, E_uCA, I_uCA, R_uCA, L_uCA, J_uCA, Q_uCA, E_uCJ, I_uCJ, R_uCJ, L_uCJ, A_uCJ, Q_uCJ, m1_s, m1_s]) (by simp (disch := omega) only [mN, cN, cC, I_uI, I_uI_n, R_uR, R_uR_n, A_uA, A_uA_n, J_uJ, J_uJ_n, Q_uQ, Q_uQ_n, E_uO, E_uO_n, I_uO, I_uO_n, R_uO, R_uO_n, E_uN, E_uN_n, L_uN, L_uN_n, A_uN, A_uN_n, J_uN, J_uN_n, Q_uN, Q_uN_n, A_uCA, A_uCA_n, J_uCJ, J_uCJ_n, E_uI, R_uI, L_uI, A_uI, J_uI, Q_uI, E_uR, I_uR, L_uR, A_uR, J_uR, Q_uR, E_uA, I_uA, R_uA, L_uA, J_uA, Q_uA, E_uJ, I_uJ, R_uJ, L_uJ, A_uJ, Q_uJ, E_uQ, I_uQ, R_uQ, L_uQ, A_uQ, J_uQ, L_uO, A_uO, J_uO, Q_uO, I_uN, R_uN, E_uCA, I_uCA, R_uCA, L_uCA, J_uCA, Q_uCA, E_uCJ, I_uCJ, R_uCJ, L_uCJ, A_uCJ, Q_uCJ, m1_s]; exact pu_m) (by simp (disch := omega) only [mN, cN, cC, I_uI, I_uI_n, R_uR, R_uR_n, A_uA, A_uA_n, J_uJ, J_uJ_n, Q_uQ, Q_uQ_n, E_uO, E_uO_n, I_uO, I_uO_n, R_uO, R_uO_n, E_uN, E_uN_n, L_uN, L_uN_n, A_uN, A_uN_n, J_uN, J_uN_n, Q_uN, Q_uN_n, A_uCA, A_uCA_n, J_uCJ, J_uCJ_n, E_uI, R_uI, L_uI, A_uI, J_uI, Q_uI, E_uR, I_uR, L_uR, A_uR, J_uR, Q_uR, E_uA, I_uA, R_uA, L_uA, J_uA, Q_uA, E_uJ, I_uJ, R_uJ, L_uJ, A_uJ, Q_uJ, E_uQ, I_uQ, R_uQ, L_uQ, A_uQ, J_uQ, L_uO, A_uO, J_uO, Q_uO, I_uN, R_uN, E_uCA, I_uCA, R_uCA, L_uCA, J_uCA, Q_uCA, E_uCJ, I_uCJ, R_uCJ, L_uCJ, A_uCJ, Q_uCJ, m1_s]; exact pu_m) (by simp (disch := omega) only [mN, cN, cC, I_uI, I_uI_n, R_uR, R_uR_n, A_uA, A_uA_n, J_uJ, J_uJ_n, Q_uQ, Q_uQ_n, E_uO, E_uO_n, I_uO, I_uO_n, R_uO, R_uO_n, E_uN, E_uN_n, L_uN, L_uN_n, A_uN, A_uN_n, J_uN, J_uN_n, Q_uN, Q_uN_n, A_uCA, A_uCA_n, J_uCJ, J_uCJ_n, E_uI, R_uI, L_uI, A_uI, J_uI, Q_uI, E_uR, I_uR, L_uR, A_uR, J_uR, Q_uR, E_uA, I_uA, R_uA, L_uA, J_uA, Q_uA, E_uJ, I_uJ, R_uJ, L_uJ, A_uJ, Q_uJ, E_uQ, I_uQ, R_uQ, L_uQ, A_uQ, J_uQ, L_uO, A_uO, J_uO, Q_uO, I_uN, R_uN, E_uCA, I_uCA, R_uCA, L_uCA, J_uCA, Q_uCA, E_uCJ, I_uCJ, R_uCJ, L_uCJ, A_uCJ, Q_uCJ, m1_s]; exact pu_mm) (by simp (disch := omega) only [mN, cN, cC, I_uI, I_uI_n, R_uR, R_uR_n, A_uA, A_uA_n, J_uJ, J_uJ_n, Q_uQ, Q_uQ_n, E_uO, E_uO_n, I_uO, I_uO_n, R_uO, R_uO_n, E_uN, E_uN_n, L_uN, L_uN_n, A_uN, A_uN_n, J_uN, J_uN_n, Q_uN, Q_uN_n, A_uCA, A_uCA_n, J_uCJ, J_uCJ_n, E_uI, R_uI, L_uI, A_uI, J_uI, Q_uI, E_uR, I_uR, L_uR, A_uR, J_uR, Q_uR, E_uA, I_uA, R_uA, L_uA, J_uA, Q_uA, E_uJ, I_uJ, R_uJ, L_uJ, A_uJ, Q_uJ, E_uQ, I_uQ, R_uQ, L_uQ, A_uQ, J_uQ, L_uO, A_uO, J_uO, Q_uO, I_uN, R_uN, E_uCA, I_uCA, R_uCA, L_uCA, J_uCA, Q_uCA, E_uCJ, I_uCJ, R_uCJ, L_uCJ, A_uCJ, Q_uCJ, m1_s]; exact pu_mm) (by simp (disch := omega) only [mN, cN, cC, I_uI, I_uI_n, R_uR, R_uR_n, A_uA, A_uA_n, J_uJ, J_uJ_n, Q_uQ, Q_uQ_n, E_uO, E_uO_n, I_uO, I_uO_n, R_uO, R_uO_n, E_uN, E_uN_n, L_uN, L_uN_n, A_uN, A_uN_n, J_uN, J_uN_n, Q_uN, Q_uN_n, A_uCA, A_uCA_n, J_uCJ, J_uCJ_n, E_uI, R_uI, L_uI, A_uI, J_uI, Q_uI, E_uR, I_uR, L_uR, A_uR, J_uR, Q_uR, E_uA, I_uA, R_uA, L_uA, J_uA, Q_uA, E_uJ, I_uJ, R_uJ, L_uJ, A_uJ, Q_uJ, E_uQ, I_uQ, R_uQ, L_uQ, A_uQ, J_uQ, L_uO, A_uO, J_uO, Q_uO, I_uN, R_uN, E_uCA, I_uCA, R_uCA, L_uCA, J_uCA, Q_uCA, E_uCJ, I_uCJ, R_uCJ, L_uCJ, A_uCJ, Q_uCJ, m1_s]; exact pu_mm) (by simp (disch := omega) only [mN, cN, cC, I_uI, I_uI_n, R_uR, R_uR_n, A_uA, A_uA_n, J_uJ, J_uJ_n, Q_uQ, Q_uQ_n, E_uO, E_uO_n, I_uO, I_uO_n, R_uO, R_uO_n, E_uN, E_uN_n, L_uN, L_uN_n, A_uN, A_uN_n, J_uN, J_uN_n, Q_uN, Q_uN_n, A_uCA, A_uCA_n, J_uCJ, J_uCJ_n, E_uI, R_uI, L_uI, A_uI, J_uI, Q_uI, E_uR, I_uR, L_uR, A_uR, J_uR, Q_uR, E_uA, I_uA, R_uA, L_uA, J_uA, Q_uA, E_uJ, I_uJ, R_uJ, L_uJ, A_uJ, Q_uJ, E_uQ, I_uQ, R_uQ, L_uQ, A_uQ, J_uQ, L_uO, A_uO, J_uO, Q_uO, I_uN, R_uN, E_uCA, I_uCA, R_uCA, L_uCA, J_uCA, Q_uCA, E_uCJ, I_uCJ, R_uCJ, L_uCJ, A_uCJ, Q_uCJ, m1_s]; exact pu_mm) (by simp (disch := omega) only [mN, cN, cC, I_uI, I_uI_n, R_uR, R_uR_n, A_uA, A_uA_n, J_uJ, J_uJ_n, Q_uQ, Q_uQ_n, E_uO, E_uO_n, I_uO, I_uO_n, R_uO, R_uO_n, E_uN, E_uN_n, L_uN, L_uN_n, A_uN, A_uN_n, J_uN, J_uN_n, Q_uN, Q_uN_n, A_uCA, A_uCA_n, J_uCJ, J_uCJ_n, E_uI, R_uI, L_uI, A_uI, J_uI, Q_uI, E_uR, I_uR, L_uR, A_uR, J_uR, Q_uR, E_uA, I_uA, R_uA, L_uA, J_uA, Q_uA, E_uJ, I_uJ, R_uJ, L_uJ, A_uJ, Q_uJ, E_uQ, I_uQ, R_uQ, L_uQ, A_uQ, J_uQ, L_uO, A_uO, J_uO, Q_uO, I_uN, R_uN, E_uCA, I_uCA, R_uCA, L_uCA, J_uCA, Q_uCA, E_uCJ, I_uCJ, R_uCJ, L_uCJ, A_uCJ, Q_uCJ, m1_s]; exact pu_m) (by simp (disch := omega) only [mN, cN, cC, I_uI, I_uI_n, R_uR, R_uR_n, A_uA, A_uA_n, J_uJ, J_uJ_n, Q_uQ, Q_uQ_n, E_uO, E_uO_n, I_uO, I_uO_n, R_uO, R_uO_n, E_uN, E_uN_n, L_uN, L_uN_n, A_uN, A_uN_n, J_uN, J_uN_n, Q_uN, Q_uN_n, A_uCA, A_uCA_n, J_uCJ, J_uCJ_n, E_uI, R_uI, L_uI, A_uI, J_uI, Q_uI, E_uR, I_uR, L_uR, A_uR, J_uR, Q_uR, E_uA, I_uA, R_uA, L_uA, J_uA, Q_uA, E_uJ, I_uJ, R_uJ, L_uJ, A_uJ, Q_uJ, E_uQ, I_uQ, R_uQ, L_uQ, A_uQ, J_uQ, L_uO, A_uO, J_uO, Q_uO, I_uN, R_uN, E_uCA, I_uCA, R_uCA, L_uCA, J_uCA, Q_uCA, E_uCJ, I_uCJ, R_uCJ, L_uCJ, A_uCJ, Q_uCJ, m1_s]; exact pu_m) (by simp (disch := omega) only [mN, cN, cC, I_uI, I_uI_n, R_uR, R_uR_n, A_uA, A_uA_n, J_uJ, J_uJ_n, Q_uQ, Q_uQ_n, E_uO, E_uO_n, I_uO, I_uO_n, R_uO, R_uO_n, E_uN, E_uN_n, L_uN, L_uN_n, A_uN, A_uN_n, J_uN, J_uN_n, Q_uN, Q_uN_n, A_uCA, A_uCA_n, J_uCJ, J_uCJ_n, E_uI, R_uI, L_uI, A_uI, J_uI, Q_uI, E_uR, I_uR, L_uR, A_uR, J_uR, Q_uR, E_uA, I_uA, R_uA, L_uA, J_uA, Q_uA, E_uJ, I_uJ, R_uJ, L_uJ, A_uJ, Q_uJ, E_uQ, I_uQ, R_uQ, L_uQ, A_uQ, J_uQ, L_uO, A_uO, J_uO, Q_uO, I_uN, R_uN, E_uCA, I_uCA, R_uCA, L_uCA, J_uCA, Q_uCA, E_uCJ, I_uCJ, R_uCJ, L_uCJ, A_uCJ, Q_uCJ, m1_s]; exact pu_m) (by simp (disch := omega) only [mN, cN, cC, I_uI, I_uI_n, R_uR, R_uR_n, A_uA, A_uA_n, J_uJ, J_uJ_n, Q_uQ, Q_uQ_n, E_uO, E_uO_n, I_uO, I_uO_n, R_uO, R_uO_n, E_uN, E_uN_n, L_uN, L_uN_n, A_uN, A_uN_n, J_uN, J_uN_n, Q_uN, Q_uN_n, A_uCA, A_uCA_n, J_uCJ, J_uCJ_n, E_uI, R_uI, L_uI, A_uI, J_uI, Q_uI, E_uR, I_uR, L_uR, A_uR, J_uR, Q_uR, E_uA, I_uA, R_uA, L_uA, J_uA, Q_uA, E_uJ, I_uJ, R_uJ, L_uJ, A_uJ, Q_uJ, E_uQ, I_uQ, R_uQ, L_uQ, A_uQ, J_uQ, L_uO, A_uO, J_uO, Q_uO, I_uN, R_uN, E_uCA, I_uCA, R_uCA, L_uCA, J_uCA, Q_uCA, E_uCJ, I_uCJ, R_uCJ, L_uCJ, A_uCJ, Q_uCJ, m1_s]; exact pu_m) ⟨fun i hi => ?_, fun q => ⟨?_, ?_, fun y => ?_⟩, fun i hi => ⟨?_, ?_, ?_⟩⟩ (by simp (disch := omega) only [mN, cN, cC, I_uI, I_uI_n, R_uR, R_uR_n, A_uA, A_uA_n, J_uJ, J_uJ_n, Q_uQ, Q_uQ_n, E_uO, E_uO_n, I_uO, I_uO_n, R_uO, R_uO_n, E_uN, E_uN_n, L_uN, L_uN_n, A_uN, A_uN_n, J_uN, J_uN_n, Q_uN, Q_uN_n, A_uCA, A_uCA_n, J_uCJ, J_uCJ_n, E_uI, R_uI, L_uI, A_uI, J_uI, Q_uI, E_uR, I_uR, L_uR, A_uR, J_uR, Q_uR, E_uA, I_uA, R_uA, L_uA, J_uA, Q_uA, E_uJ, I_uJ, R_uJ, L_uJ, A_uJ, Q_uJ, E_uQ, I_uQ, R_uQ, L_uQ, A_uQ, J_uQ, L_uO, A_uO, J_uO, Q_uO, I_uN, R_uN, E_uCA, I_uCA, R_uCA, L_uCA, J_uCA, Q_uCA, E_uCJ, I_uCJ, R_uCJ, L_uCJ, A_uCJ, Q_uCJ, m1_s]; exact pu_m) (by simp (disch := omega) only [mN, cN, cC, I_uI, I_uI_n, R_uR, R_uR_n, A_uA, A_uA_n, J_uJ, J_uJ_n, Q_uQ, Q_uQ_n, E_uO, E_uO_n, I_uO, I_uO_n, R_uO, R_uO_n, E_uN, E_uN_n, L_uN, L_uN_n, A_uN, A_uN_n, J_uN, J_uN_n, Q_uN, Q_uN_n, A_uCA, A_uCA_n, J_uCJ, J_uCJ_n, E_uI, R_uI, L_uI, A_uI, J_uI, Q_uI, E_uR, I_uR, L_uR, A_uR, J_uR, Q_uR, E_uA, I_uA, R_uA, L_uA, J_uA, Q_uA, E_uJ, I_uJ, R_uJ, L_uJ, A_uJ, Q_uJ, E_uQ, I_uQ, R_uQ, L_uQ, A_uQ, J_uQ, L_uO, A_uO, J_uO, Q_uO, I_uN, R_uN, E_uCA, I_uCA, R_uCA, L_uCA, J_uCA, Q_uCA, E_uCJ, I_uCJ, R_uCJ, L_uCJ, A_uCJ, Q_uCJ, m1_s]; exact pu_m) (by simp (disch := omega) only [mN, cN, cC, I_uI, I_uI_n, R_uR, R_uR_n, A_uA, A_uA_n, J_uJ, J_uJ_n, Q_uQ, Q_uQ_n, E_uO, E_uO_n, I_uO, I_uO_n, R_uO, R_uO_n, E_uN, E_uN_n, L_uN, L_uN_n, A_uN, A_uN_n, J_uN, J_uN_n, Q_uN, Q_uN_n, A_uCA, A_uCA_n, J_uCJ, J_uCJ_n, E_uI, R_uI, L_uI, A_uI, J_uI, Q_uI, E_uR, I_uR, L_uR, A_uR, J_uR, Q_uR, E_uA, I_uA, R_uA, L_uA, J_uA, Q_uA, E_uJ, I_uJ, R_uJ, L_uJ, A_uJ, Q_uJ, E_uQ, I_uQ, R_uQ, L_uQ, A_uQ, J_uQ, L_uO, A_uO, J_uO, Q_uO, I_uN, R_uN, E_uCA, I_uCA, R_uCA, L_uCA, J_uCA, Q_uCA, E_uCJ, I_uCJ, R_uCJ, L_uCJ, A_uCJ, Q_uCJ, m1_s]; exact pu_m) (by simp (disch := omega) only [mN, cN, cC, I_uI, I_uI_n, R_uR, R_uR_n, A_uA, A_uA_n, J_uJ, J_uJ_n, Q_uQ, Q_uQ_n, E_uO, E_uO_n, I_uO, I_uO_n, R_uO, R_uO_n, E_uN, E_uN_n, L_uN, L_uN_n, A_uN, A_uN_n, J_uN, J_uN_n, Q_uN, Q_uN_n, A_uCA, A_uCA_n, J_uCJ, J_uCJ_n, E_uI, R_uI, L_uI, A_uI, J_uI, Q_uI, E_uR, I_uR, L_uR, A_uR, J_uR, Q_uR, E_uA, I_uA, R_uA, L_uA, J_uA, Q_uA, E_uJ, I_uJ, R_uJ, L_uJ, A_uJ, Q_uJ, E_uQ, I_uQ, R_uQ, L_uQ, A_uQ, J_uQ, L_uO, A_uO, J_uO, Q_uO, I_uN, R_uN, E_uCA, I_uCA, R_uCA, L_uCA, J_uCA, Q_uCA, E_uCJ, I_uCJ, R_uCJ, L_uCJ, A_uCJ, Q_uCJ, m1_s]; exact pu_m) (by simp (disch := omega) only [mN, cN, cC, I_uI, I_uI_n, R_uR, R_uR_n, A_uA, A_uA_n, J_uJ, J_uJ_n, Q_uQ, Q_uQ_n, E_uO, E_uO_n, I_uO, I_uO_n, R_uO, R_uO_n, E_uN, E_uN_n, L_uN, L_uN_n, A_uN, A_uN_n, J_uN, J_uN_n, Q_uN, Q_uN_n, A_uCA, A_uCA_n, J_uCJ, J_uCJ_n, E_uI, R_uI, L_uI, A_uI, J_uI, Q_uI, E_uR, I_uR, L_uR, A_uR, J_uR, Q_uR, E_uA, I_uA, R_uA, L_uA, J_uA, Q_uA, E_uJ, I_uJ, R_uJ, L_uJ, A_uJ, Q_uJ, E_uQ, I_uQ, R_uQ, L_uQ, A_uQ, J_uQ, L_uO, A_uO, J_uO, Q_uO, I_uN, R_uN, E_uCA, I_uCA, R_uCA, L_uCA, J_uCA, Q_uCA, E_uCJ, I_uCJ, R_uCJ, L_uCJ, A_uCJ, Q_uCJ, m1_s]; exact pu_m) (by simp (disch := omega) only [mN, cN, cC, I_uI, I_uI_n, R_uR, R_uR_n, A_uA, A_uA_n, J_uJ, J_uJ_n, Q_uQ, Q_uQ_n, E_uO, E_uO_n, I_uO, I_uO_n, R_uO, R_uO_n, E_uN, E_uN_n, L_uN, L_uN_n, A_uN, A_uN_n, J_uN, J_uN_n, Q_uN, Q_uN_n, A_uCA, A_uCA_n, J_uCJ, J_uCJ_n, E_uI, R_uI, L_uI, A_uI, J_uI, Q_uI, E_uR, I_uR, L_uR, A_uR, J_uR, Q_uR, E_uA, I_uA, R_uA, L_uA, J_uA, Q_uA, E_uJ, I_uJ, R_uJ, L_uJ, A_uJ, Q_uJ, E_uQ, I_uQ, R_uQ, L_uQ, A_uQ, J_uQ, L_uO, A_uO, J_uO, Q_uO, I_uN, R_uN, E_uCA, I_uCA, R_uCA, L_uCA, J_uCA, Q_uCA, E_uCJ, I_uCJ, R_uCJ, L_uCJ, A_uCJ, Q_uCJ, m1_s]; exact pu_m) (by simp (disch := omega) only [mN, cN, cC, I_uI, I_uI_n, R_uR, R_uR_n, A_uA, A_uA_n, J_uJ, J_uJ_n, Q_uQ, Q_uQ_n, E_uO, E_uO_n, I_uO, I_uO_n, R_uO, R_uO_n, E_uN, E_uN_n, L_uN, L_uN_n, A_uN, A_uN_n, J_uN, J_uN_n, Q_uN, Q_uN_n, A_uCA, A_uCA_n, J_uCJ, J_uCJ_n, E_uI, R_uI, L_uI, A_uI, J_uI, Q_uI, E_uR, I_uR, L_uR, A_uR, J_uR, Q_uR, E_uA, I_uA, R_uA, L_uA, J_uA, Q_uA, E_uJ, I_uJ, R_uJ, L_uJ, A_uJ, Q_uJ, E_uQ, I_uQ, R_uQ, L_uQ, A_uQ, J_uQ, L_uO, A_uO, J_uO, Q_uO, I_uN, R_uN, E_uCA, I_uCA, R_uCA, L_uCA, J_uCA, Q_uCA, E_uCJ, I_uCJ, R_uCJ, L_uCJ, A_uCJ, Q_uCJ, m1_s]; exact pu_m) ?_ ?_ (by simp (disch := omega) only [mN, cN, cC, I_uI, I_uI_n, R_uR, R_uR_n, A_uA, A_uA_n, J_uJ, J_uJ_n, Q_uQ, Q_uQ_n, E_uO, E_uO_n, I_uO, I_uO_n, R_uO, R_uO_n, E_uN, E_uN_n, L_uN, L_uN_n, A_uN, A_uN_n, J_uN, J_uN_n, Q_uN, Q_uN_n, A_uCA, A_uCA_n, J_uCJ, J_uCJ_n, E_uI, R_uI, L_uI, A_uI, J_uI, Q_uI, E_uR, I_uR, L_uR, A_uR, J_uR, Q_uR, E_uA, I_uA, R_uA, L_uA, J_uA, Q_uA, E_uJ, I_uJ, R_uJ, L_uJ, A_uJ, Q_uJ, E_uQ, I_uQ, R_uQ, L_uQ, A_uQ, J_uQ, L_uO, A_uO, J_uO, Q_uO, I_uN, R_uN, E_uCA, I_uCA, R_uCA, L_uCA, J_uCA, Q_uCA, E_uCJ, I_uCJ, R_uCJ, L_uCJ, A_uCJ, Q_uCJ, m1_s]; exact pu_m)
      · rcases hx with rfl | rfl
        · exact ⟨5, by omega, rfl⟩
        · exact ⟨7, by omega, rfl⟩
      · simp (disch := omega) only [mN, cC, I_uI, I_uI_n, R_uR, R_uR_n, A_uA, A_uA_n, J_uJ, J_uJ_n, Q_uQ, Q_uQ_n, E_uO, E_uO_n, I_uO, I_uO_n, R_uO, R_uO_n, E_uN, E_uN_n, L_uN, L_uN_n, A_uN, A_uN_n, J_uN, J_uN_n, Q_uN, Q_uN_n, A_uCA, A_uCA_n, J_uCJ, J_uCJ_n, E_uI, R_uI, L_uI, A_uI, J_uI, Q_uI, E_uR, I_uR, L_uR, A_uR, J_uR, Q_uR, E_uA, I_uA, R_uA, L_uA, J_uA, Q_uA, E_uJ, I_uJ, R_uJ, L_uJ, A_uJ, Q_uJ, E_uQ, I_uQ, R_uQ, L_uQ, A_uQ, J_uQ, L_uO, A_uO, J_uO, Q_uO, I_uN, R_uN, E_uCA, I_uCA, R_uCA, L_uCA, J_uCA, Q_uCA, E_uCJ, I_uCJ, R_uCJ, L_uCJ, A_uCJ, Q_uCJ, m1_s, m1_n]
      · simp (disch := omega) only [mN, cC, I_uI, I_uI_n, R_uR, R_uR_n, A_uA, A_uA_n, J_uJ, J_uJ_n, Q_uQ, Q_uQ_n, E_uO, E_uO_n, I_uO, I_uO_n, R_uO, R_uO_n, E_uN, E_uN_n, L_uN, L_uN_n, A_uN, A_uN_n, J_uN, J_uN_n, Q_uN, Q_uN_n, A_uCA, A_uCA_n, J_uCJ, J_uCJ_n, E_uI, R_uI, L_uI, A_uI, J_uI, Q_uI, E_uR, I_uR, L_uR, A_uR, J_uR, Q_uR, E_uA, I_uA, R_uA, L_uA, J_uA, Q_uA, E_uJ, I_uJ, R_uJ, L_uJ, A_uJ, Q_uJ, E_uQ, I_uQ, R_uQ, L_uQ, A_uQ, J_uQ, L_uO, A_uO, J_uO, Q_uO, I_uN, R_uN, E_uCA, I_uCA, R_uCA, L_uCA, J_uCA, Q_uCA, E_uCJ, I_uCJ, R_uCJ, L_uCJ, A_uCJ, Q_uCJ, m1_s, m1_s]
      · simp (disch := omega) only [mN, cC, I_uI, I_uI_n, R_uR, R_uR_n, A_uA, A_uA_n, J_uJ, J_uJ_n, Q_uQ, Q_uQ_n, E_uO, E_uO_n, I_uO, I_uO_n, R_uO, R_uO_n, E_uN, E_uN_n, L_uN, L_uN_n, A_uN, A_uN_n, J_uN, J_uN_n, Q_uN, Q_uN_n, A_uCA, A_uCA_n, J_uCJ, J_uCJ_n, E_uI, R_uI, L_uI, A_uI, J_uI, Q_uI, E_uR, I_uR, L_uR, A_uR, J_uR, Q_uR, E_uA, I_uA, R_uA, L_uA, J_uA, Q_uA, E_uJ, I_uJ, R_uJ, L_uJ, A_uJ, Q_uJ, E_uQ, I_uQ, R_uQ, L_uQ, A_uQ, J_uQ, L_uO, A_uO, J_uO, Q_uO, I_uN, R_uN, E_uCA, I_uCA, R_uCA, L_uCA, J_uCA, Q_uCA, E_uCJ, I_uCJ, R_uCJ, L_uCJ, A_uCJ, Q_uCJ, m1_s, m1_s]
      · simp (disch := omega) only [mN, cC, I_uI, I_uI_n, R_uR, R_uR_n, A_uA, A_uA_n, J_uJ, J_uJ_n, Q_uQ, Q_uQ_n, E_uO, E_uO_n, I_uO, I_uO_n, R_uO, R_uO_n, E_uN, E_uN_n, L_uN, L_uN_n, A_uN, A_uN_n, J_uN, J_uN_n, Q_uN, Q_uN_n, A_uCA, A_uCA_n, J_uCJ, J_uCJ_n, E_uI, R_uI, L_uI, A_uI, J_uI, Q_uI, E_uR, I_uR, L_uR, A_uR, J_uR, Q_uR, E_uA, I_uA, R_uA, L_uA, J_uA, Q_uA, E_uJ, I_uJ, R_uJ, L_uJ, A_uJ, Q_uJ, E_uQ, I_uQ, R_uQ, L_uQ, A_uQ, J_uQ, L_uO, A_uO, J_uO, Q_uO, I_uN, R_uN, E_uCA, I_uCA, R_uCA, L_uCA, J_uCA, Q_uCA, E_uCJ, I_uCJ, R_uCJ, L_uCJ, A_uCJ, Q_uCJ, m1_s, m1_s]
      · simp (disch := omega) only [mN, cC, I_uI, I_uI_n, R_uR, R_uR_n, A_uA, A_uA_n, J_uJ, J_uJ_n, Q_uQ, Q_uQ_n, E_uO, E_uO_n, I_uO, I_uO_n, R_uO, R_uO_n, E_uN, E_uN_n, L_uN, L_uN_n, A_uN, A_uN_n, J_uN, J_uN_n, Q_uN, Q_uN_n, A_uCA, A_uCA_n, J_uCJ, J_uCJ_n, E_uI, R_uI, L_uI, A_uI, J_uI, Q_uI, E_uR, I_uR, L_uR, A_uR, J_uR, Q_uR, E_uA, I_uA, R_uA, L_uA, J_uA, Q_uA, E_uJ, I_uJ, R_uJ, L_uJ, A_uJ, Q_uJ, E_uQ, I_uQ, R_uQ, L_uQ, A_uQ, J_uQ, L_uO, A_uO, J_uO, Q_uO, I_uN, R_uN, E_uCA, I_uCA, R_uCA, L_uCA, J_uCA, Q_uCA, E_uCJ, I_uCJ, R_uCJ, L_uCJ, A_uCJ, Q_uCJ, m1_s, m1_n]
      · simp (disch := omega) only [mN, cC, I_uI, I_uI_n, R_uR, R_uR_n, A_uA, A_uA_n, J_uJ, J_uJ_n, Q_uQ, Q_uQ_n, E_uO, E_uO_n, I_uO, I_uO_n, R_uO, R_uO_n, E_uN, E_uN_n, L_uN, L_uN_n, A_uN, A_uN_n, J_uN, J_uN_n, Q_uN, Q_uN_n, A_uCA, A_uCA_n, J_uCJ, J_uCJ_n, E_uI, R_uI, L_uI, A_uI, J_uI, Q_uI, E_uR, I_uR, L_uR, A_uR, J_uR, Q_uR, E_uA, I_uA, R_uA, L_uA, J_uA, Q_uA, E_uJ, I_uJ, R_uJ, L_uJ, A_uJ, Q_uJ, E_uQ, I_uQ, R_uQ, L_uQ, A_uQ, J_uQ, L_uO, A_uO, J_uO, Q_uO, I_uN, R_uN, E_uCA, I_uCA, R_uCA, L_uCA, J_uCA, Q_uCA, E_uCJ, I_uCJ, R_uCJ, L_uCJ, A_uCJ, Q_uCJ, m1_s, m1_n]
      · simp (disch := omega) only [mN, cC, I_uI, I_uI_n, R_uR, R_uR_n, A_uA, A_uA_n, J_uJ, J_uJ_n, Q_uQ, Q_uQ_n, E_uO, E_uO_n, I_uO, I_uO_n, R_uO, R_uO_n, E_uN, E_uN_n, L_uN, L_uN_n, A_uN, A_uN_n, J_uN, J_uN_n, Q_uN, Q_uN_n, A_uCA, A_uCA_n, J_uCJ, J_uCJ_n, E_uI, R_uI, L_uI, A_uI, J_uI, Q_uI, E_uR, I_uR, L_uR, A_uR, J_uR, Q_uR, E_uA, I_uA, R_uA, L_uA, J_uA, Q_uA, E_uJ, I_uJ, R_uJ, L_uJ, A_uJ, Q_uJ, E_uQ, I_uQ, R_uQ, L_uQ, A_uQ, J_uQ, L_uO, A_uO, J_uO, Q_uO, I_uN, R_uN, E_uCA, I_uCA, R_uCA, L_uCA, J_uCA, Q_uCA, E_uCJ, I_uCJ, R_uCJ, L_uCJ, A_uCJ, Q_uCJ, m1_s, m1_n]
      · simp (disch := omega) only [mN, cC, I_uI, I_uI_n, R_uR, R_uR_n, A_uA, A_uA_n, J_uJ, J_uJ_n, Q_uQ, Q_uQ_n, E_uO, E_uO_n, I_uO, I_uO_n, R_uO, R_uO_n, E_uN, E_uN_n, L_uN, L_uN_n, A_uN, A_uN_n, J_uN, J_uN_n, Q_uN, Q_uN_n, A_uCA, A_uCA_n, J_uCJ, J_uCJ_n, E_uI, R_uI, L_uI, A_uI, J_uI, Q_uI, E_uR, I_uR, L_uR, A_uR, J_uR, Q_uR, E_uA, I_uA, R_uA, L_uA, J_uA, Q_uA, E_uJ, I_uJ, R_uJ, L_uJ, A_uJ, Q_uJ, E_uQ, I_uQ, R_uQ, L_uQ, A_uQ, J_uQ, L_uO, A_uO, J_uO, Q_uO, I_uN, R_uN, E_uCA, I_uCA, R_uCA, L_uCA, J_uCA, Q_uCA, E_uCJ, I_uCJ, R_uCJ, L_uCJ, A_uCJ, Q_uCJ, m1_s]; exact pu_r hfr.2.2.1
      · simp (disch := omega) only [mN, cC, I_uI, I_uI_n, R_uR, R_uR_n, A_uA, A_uA_n, J_uJ, J_uJ_n, Q_uQ, Q_uQ_n, E_uO, E_uO_n, I_uO, I_uO_n, R_uO, R_uO_n, E_uN, E_uN_n, L_uN, L_uN_n, A_uN, A_uN_n, J_uN, J_uN_n, Q_uN, Q_uN_n, A_uCA, A_uCA_n, J_uCJ, J_uCJ_n, E_uI, R_uI, L_uI, A_uI, J_uI, Q_uI, E_uR, I_uR, L_uR, A_uR, J_uR, Q_uR, E_uA, I_uA, R_uA, L_uA, J_uA, Q_uA, E_uJ, I_uJ, R_uJ, L_uJ, A_uJ, Q_uJ, E_uQ, I_uQ, R_uQ, L_uQ, A_uQ, J_uQ, L_uO, A_uO, J_uO, Q_uO, I_uN, R_uN, E_uCA, I_uCA, R_uCA, L_uCA, J_uCA, Q_uCA, E_uCJ, I_uCJ, R_uCJ, L_uCJ, A_uCJ, Q_uCJ, m1_s]; exact pu_r hfr.2.2.2
    · refine Icb_new (v := x3) hb hA.2.1 hf h3.1 h3.2 ?_
      simp (disch := omega) only [mN, cC, I_uI, I_uI_n, R_uR, R_uR_n, A_uA, A_uA_n, J_uJ, J_uJ_n, Q_uQ, Q_uQ_n, E_uO, E_uO_n, I_uO, I_uO_n, R_uO, R_uO_n, E_uN, E_uN_n, L_uN, L_uN_n, A_uN, A_uN_n, J_uN, J_uN_n, Q_uN, Q_uN_n, A_uCA, A_uCA_n, J_uCJ, J_uCJ_n, E_uI, R_uI, L_uI, A_uI, J_uI, Q_uI, E_uR, I_uR, L_uR, A_uR, J_uR, Q_uR, E_uA, I_uA, R_uA, L_uA, J_uA, Q_uA, E_uJ, I_uJ, R_uJ, L_uJ, A_uJ, Q_uJ, E_uQ, I_uQ, R_uQ, L_uQ, A_uQ, J_uQ, L_uO, A_uO, J_uO, Q_uO, I_uN, R_uN, E_uCA, I_uCA, R_uCA, L_uCA, J_uCA, Q_uCA, E_uCJ, I_uCJ, R_uCJ, L_uCJ, A_uCJ, Q_uCJ, m1_s]
    · simp (disch := omega) only [mN, cC, I_uI, I_uI_n, R_uR, R_uR_n, A_uA, A_uA_n, J_uJ, J_uJ_n, Q_uQ, Q_uQ_n, E_uO, E_uO_n, I_uO, I_uO_n, R_uO, R_uO_n, E_uN, E_uN_n, L_uN, L_uN_n, A_uN, A_uN_n, J_uN, J_uN_n, Q_uN, Q_uN_n, A_uCA, A_uCA_n, J_uCJ, J_uCJ_n, E_uI, R_uI, L_uI, A_uI, J_uI, Q_uI, E_uR, I_uR, L_uR, A_uR, J_uR, Q_uR, E_uA, I_uA, R_uA, L_uA, J_uA, Q_uA, E_uJ, I_uJ, R_uJ, L_uJ, A_uJ, Q_uJ, E_uQ, I_uQ, R_uQ, L_uQ, A_uQ, J_uQ, L_uO, A_uO, J_uO, Q_uO, I_uN, R_uN, E_uCA, I_uCA, R_uCA, L_uCA, J_uCA, Q_uCA, E_uCJ, I_uCJ, R_uCJ, L_uCJ, A_uCJ, Q_uCJ, m1_s, m1_n]
    · simp (disch := omega) only [mN, cC, I_uI, I_uI_n, R_uR, R_uR_n, A_uA, A_uA_n, J_uJ, J_uJ_n, Q_uQ, Q_uQ_n, E_uO, E_uO_n, I_uO, I_uO_n, R_uO, R_uO_n, E_uN, E_uN_n, L_uN, L_uN_n, A_uN, A_uN_n, J_uN, J_uN_n, Q_uN, Q_uN_n, A_uCA, A_uCA_n, J_uCJ, J_uCJ_n, E_uI, R_uI, L_uI, A_uI, J_uI, Q_uI, E_uR, I_uR, L_uR, A_uR, J_uR, Q_uR, E_uA, I_uA, R_uA, L_uA, J_uA, Q_uA, E_uJ, I_uJ, R_uJ, L_uJ, A_uJ, Q_uJ, E_uQ, I_uQ, R_uQ, L_uQ, A_uQ, J_uQ, L_uO, A_uO, J_uO, Q_uO, I_uN, R_uN, E_uCA, I_uCA, R_uCA, L_uCA, J_uCA, Q_uCA, E_uCJ, I_uCJ, R_uCJ, L_uCJ, A_uCJ, Q_uCJ, m1_s]
theorem m_player2 (x1 x2 x3 x4 : Int32) (hL : Ilen t) (hA : Iall nB nS nM t) (hb : Icb nB nM t) : Eqm (F_X12_player t x1 x2 x3 x4) (fun t => F_X13_player t x1 x2 x3 x4) (fun t2 => ∃ nB', Iall nB' nS nM t2 ∧ nB ≤ nB' ∧ frm kNew t t2 ∧ Icb nB' nM t2 ∧ (∀ i, i < nB → tA t2 3308 0 i = tA t 3308 0 i) ∧ tI t2 1 = tI t 1) := by
  have hB := hA.1
  have h150 := hB.1
  have hbad : ∀ r, F_X12_player t x1 x2 x3 x4 = some (r, t) → F_X13_player t x1 x2 x3 x4 = some (r, t) → Eqm (F_X12_player t x1 x2 x3 x4) (fun t => F_X13_player t x1 x2 x3 x4) (fun t2 => ∃ nB', Iall nB' nS nM t2 ∧ nB ≤ nB' ∧ frm kNew t t2 ∧ Icb nB' nM t2 ∧ (∀ i, i < nB → tA t2 3308 0 i = tA t 3308 0 i) ∧ tI t2 1 = tI t 1) := fun r h1 h2 => ⟨r, t, t, h1, h2, nB, hA, Nat.le_refl _, frm_rf, hb, fun _ _ => rfl, rfl⟩
  -- the agent: what the class sees of it, and whether it fits
  obtain ⟨ag, fit, hc12, hm13, hag⟩ : ∃ (ag : Option Nat) (fit : Bool), F_X12_player t x1 x2 x3 x4 = B_X12_player_34 t x1 x2 x3 ag (b1 fit) ∧ (∀ t1, frm kNew t t1 → Ilen t1 → tI t1 1307 0 = nt nB → tA t1 3308 = tA t 3308 → F_X13_player t1 x1 x2 x3 x4 = (if 2 ≤ x1 ∧ x1 ≤ 4 then (if -9000 ≤ x2 ∧ x2 ≤ 0 then (if 0 ≤ x3 ∧ x3 ≤ 99999 then (if fit = true then B_X13_player_60 t1 x1 x2 x3 x4 else some (-1, t1)) else some (-1, t1)) else some (-1, t1)) else some (-1, t1))) ∧ (fit = true → (ag = none ∧ x4 = -1) ∨ ∃ j, j < nB ∧ ag = some j ∧ x4 = nt j) := by
    have hm : ∀ (t1 : TS) (fit : Bool), (F_X13_player t1 x1 x2 x3 x4 = Option.bind (F_X13_in t1 x1 2 4) (fun r21 => if r21 = 0 then some (-1, t1) else Option.bind (F_X13_in t1 x2 (-9000) 0) (fun r22 => if r22 = 0 then some (-1, t1) else Option.bind (F_X13_in t1 x3 0 99999) (fun r23 => if r23 = 0 then some (-1, t1) else (if fit = true then B_X13_player_60 t1 x1 x2 x3 x4 else some (-1, t1)))))) → F_X13_player t1 x1 x2 x3 x4 = (if 2 ≤ x1 ∧ x1 ≤ 4 then (if -9000 ≤ x2 ∧ x2 ≤ 0 then (if 0 ≤ x3 ∧ x3 ≤ 99999 then (if fit = true then B_X13_player_60 t1 x1 x2 x3 x4 else some (-1, t1)) else some (-1, t1)) else some (-1, t1)) else some (-1, t1)) := by
      intro t1 fit h
      rw [h]
      simp only [in_eq, nxt_e, oc_s, oc_n, ob_s, ob2_s, gb_b1, gb_0, gb_1, gw0, gw1, decide_eq_true_eq]
    by_cases h4 : x4 = -1
    · refine ⟨none, true, ?_, fun t1 hf1 hL1 h13 hk => hm t1 true ?_, fun _ => Or.inl ⟨rfl, h4⟩⟩
      · have hix : ix nB x4 = none := by rw [h4]; unfold ix; exact if_neg (fun q => absurd q.1 (by decide))
        unfold F_X12_player
        rw [bodyAt_eq hL hB, ob_s, if_pos h4, hix]
        rfl
      · unfold F_X13_player
        simp only [h4, if_true]
    · cases hix : ix nB x4 with
      | none =>
        refine ⟨none, false, ?_, fun t1 hf1 hL1 h13 hk => hm t1 false ?_, fun q => by cases q⟩
        · unfold F_X12_player
          rw [bodyAt_eq hL hB, ob_s, if_neg h4, hix]
          rfl
        · unfold F_X13_player F_X13_isBody
          simp only [h4, if_false, h13, in_eq, nxt_e, oc_s, oc_n, ob_s, ob2_s, gb_b1, gb_0, gb_1, gw0, gw1, dix (show nB < 2147483648 by omega), hix, isS_n, Bool.false_eq_true, Bool.true_eq_false, if_true, if_false, not_true_eq_false, not_false_eq_true]
      | some j =>
        obtain ⟨hj, rfl⟩ := ix_some hix
        have e4 := (hB.2.2.2.1 j hj).2.2.2.1
        by_cases h6 : tA t 3308 0 j = 6
        · refine ⟨some j, true, ?_, fun t1 hf1 hL1 h13 hk => hm t1 true ?_, fun _ => Or.inr ⟨j, hj, rfl, rfl⟩⟩
          · unfold F_X12_player
            rw [bodyAt_eq hL hB, ob_s, if_neg h4, hix, oc_s, e4, if_neg (fun q => q h6)]
            rfl
          · unfold F_X13_player F_X13_isBody
            simp (disch := omega) only [h4, if_false, h13, in_eq, nxt_e, oc_s, oc_n, ob_s, ob2_s, gb_b1, gb_0, gb_1, gw0, gw1, dix (show nB < 2147483648 by omega), hix, isS_s, Bool.false_eq_true, Bool.true_eq_false, if_true, if_false, not_true_eq_false, not_false_eq_true, (show tL _ 3308 0 = 150 from hL1 3308 rfl), gd_nt, nt_cl, hk, h6]
        · refine ⟨some j, false, ?_, fun t1 hf1 hL1 h13 hk => hm t1 false ?_, fun q => by cases q⟩
          · unfold F_X12_player
            rw [bodyAt_eq hL hB, ob_s, if_neg h4, hix, oc_s, e4, if_pos h6]
            rfl
          · unfold F_X13_player F_X13_isBody
            simp (disch := omega) only [h4, if_false, h13, in_eq, nxt_e, oc_s, oc_n, ob_s, ob2_s, gb_b1, gb_0, gb_1, gw0, gw1, dix (show nB < 2147483648 by omega), hix, isS_s, Bool.false_eq_true, Bool.true_eq_false, if_true, if_false, not_true_eq_false, not_false_eq_true, (show tL _ 3308 0 = 150 from hL1 3308 rfl), gd_nt, nt_cl, hk, h6]
  have hm0 := hm13 t frm_rf hL hB.2.2.1 rfl
  rw [hc12] at hbad ⊢
  by_cases h1 : 2 ≤ x1 ∧ x1 ≤ 4
  case neg => exact hbad (-1) (by unfold B_X12_player_34; simp only [win_eq, decide_eq_false h1, nxt_e, oc_s, oc_n, ob_s, ob2_s, gb_b1, gb_0, gb_1, gw0, gw1, Bool.false_eq_true, Bool.true_eq_false, if_true, if_false, not_true_eq_false, not_false_eq_true]) (by rw [hm0, if_neg h1])
  by_cases h2 : -9000 ≤ x2 ∧ x2 ≤ 0
  case neg => exact hbad (-1) (by unfold B_X12_player_34; simp only [win_eq, decide_eq_true h1, decide_eq_false h2, nxt_e, oc_s, oc_n, ob_s, ob2_s, gb_b1, gb_0, gb_1, gw0, gw1, Bool.false_eq_true, Bool.true_eq_false, if_true, if_false, not_true_eq_false, not_false_eq_true]) (by rw [hm0, if_pos h1, if_neg h2])
  by_cases h3 : 0 ≤ x3 ∧ x3 ≤ 99999
  case neg => exact hbad (-1) (by unfold B_X12_player_34; simp only [win_eq, decide_eq_true h1, decide_eq_true h2, decide_eq_false h3, nxt_e, oc_s, oc_n, ob_s, ob2_s, gb_b1, gb_0, gb_1, gw0, gw1, Bool.false_eq_true, Bool.true_eq_false, if_true, if_false, not_true_eq_false, not_false_eq_true]) (by rw [hm0, if_pos h1, if_pos h2, if_neg h3])
  cases fit with
  | false => exact hbad (-1) (by unfold B_X12_player_34; simp only [win_eq, decide_eq_true h1, decide_eq_true h2, decide_eq_true h3, nxt_e, oc_s, oc_n, ob_s, ob2_s, gb_b1, gb_0, gb_1, gw0, gw1, Bool.false_eq_true, Bool.true_eq_false, if_true, if_false, not_true_eq_false, not_false_eq_true]) (by rw [hm0, if_pos h1, if_pos h2, if_pos h3, if_neg (by decide)])
  | true =>
  by_cases hn : nB = 150
  · have hn9 : nt nB = 150 := by rw [n150 h150]; exact hn
    exact hbad (-3) (by unfold B_X12_player_34; simp only [win_eq, decide_eq_true h1, decide_eq_true h2, decide_eq_true h3, nxt_e, oc_s, oc_n, ob_s, ob2_s, gb_b1, gb_0, gb_1, gw0, gw1, Bool.false_eq_true, Bool.true_eq_false, if_true, if_false, not_true_eq_false, not_false_eq_true, addBody_full hB hn]) (by rw [hm0, if_pos h1, if_pos h2, if_pos h3, if_pos rfl]; unfold B_X13_player_60; rw [hB.2.2.1, if_neg (fun q => q hn9)])
  · have hlt : nB < 150 := by omega
    obtain ⟨kk, hkk, rfl⟩ := nt_exb (b := 4) (Int32.le_trans (by decide) h1.1) (by omega) h1.2
    have hk2 : 2 ≤ kk := (nt_le (a := 2) (by omega) (by omega)).mp h1.1
    have h5 : ¬ nt kk = 5 := fun q => by have := (nt_inj (b := 5) (by omega) (by omega)).mp q; omega
    have h7 : ¬ nt kk = 7 := fun q => by have := (nt_inj (b := 7) (by omega) (by omega)).mp q; omega
    have hncl : ¬ isCl (nt kk) = true := by unfold isCl; simp [h5, h7]
    have hfa : frm kNew t (uR (uI (uI (cN t nB (nt kk)) 105 nB x2) 106 nB x3) 107 nB ag) := frm_tr (frm_uO k2_l) (frm_tr (frm_uI rfl) (frm_tr (frm_uI rfl) (frm_tr (frm_uR rfl) (frm_tr (frm_uQ rfl) (frm_tr (frm_uI rfl) (frm_tr (frm_uI rfl) (frm_tr (frm_uI rfl) (frm_uR rfl))))))))
    have hL1 := Ilen_f hfa hL
    have h13 : tI (uR (uI (uI (cN t nB (nt kk)) 105 nB x2) 106 nB x3) 107 nB ag) 1307 0 = nt nB := by
      simp (disch := omega) only [cN, I_uI, I_uI_n, R_uR, R_uR_n, A_uA, A_uA_n, J_uJ, J_uJ_n, Q_uQ, Q_uQ_n, E_uO, E_uO_n, I_uO, I_uO_n, R_uO, R_uO_n, E_uN, E_uN_n, L_uN, L_uN_n, A_uN, A_uN_n, J_uN, J_uN_n, Q_uN, Q_uN_n, A_uCA, A_uCA_n, J_uCJ, J_uCJ_n, E_uI, R_uI, L_uI, A_uI, J_uI, Q_uI, E_uR, I_uR, L_uR, A_uR, J_uR, Q_uR, E_uA, I_uA, R_uA, L_uA, J_uA, Q_uA, E_uJ, I_uJ, R_uJ, L_uJ, A_uJ, Q_uJ, E_uQ, I_uQ, R_uQ, L_uQ, A_uQ, J_uQ, L_uO, A_uO, J_uO, Q_uO, I_uN, R_uN, E_uCA, I_uCA, R_uCA, L_uCA, J_uCA, Q_uCA, E_uCJ, I_uCJ, R_uCJ, L_uCJ, A_uCJ, Q_uCJ, m1_s]
      exact hB.2.2.1
    have h08 : tA (uR (uI (uI (cN t nB (nt kk)) 105 nB x2) 106 nB x3) 107 nB ag) 3308 = tA t 3308 := by
      simp (disch := omega) only [cN, I_uI, I_uI_n, R_uR, R_uR_n, A_uA, A_uA_n, J_uJ, J_uJ_n, Q_uQ, Q_uQ_n, E_uO, E_uO_n, I_uO, I_uO_n, R_uO, R_uO_n, E_uN, E_uN_n, L_uN, L_uN_n, A_uN, A_uN_n, J_uN, J_uN_n, Q_uN, Q_uN_n, A_uCA, A_uCA_n, J_uCJ, J_uCJ_n, E_uI, R_uI, L_uI, A_uI, J_uI, Q_uI, E_uR, I_uR, L_uR, A_uR, J_uR, Q_uR, E_uA, I_uA, R_uA, L_uA, J_uA, Q_uA, E_uJ, I_uJ, R_uJ, L_uJ, A_uJ, Q_uJ, E_uQ, I_uQ, R_uQ, L_uQ, A_uQ, J_uQ, L_uO, A_uO, J_uO, Q_uO, I_uN, R_uN, E_uCA, I_uCA, R_uCA, L_uCA, J_uCA, Q_uCA, E_uCJ, I_uCJ, R_uCJ, L_uCJ, A_uCJ, Q_uCJ, m1_s]
    have hm1 := hm13 _ hfa hL1 h13 h08
    generalize ht1 : uR (uI (uI (cN t nB (nt kk)) 105 nB x2) 106 nB x3) 107 nB ag = t1 at hfa hL1 h13 h08 hm1
    have hL2 : Ilen (mN t1 nB (nt kk)) := Ilen_f (frm_tr (frm_uA rfl) (frm_tr (frm_uA rfl) (frm_uI rfl)) : frm kNew _ _) hL1
    have hf2 : frm kNew t1 (uA (uA (uA (mN t1 nB (nt kk)) 3312 0 nB x2) 3313 0 nB x3) 3314 0 nB x4) := frm_tr (frm_uA rfl) (frm_tr (frm_uA rfl) (frm_tr (frm_uI rfl) (frm_tr (frm_uA rfl) (frm_tr (frm_uA rfl) (frm_uA rfl)))))
    have hf := frm_tr hfa hf2
    refine ⟨nt nB, t1, uA (uA (uA (mN t1 nB (nt kk)) 3312 0 nB x2) 3313 0 nB x3) 3314 0 nB x4, ?_, ?_, nB + 1, ?_, by omega, hf, ?_, fun i hi => ?_, ?_⟩
    · unfold B_X12_player_34
      simp only [win_eq, decide_eq_true h1, decide_eq_true h2, decide_eq_true h3, nxt_e, oc_s, oc_n, ob_s, ob2_s, gb_b1, gb_0, gb_1, gw0, gw1, Bool.false_eq_true, Bool.true_eq_false, if_true, if_false, not_true_eq_false, not_false_eq_true, addBody_N hL hB hlt h5 h7]
      rw [ht1]
      congr 2
      rw [← ht1]
      simp (disch := omega) only [cN, I_uI, I_uI_n, R_uR, R_uR_n, A_uA, A_uA_n, J_uJ, J_uJ_n, Q_uQ, Q_uQ_n, E_uO, E_uO_n, I_uO, I_uO_n, R_uO, R_uO_n, E_uN, E_uN_n, L_uN, L_uN_n, A_uN, A_uN_n, J_uN, J_uN_n, Q_uN, Q_uN_n, A_uCA, A_uCA_n, J_uCJ, J_uCJ_n, E_uI, R_uI, L_uI, A_uI, J_uI, Q_uI, E_uR, I_uR, L_uR, A_uR, J_uR, Q_uR, E_uA, I_uA, R_uA, L_uA, J_uA, Q_uA, E_uJ, I_uJ, R_uJ, L_uJ, A_uJ, Q_uJ, E_uQ, I_uQ, R_uQ, L_uQ, A_uQ, J_uQ, L_uO, A_uO, J_uO, Q_uO, I_uN, R_uN, E_uCA, I_uCA, R_uCA, L_uCA, J_uCA, Q_uCA, E_uCJ, I_uCJ, R_uCJ, L_uCJ, A_uCJ, Q_uCJ, m1_s, m1_s]
    · have hn2 : ¬ nt nB = 150 := fun q => by rw [n150 h150] at q; exact hn q
      show F_X13_player t1 (nt kk) x2 x3 x4 = _
      rw [hm1, if_pos h1, if_pos h2, if_pos h3, if_pos rfl]
      unfold B_X13_player_60
      simp (disch := omega) only [h13, hn2, nxt_e, oc_s, oc_n, ob_s, ob2_s, gb_b1, gb_0, gb_1, gw0, gw1, Bool.false_eq_true, Bool.true_eq_false, if_true, if_false, not_true_eq_false, not_false_eq_true, add_eq hL1 hlt h13, (show tL _ 3312 0 = 150 from hL2 3312 rfl), (show tL _ 3313 0 = 150 from hL2 3313 rfl), (show tL _ 3314 0 = 150 from hL2 3314 rfl), gd_nt, nt_cl, I_uI, I_uI_n, A_uA, A_uA_n, E_uI, R_uI, L_uI, A_uI, J_uI, Q_uI, E_uA, I_uA, R_uA, L_uA, J_uA, Q_uA, m1_s]
    · have hfr := hB.2.2.2.2 nB (Nat.le_refl _)
      subst ht1
      refine Iall_new (k := nt kk) (lg := 0) (co := 0) (bo := x2) (wo := x3) (ai := x4) (ag := ag) hA hlt hf.1 ⟨kk, by omega, rfl⟩ ⟨0, by omega, rfl⟩ h2 (hag rfl) (by simp (disch := omega) only [mN, cN, cC, I_uI, I_uI_n, R_uR, R_uR_n, A_uA, A_uA_n, J_uJ, J_uJ_n, Q_uQ, Q_uQ_n, E_uO, E_uO_n, I_uO, I_uO_n, R_uO, R_uO_n, E_uN, E_uN_n, L_uN, L_uN_n, A_uN, A_uN_n, J_uN, J_uN_n, Q_uN, Q_uN_n, A_uCA, A_uCA_n, J_uCJ, J_uCJ_n, E_uI, R_uI, L_uI, A_uI, J_uI, Q_uI, E_uR, I_uR, L_uR, A_uR, J_uR, Q_uR, E_uA, I_uA, R_uA, L_uA, J_uA, Q_uA, E_uJ, I_uJ, R_uJ, L_uJ, A_uJ, Q_uJ, E_uQ, I_uQ, R_uQ, L_uQ, A_uQ, J_uQ, L_uO, A_uO, J_uO, Q_uO, I_uN, R_uN, E_uCA, I_uCA, R_uCA, L_uCA, J_uCA, Q_uCA, E_uCJ, I_uCJ, R_uCJ, L_uCJ, A_uCJ, Q_uCJ, m1_s, m1_s]) (by simp (disch := omega) only [mN, cN, cC, I_uI, I_uI_n, R_uR, R_uR_n, A_uA, A_uA_n, J_uJ, J_uJ_n, Q_uQ, Q_uQ_n, E_uO, E_uO_n, I_uO, I_uO_n, R_uO, R_uO_n, E_uN, E_uN_n, L_uN, L_uN_n, A_uN, A_uN_n, J_uN, J_uN_n, Q_uN, Q_uN_n, A_uCA, A_uCA_n, J_uCJ, J_uCJ_n, E_uI, R_uI, L_uI, A_uI, J_uI, Q_uI, E_uR, I_uR, L_uR, A_uR, J_uR, Q_uR, E_uA, I_uA, R_uA, L_uA, J_uA, Q_uA, E_uJ, I_uJ, R_uJ, L_uJ, A_uJ, Q_uJ, E_uQ, I_uQ, R_uQ, L_uQ, A_uQ, J_uQ, L_uO, A_uO, J_uO, Q_uO, I_uN, R_uN, E_uCA, I_uCA, R_uCA, L_uCA, J_uCA, Q_uCA, E_uCJ, I_uCJ, R_uCJ, L_uCJ, A_uCJ, Q_uCJ, m1_s, m1_s]) (by simp (disch := omega) only [mN, cN, cC, I_uI, I_uI_n, R_uR, R_uR_n, A_uA, A_uA_n, J_uJ, J_uJ_n, Q_uQ, Q_uQ_n, E_uO, E_uO_n, I_uO, I_uO_n, R_uO, R_uO_n, E_uN, E_uN_n, L_uN, L_uN_n, A_uN, A_uN_n, J_uN, J_uN_n, Q_uN, Q_uN_n, A_uCA, A_uCA_n, J_uCJ, J_uCJ_n, E_uI, R_uI, L_uI, A_uI, J_uI, Q_uI, E_uR, I_uR, L_uR, A_uR, J_uR, Q_uR, E_uA, I_uA, R_uA, L_uA, J_uA, Q_uA, E_uJ, I_uJ, R_uJ, L_uJ, A_uJ, Q_uJ, E_uQ, I_uQ, R_uQ, L_uQ, A_uQ, J_uQ, L_uO, A_uO, J_uO, Q_uO, I_uN, R_uN, E_uCA, I_uCA, R_uCA, L_uCA, J_uCA, Q_uCA, E_uCJ, I_uCJ, R_uCJ, L_uCJ, A_uCJ, Q_uCJ, m1_s]; exact pu_m) (by simp (disch := omega) only [mN, cN, cC, I_uI, I_uI_n, R_uR, R_uR_n, A_uA, A_uA_n, J_uJ, J_uJ_n, Q_uQ, Q_uQ_n, E_uO, E_uO_n, I_uO, I_uO_n, R_uO, R_uO_n, E_uN, E_uN_n, L_uN, L_uN_n, A_uN, A_uN_n, J_uN, J_uN_n, Q_uN, Q_uN_n, A_uCA, A_uCA_n, J_uCJ, J_uCJ_n, E_uI, R_uI, L_uI, A_uI, J_uI, Q_uI, E_uR, I_uR, L_uR, A_uR, J_uR, Q_uR, E_uA, I_uA, R_uA, L_uA, J_uA, Q_uA, E_uJ, I_uJ, R_uJ, L_uJ, A_uJ, Q_uJ, E_uQ, I_uQ, R_uQ, L_uQ, A_uQ, J_uQ, L_uO, A_uO, J_uO, Q_uO, I_uN, R_uN, E_uCA, I_uCA, R_uCA, L_uCA, J_uCA, Q_uCA, E_uCJ, I_uCJ, R_uCJ, L_uCJ, A_uCJ, Q_uCJ, m1_s]; exact pu_m) (by simp (disch := omega) only [mN, cN, cC, I_uI, I_uI_n, R_uR, R_uR_n, A_uA, A_uA_n, J_uJ, J_uJ_n, Q_uQ, Q_uQ_n, E_uO, E_uO_n, I_uO, I_uO_n, R_uO, R_uO_n, E_uN, E_uN_n, L_uN, L_uN_n, A_uN, A_uN_n, J_uN, J_uN_n, Q_uN, Q_uN_n, A_uCA, A_uCA_n, J_uCJ, J_uCJ_n, E_uI, R_uI, L_uI, A_uI, J_uI, Q_uI, E_uR, I_uR, L_uR, A_uR, J_uR, Q_uR, E_uA, I_uA, R_uA, L_uA, J_uA, Q_uA, E_uJ, I_uJ, R_uJ, L_uJ, A_uJ, Q_uJ, E_uQ, I_uQ, R_uQ, L_uQ, A_uQ, J_uQ, L_uO, A_uO, J_uO, Q_uO, I_uN, R_uN, E_uCA, I_uCA, R_uCA, L_uCA, J_uCA, Q_uCA, E_uCJ, I_uCJ, R_uCJ, L_uCJ, A_uCJ, Q_uCJ, m1_s]; exact pu_mm) (by simp (disch := omega) only [mN, cN, cC, I_uI, I_uI_n, R_uR, R_uR_n, A_uA, A_uA_n, J_uJ, J_uJ_n, Q_uQ, Q_uQ_n, E_uO, E_uO_n, I_uO, I_uO_n, R_uO, R_uO_n, E_uN, E_uN_n, L_uN, L_uN_n, A_uN, A_uN_n, J_uN, J_uN_n, Q_uN, Q_uN_n, A_uCA, A_uCA_n, J_uCJ, J_uCJ_n, E_uI, R_uI, L_uI, A_uI, J_uI, Q_uI, E_uR, I_uR, L_uR, A_uR, J_uR, Q_uR, E_uA, I_uA, R_uA, L_uA, J_uA, Q_uA, E_uJ, I_uJ, R_uJ, L_uJ, A_uJ, Q_uJ, E_uQ, I_uQ, R_uQ, L_uQ, A_uQ, J_uQ, L_uO, A_uO, J_uO, Q_uO, I_uN, R_uN, E_uCA, I_uCA, R_uCA, L_uCA, J_uCA, Q_uCA, E_uCJ, I_uCJ, R_uCJ, L_uCJ, A_uCJ, Q_uCJ, m1_s]; exact pu_mm) (by simp (disch := omega) only [mN, cN, cC, I_uI, I_uI_n, R_uR, R_uR_n, A_uA, A_uA_n, J_uJ, J_uJ_n, Q_uQ, Q_uQ_n, E_uO, E_uO_n, I_uO, I_uO_n, R_uO, R_uO_n, E_uN, E_uN_n, L_uN, L_uN_n, A_uN, A_uN_n, J_uN, J_uN_n, Q_uN, Q_uN_n, A_uCA, A_uCA_n, J_uCJ, J_uCJ_n, E_uI, R_uI, L_uI, A_uI, J_uI, Q_uI, E_uR, I_uR, L_uR, A_uR, J_uR, Q_uR, E_uA, I_uA, R_uA, L_uA, J_uA, Q_uA, E_uJ, I_uJ, R_uJ, L_uJ, A_uJ, Q_uJ, E_uQ, I_uQ, R_uQ, L_uQ, A_uQ, J_uQ, L_uO, A_uO, J_uO, Q_uO, I_uN, R_uN, E_uCA, I_uCA, R_uCA, L_uCA, J_uCA, Q_uCA, E_uCJ, I_uCJ, R_uCJ, L_uCJ, A_uCJ, Q_uCJ, m1_s]; exact pu_m) (by simp (disch := omega) only [mN, cN, cC, I_uI, I_uI_n, R_uR, R_uR_n, A_uA, A_uA_n, J_uJ, J_uJ_n, Q_uQ, Q_uQ_n, E_uO, E_uO_n, I_uO, I_uO_n, R_uO, R_uO_n, E_uN, E_uN_n, L_uN, L_uN_n, A_uN, A_uN_n, J_uN, J_uN_n, Q_uN, Q_uN_n, A_uCA, A_uCA_n, J_uCJ, J_uCJ_n, E_uI, R_uI, L_uI, A_uI, J_uI, Q_uI, E_uR, I_uR, L_uR, A_uR, J_uR, Q_uR, E_uA, I_uA, R_uA, L_uA, J_uA, Q_uA, E_uJ, I_uJ, R_uJ, L_uJ, A_uJ, Q_uJ, E_uQ, I_uQ, R_uQ, L_uQ, A_uQ, J_uQ, L_uO, A_uO, J_uO, Q_uO, I_uN, R_uN, E_uCA, I_uCA, R_uCA, L_uCA, J_uCA, Q_uCA, E_uCJ, I_uCJ, R_uCJ, L_uCJ, A_uCJ, Q_uCJ, m1_s]; exact pu_m) (by simp (disch := omega) only [mN, cN, cC, I_uI, I_uI_n, R_uR, R_uR_n, A_uA, A_uA_n, J_uJ, J_uJ_n, Q_uQ, Q_uQ_n, E_uO, E_uO_n, I_uO, I_uO_n, R_uO, R_uO_n, E_uN, E_uN_n, L_uN, L_uN_n, A_uN, A_uN_n, J_uN, J_uN_n, Q_uN, Q_uN_n, A_uCA, A_uCA_n, J_uCJ, J_uCJ_n, E_uI, R_uI, L_uI, A_uI, J_uI, Q_uI, E_uR, I_uR, L_uR, A_uR, J_uR, Q_uR, E_uA, I_uA, R_uA, L_uA, J_uA, Q_uA, E_uJ, I_uJ, R_uJ, L_uJ, A_uJ, Q_uJ, E_uQ, I_uQ, R_uQ, L_uQ, A_uQ, J_uQ, L_uO, A_uO, J_uO, Q_uO, I_uN, R_uN, E_uCA, I_uCA, R_uCA, L_uCA, J_uCA, Q_uCA, E_uCJ, I_uCJ, R_uCJ, L_uCJ, A_uCJ, Q_uCJ, m1_s]; exact pu_mm) (by simp (disch := omega) only [mN, cN, cC, I_uI, I_uI_n, R_uR, R_uR_n, A_uA, A_uA_n, J_uJ, J_uJ_n, Q_uQ, Q_uQ_n, E_uO, E_uO_n, I_uO, I_uO_n, R_uO, R_uO_n, E_uN, E_uN_n, L_uN, L_uN_n, A_uN, A_uN_n, J_uN, J_uN_n, Q_uN, Q_uN_n, A_uCA, A_uCA_n, J_uCJ, J_uCJ_n, E_uI, R_uI, L_uI, A_uI, J_uI, Q_uI, E_uR, I_uR, L_uR, A_uR, J_uR, Q_uR, E_uA, I_uA, R_uA, L_uA, J_uA, Q_uA, E_uJ, I_uJ, R_uJ, L_uJ, A_uJ, Q_uJ, E_uQ, I_uQ, R_uQ, L_uQ, A_uQ, J_uQ, L_uO, A_uO, J_uO, Q_uO, I_uN, R_uN, E_uCA, I_uCA, R_uCA, L_uCA, J_uCA, Q_uCA, E_uCJ, I_uCJ, R_uCJ, L_uCJ, A_uCJ, Q_uCJ, m1_s]; exact pu_mm) (by simp (disch := omega) only [mN, cN, cC, I_uI, I_uI_n, R_uR, R_uR_n, A_uA, A_uA_n, J_uJ, J_uJ_n, Q_uQ, Q_uQ_n, E_uO, E_uO_n, I_uO, I_uO_n, R_uO, R_uO_n, E_uN, E_uN_n, L_uN, L_uN_n, A_uN, A_uN_n, J_uN, J_uN_n, Q_uN, Q_uN_n, A_uCA, A_uCA_n, J_uCJ, J_uCJ_n, E_uI, R_uI, L_uI, A_uI, J_uI, Q_uI, E_uR, I_uR, L_uR, A_uR, J_uR, Q_uR, E_uA, I_uA, R_uA, L_uA, J_uA, Q_uA, E_uJ, I_uJ, R_uJ, L_uJ, A_uJ, Q_uJ, E_uQ, I_uQ, R_uQ, L_uQ, A_uQ, J_uQ, L_uO, A_uO, J_uO, Q_uO, I_uN, R_uN, E_uCA, I_uCA, R_uCA, L_uCA, J_uCA, Q_uCA, E_uCJ, I_uCJ, R_uCJ, L_uCJ, A_uCJ, Q_uCJ, m1_s]; exact pu_m) (by simp (disch := omega) only [mN, cN, cC, I_uI, I_uI_n, R_uR, R_uR_n, A_uA, A_uA_n, J_uJ, J_uJ_n, Q_uQ, Q_uQ_n, E_uO, E_uO_n, I_uO, I_uO_n, R_uO, R_uO_n, E_uN, E_uN_n, L_uN, L_uN_n, A_uN, A_uN_n, J_uN, J_uN_n, Q_uN, Q_uN_n, A_uCA, A_uCA_n, J_uCJ, J_uCJ_n, E_uI, R_uI, L_uI, A_uI, J_uI, Q_uI, E_uR, I_uR, L_uR, A_uR, J_uR, Q_uR, E_uA, I_uA, R_uA, L_uA, J_uA, Q_uA, E_uJ, I_uJ, R_uJ, L_uJ, A_uJ, Q_uJ, E_uQ, I_uQ, R_uQ, L_uQ, A_uQ, J_uQ, L_uO, A_uO, J_uO, Q_uO, I_uN, R_uN, E_uCA, I_uCA, R_uCA, L_uCA, J_uCA, Q_uCA, E_uCJ, I_uCJ, R_uCJ, L_uCJ, A_uCJ, Q_uCJ, m1_s]; exact pu_m) ⟨fun i hi => ?_, fun q => absurd q hncl, fun i hi => ⟨?_, ?_, ?_⟩⟩ (by simp (disch := omega) only [mN, cN, cC, I_uI, I_uI_n, R_uR, R_uR_n, A_uA, A_uA_n, J_uJ, J_uJ_n, Q_uQ, Q_uQ_n, E_uO, E_uO_n, I_uO, I_uO_n, R_uO, R_uO_n, E_uN, E_uN_n, L_uN, L_uN_n, A_uN, A_uN_n, J_uN, J_uN_n, Q_uN, Q_uN_n, A_uCA, A_uCA_n, J_uCJ, J_uCJ_n, E_uI, R_uI, L_uI, A_uI, J_uI, Q_uI, E_uR, I_uR, L_uR, A_uR, J_uR, Q_uR, E_uA, I_uA, R_uA, L_uA, J_uA, Q_uA, E_uJ, I_uJ, R_uJ, L_uJ, A_uJ, Q_uJ, E_uQ, I_uQ, R_uQ, L_uQ, A_uQ, J_uQ, L_uO, A_uO, J_uO, Q_uO, I_uN, R_uN, E_uCA, I_uCA, R_uCA, L_uCA, J_uCA, Q_uCA, E_uCJ, I_uCJ, R_uCJ, L_uCJ, A_uCJ, Q_uCJ, m1_s]; exact pu_mm) (by simp (disch := omega) only [mN, cN, cC, I_uI, I_uI_n, R_uR, R_uR_n, A_uA, A_uA_n, J_uJ, J_uJ_n, Q_uQ, Q_uQ_n, E_uO, E_uO_n, I_uO, I_uO_n, R_uO, R_uO_n, E_uN, E_uN_n, L_uN, L_uN_n, A_uN, A_uN_n, J_uN, J_uN_n, Q_uN, Q_uN_n, A_uCA, A_uCA_n, J_uCJ, J_uCJ_n, E_uI, R_uI, L_uI, A_uI, J_uI, Q_uI, E_uR, I_uR, L_uR, A_uR, J_uR, Q_uR, E_uA, I_uA, R_uA, L_uA, J_uA, Q_uA, E_uJ, I_uJ, R_uJ, L_uJ, A_uJ, Q_uJ, E_uQ, I_uQ, R_uQ, L_uQ, A_uQ, J_uQ, L_uO, A_uO, J_uO, Q_uO, I_uN, R_uN, E_uCA, I_uCA, R_uCA, L_uCA, J_uCA, Q_uCA, E_uCJ, I_uCJ, R_uCJ, L_uCJ, A_uCJ, Q_uCJ, m1_s]; exact pu_m) (by simp (disch := omega) only [mN, cN, cC, I_uI, I_uI_n, R_uR, R_uR_n, A_uA, A_uA_n, J_uJ, J_uJ_n, Q_uQ, Q_uQ_n, E_uO, E_uO_n, I_uO, I_uO_n, R_uO, R_uO_n, E_uN, E_uN_n, L_uN, L_uN_n, A_uN, A_uN_n, J_uN, J_uN_n, Q_uN, Q_uN_n, A_uCA, A_uCA_n, J_uCJ, J_uCJ_n, E_uI, R_uI, L_uI, A_uI, J_uI, Q_uI, E_uR, I_uR, L_uR, A_uR, J_uR, Q_uR, E_uA, I_uA, R_uA, L_uA, J_uA, Q_uA, E_uJ, I_uJ, R_uJ, L_uJ, A_uJ, Q_uJ, E_uQ, I_uQ, R_uQ, L_uQ, A_uQ, J_uQ, L_uO, A_uO, J_uO, Q_uO, I_uN, R_uN, E_uCA, I_uCA, R_uCA, L_uCA, J_uCA, Q_uCA, E_uCJ, I_uCJ, R_uCJ, L_uCJ, A_uCJ, Q_uCJ, m1_s]; exact pu_m) (by simp (disch := omega) only [mN, cN, cC, I_uI, I_uI_n, R_uR, R_uR_n, A_uA, A_uA_n, J_uJ, J_uJ_n, Q_uQ, Q_uQ_n, E_uO, E_uO_n, I_uO, I_uO_n, R_uO, R_uO_n, E_uN, E_uN_n, L_uN, L_uN_n, A_uN, A_uN_n, J_uN, J_uN_n, Q_uN, Q_uN_n, A_uCA, A_uCA_n, J_uCJ, J_uCJ_n, E_uI, R_uI, L_uI, A_uI, J_uI, Q_uI, E_uR, I_uR, L_uR, A_uR, J_uR, Q_uR, E_uA, I_uA, R_uA, L_uA, J_uA, Q_uA, E_uJ, I_uJ, R_uJ, L_uJ, A_uJ, Q_uJ, E_uQ, I_uQ, R_uQ, L_uQ, A_uQ, J_uQ, L_uO, A_uO, J_uO, Q_uO, I_uN, R_uN, E_uCA, I_uCA, R_uCA, L_uCA, J_uCA, Q_uCA, E_uCJ, I_uCJ, R_uCJ, L_uCJ, A_uCJ, Q_uCJ, m1_s]; exact pu_m) (by simp (disch := omega) only [mN, cN, cC, I_uI, I_uI_n, R_uR, R_uR_n, A_uA, A_uA_n, J_uJ, J_uJ_n, Q_uQ, Q_uQ_n, E_uO, E_uO_n, I_uO, I_uO_n, R_uO, R_uO_n, E_uN, E_uN_n, L_uN, L_uN_n, A_uN, A_uN_n, J_uN, J_uN_n, Q_uN, Q_uN_n, A_uCA, A_uCA_n, J_uCJ, J_uCJ_n, E_uI, R_uI, L_uI, A_uI, J_uI, Q_uI, E_uR, I_uR, L_uR, A_uR, J_uR, Q_uR, E_uA, I_uA, R_uA, L_uA, J_uA, Q_uA, E_uJ, I_uJ, R_uJ, L_uJ, A_uJ, Q_uJ, E_uQ, I_uQ, R_uQ, L_uQ, A_uQ, J_uQ, L_uO, A_uO, J_uO, Q_uO, I_uN, R_uN, E_uCA, I_uCA, R_uCA, L_uCA, J_uCA, Q_uCA, E_uCJ, I_uCJ, R_uCJ, L_uCJ, A_uCJ, Q_uCJ, m1_s]; exact pu_m) ?_ ?_ (by simp (disch := omega) only [mN, cN, cC, I_uI, I_uI_n, R_uR, R_uR_n, A_uA, A_uA_n, J_uJ, J_uJ_n, Q_uQ, Q_uQ_n, E_uO, E_uO_n, I_uO, I_uO_n, R_uO, R_uO_n, E_uN, E_uN_n, L_uN, L_uN_n, A_uN, A_uN_n, J_uN, J_uN_n, Q_uN, Q_uN_n, A_uCA, A_uCA_n, J_uCJ, J_uCJ_n, E_uI, R_uI, L_uI, A_uI, J_uI, Q_uI, E_uR, I_uR, L_uR, A_uR, J_uR, Q_uR, E_uA, I_uA, R_uA, L_uA, J_uA, Q_uA, E_uJ, I_uJ, R_uJ, L_uJ, A_uJ, Q_uJ, E_uQ, I_uQ, R_uQ, L_uQ, A_uQ, J_uQ, L_uO, A_uO, J_uO, Q_uO, I_uN, R_uN, E_uCA, I_uCA, R_uCA, L_uCA, J_uCA, Q_uCA, E_uCJ, I_uCJ, R_uCJ, L_uCJ, A_uCJ, Q_uCJ, m1_s]; exact pu_m) (by simp (disch := omega) only [mN, cN, cC, I_uI, I_uI_n, R_uR, R_uR_n, A_uA, A_uA_n, J_uJ, J_uJ_n, Q_uQ, Q_uQ_n, E_uO, E_uO_n, I_uO, I_uO_n, R_uO, R_uO_n, E_uN, E_uN_n, L_uN, L_uN_n, A_uN, A_uN_n, J_uN, J_uN_n, Q_uN, Q_uN_n, A_uCA, A_uCA_n, J_uCJ, J_uCJ_n, E_uI, R_uI, L_uI, A_uI, J_uI, Q_uI, E_uR, I_uR, L_uR, A_uR, J_uR, Q_uR, E_uA, I_uA, R_uA, L_uA, J_uA, Q_uA, E_uJ, I_uJ, R_uJ, L_uJ, A_uJ, Q_uJ, E_uQ, I_uQ, R_uQ, L_uQ, A_uQ, J_uQ, L_uO, A_uO, J_uO, Q_uO, I_uN, R_uN, E_uCA, I_uCA, R_uCA, L_uCA, J_uCA, Q_uCA, E_uCJ, I_uCJ, R_uCJ, L_uCJ, A_uCJ, Q_uCJ, m1_s]; exact pu_m) (by simp (disch := omega) only [mN, cN, cC, I_uI, I_uI_n, R_uR, R_uR_n, A_uA, A_uA_n, J_uJ, J_uJ_n, Q_uQ, Q_uQ_n, E_uO, E_uO_n, I_uO, I_uO_n, R_uO, R_uO_n, E_uN, E_uN_n, L_uN, L_uN_n, A_uN, A_uN_n, J_uN, J_uN_n, Q_uN, Q_uN_n, A_uCA, A_uCA_n, J_uCJ, J_uCJ_n, E_uI, R_uI, L_uI, A_uI, J_uI, Q_uI, E_uR, I_uR, L_uR, A_uR, J_uR, Q_uR, E_uA, I_uA, R_uA, L_uA, J_uA, Q_uA, E_uJ, I_uJ, R_uJ, L_uJ, A_uJ, Q_uJ, E_uQ, I_uQ, R_uQ, L_uQ, A_uQ, J_uQ, L_uO, A_uO, J_uO, Q_uO, I_uN, R_uN, E_uCA, I_uCA, R_uCA, L_uCA, J_uCA, Q_uCA, E_uCJ, I_uCJ, R_uCJ, L_uCJ, A_uCJ, Q_uCJ, m1_s]; exact pu_mm)
      · simp (disch := omega) only [mN, cN, I_uI, I_uI_n, R_uR, R_uR_n, A_uA, A_uA_n, J_uJ, J_uJ_n, Q_uQ, Q_uQ_n, E_uO, E_uO_n, I_uO, I_uO_n, R_uO, R_uO_n, E_uN, E_uN_n, L_uN, L_uN_n, A_uN, A_uN_n, J_uN, J_uN_n, Q_uN, Q_uN_n, A_uCA, A_uCA_n, J_uCJ, J_uCJ_n, E_uI, R_uI, L_uI, A_uI, J_uI, Q_uI, E_uR, I_uR, L_uR, A_uR, J_uR, Q_uR, E_uA, I_uA, R_uA, L_uA, J_uA, Q_uA, E_uJ, I_uJ, R_uJ, L_uJ, A_uJ, Q_uJ, E_uQ, I_uQ, R_uQ, L_uQ, A_uQ, J_uQ, L_uO, A_uO, J_uO, Q_uO, I_uN, R_uN, E_uCA, I_uCA, R_uCA, L_uCA, J_uCA, Q_uCA, E_uCJ, I_uCJ, R_uCJ, L_uCJ, A_uCJ, Q_uCJ, m1_s, m1_n]
      · simp (disch := omega) only [mN, cN, I_uI, I_uI_n, R_uR, R_uR_n, A_uA, A_uA_n, J_uJ, J_uJ_n, Q_uQ, Q_uQ_n, E_uO, E_uO_n, I_uO, I_uO_n, R_uO, R_uO_n, E_uN, E_uN_n, L_uN, L_uN_n, A_uN, A_uN_n, J_uN, J_uN_n, Q_uN, Q_uN_n, A_uCA, A_uCA_n, J_uCJ, J_uCJ_n, E_uI, R_uI, L_uI, A_uI, J_uI, Q_uI, E_uR, I_uR, L_uR, A_uR, J_uR, Q_uR, E_uA, I_uA, R_uA, L_uA, J_uA, Q_uA, E_uJ, I_uJ, R_uJ, L_uJ, A_uJ, Q_uJ, E_uQ, I_uQ, R_uQ, L_uQ, A_uQ, J_uQ, L_uO, A_uO, J_uO, Q_uO, I_uN, R_uN, E_uCA, I_uCA, R_uCA, L_uCA, J_uCA, Q_uCA, E_uCJ, I_uCJ, R_uCJ, L_uCJ, A_uCJ, Q_uCJ, m1_s]
      · simp (disch := omega) only [mN, cN, I_uI, I_uI_n, R_uR, R_uR_n, A_uA, A_uA_n, J_uJ, J_uJ_n, Q_uQ, Q_uQ_n, E_uO, E_uO_n, I_uO, I_uO_n, R_uO, R_uO_n, E_uN, E_uN_n, L_uN, L_uN_n, A_uN, A_uN_n, J_uN, J_uN_n, Q_uN, Q_uN_n, A_uCA, A_uCA_n, J_uCJ, J_uCJ_n, E_uI, R_uI, L_uI, A_uI, J_uI, Q_uI, E_uR, I_uR, L_uR, A_uR, J_uR, Q_uR, E_uA, I_uA, R_uA, L_uA, J_uA, Q_uA, E_uJ, I_uJ, R_uJ, L_uJ, A_uJ, Q_uJ, E_uQ, I_uQ, R_uQ, L_uQ, A_uQ, J_uQ, L_uO, A_uO, J_uO, Q_uO, I_uN, R_uN, E_uCA, I_uCA, R_uCA, L_uCA, J_uCA, Q_uCA, E_uCJ, I_uCJ, R_uCJ, L_uCJ, A_uCJ, Q_uCJ, m1_s]
      · simp (disch := omega) only [mN, cN, I_uI, I_uI_n, R_uR, R_uR_n, A_uA, A_uA_n, J_uJ, J_uJ_n, Q_uQ, Q_uQ_n, E_uO, E_uO_n, I_uO, I_uO_n, R_uO, R_uO_n, E_uN, E_uN_n, L_uN, L_uN_n, A_uN, A_uN_n, J_uN, J_uN_n, Q_uN, Q_uN_n, A_uCA, A_uCA_n, J_uCJ, J_uCJ_n, E_uI, R_uI, L_uI, A_uI, J_uI, Q_uI, E_uR, I_uR, L_uR, A_uR, J_uR, Q_uR, E_uA, I_uA, R_uA, L_uA, J_uA, Q_uA, E_uJ, I_uJ, R_uJ, L_uJ, A_uJ, Q_uJ, E_uQ, I_uQ, R_uQ, L_uQ, A_uQ, J_uQ, L_uO, A_uO, J_uO, Q_uO, I_uN, R_uN, E_uCA, I_uCA, R_uCA, L_uCA, J_uCA, Q_uCA, E_uCJ, I_uCJ, R_uCJ, L_uCJ, A_uCJ, Q_uCJ, m1_s]
      · simp (disch := omega) only [mN, cN, I_uI, I_uI_n, R_uR, R_uR_n, A_uA, A_uA_n, J_uJ, J_uJ_n, Q_uQ, Q_uQ_n, E_uO, E_uO_n, I_uO, I_uO_n, R_uO, R_uO_n, E_uN, E_uN_n, L_uN, L_uN_n, A_uN, A_uN_n, J_uN, J_uN_n, Q_uN, Q_uN_n, A_uCA, A_uCA_n, J_uCJ, J_uCJ_n, E_uI, R_uI, L_uI, A_uI, J_uI, Q_uI, E_uR, I_uR, L_uR, A_uR, J_uR, Q_uR, E_uA, I_uA, R_uA, L_uA, J_uA, Q_uA, E_uJ, I_uJ, R_uJ, L_uJ, A_uJ, Q_uJ, E_uQ, I_uQ, R_uQ, L_uQ, A_uQ, J_uQ, L_uO, A_uO, J_uO, Q_uO, I_uN, R_uN, E_uCA, I_uCA, R_uCA, L_uCA, J_uCA, Q_uCA, E_uCJ, I_uCJ, R_uCJ, L_uCJ, A_uCJ, Q_uCJ, m1_s]; exact pu_r hfr.2.1
      · simp (disch := omega) only [mN, cN, I_uI, I_uI_n, R_uR, R_uR_n, A_uA, A_uA_n, J_uJ, J_uJ_n, Q_uQ, Q_uQ_n, E_uO, E_uO_n, I_uO, I_uO_n, R_uO, R_uO_n, E_uN, E_uN_n, L_uN, L_uN_n, A_uN, A_uN_n, J_uN, J_uN_n, Q_uN, Q_uN_n, A_uCA, A_uCA_n, J_uCJ, J_uCJ_n, E_uI, R_uI, L_uI, A_uI, J_uI, Q_uI, E_uR, I_uR, L_uR, A_uR, J_uR, Q_uR, E_uA, I_uA, R_uA, L_uA, J_uA, Q_uA, E_uJ, I_uJ, R_uJ, L_uJ, A_uJ, Q_uJ, E_uQ, I_uQ, R_uQ, L_uQ, A_uQ, J_uQ, L_uO, A_uO, J_uO, Q_uO, I_uN, R_uN, E_uCA, I_uCA, R_uCA, L_uCA, J_uCA, Q_uCA, E_uCJ, I_uCJ, R_uCJ, L_uCJ, A_uCJ, Q_uCJ, m1_s]; exact pu_r (hA.2.1.2 nB (Nat.le_refl _))
    · refine Icb_new (v := 0) hb hA.2.1 hf (Int32.le_refl _) (by decide) ?_
      subst ht1
      simp (disch := omega) only [mN, cN, I_uI, I_uI_n, R_uR, R_uR_n, A_uA, A_uA_n, J_uJ, J_uJ_n, Q_uQ, Q_uQ_n, E_uO, E_uO_n, I_uO, I_uO_n, R_uO, R_uO_n, E_uN, E_uN_n, L_uN, L_uN_n, A_uN, A_uN_n, J_uN, J_uN_n, Q_uN, Q_uN_n, A_uCA, A_uCA_n, J_uCJ, J_uCJ_n, E_uI, R_uI, L_uI, A_uI, J_uI, Q_uI, E_uR, I_uR, L_uR, A_uR, J_uR, Q_uR, E_uA, I_uA, R_uA, L_uA, J_uA, Q_uA, E_uJ, I_uJ, R_uJ, L_uJ, A_uJ, Q_uJ, E_uQ, I_uQ, R_uQ, L_uQ, A_uQ, J_uQ, L_uO, A_uO, J_uO, Q_uO, I_uN, R_uN, E_uCA, I_uCA, R_uCA, L_uCA, J_uCA, Q_uCA, E_uCJ, I_uCJ, R_uCJ, L_uCJ, A_uCJ, Q_uCJ, m1_s]
      exact (m1_sf (hA.2.1.2 nB (Nat.le_refl _))).symm
    · subst ht1; simp (disch := omega) only [mN, cN, I_uI, I_uI_n, R_uR, R_uR_n, A_uA, A_uA_n, J_uJ, J_uJ_n, Q_uQ, Q_uQ_n, E_uO, E_uO_n, I_uO, I_uO_n, R_uO, R_uO_n, E_uN, E_uN_n, L_uN, L_uN_n, A_uN, A_uN_n, J_uN, J_uN_n, Q_uN, Q_uN_n, A_uCA, A_uCA_n, J_uCJ, J_uCJ_n, E_uI, R_uI, L_uI, A_uI, J_uI, Q_uI, E_uR, I_uR, L_uR, A_uR, J_uR, Q_uR, E_uA, I_uA, R_uA, L_uA, J_uA, Q_uA, E_uJ, I_uJ, R_uJ, L_uJ, A_uJ, Q_uJ, E_uQ, I_uQ, R_uQ, L_uQ, A_uQ, J_uQ, L_uO, A_uO, J_uO, Q_uO, I_uN, R_uN, E_uCA, I_uCA, R_uCA, L_uCA, J_uCA, Q_uCA, E_uCJ, I_uCJ, R_uCJ, L_uCJ, A_uCJ, Q_uCJ, m1_s, m1_n]
    · subst ht1; simp (disch := omega) only [mN, cN, I_uI, I_uI_n, R_uR, R_uR_n, A_uA, A_uA_n, J_uJ, J_uJ_n, Q_uQ, Q_uQ_n, E_uO, E_uO_n, I_uO, I_uO_n, R_uO, R_uO_n, E_uN, E_uN_n, L_uN, L_uN_n, A_uN, A_uN_n, J_uN, J_uN_n, Q_uN, Q_uN_n, A_uCA, A_uCA_n, J_uCJ, J_uCJ_n, E_uI, R_uI, L_uI, A_uI, J_uI, Q_uI, E_uR, I_uR, L_uR, A_uR, J_uR, Q_uR, E_uA, I_uA, R_uA, L_uA, J_uA, Q_uA, E_uJ, I_uJ, R_uJ, L_uJ, A_uJ, Q_uJ, E_uQ, I_uQ, R_uQ, L_uQ, A_uQ, J_uQ, L_uO, A_uO, J_uO, Q_uO, I_uN, R_uN, E_uCA, I_uCA, R_uCA, L_uCA, J_uCA, Q_uCA, E_uCJ, I_uCJ, R_uCJ, L_uCJ, A_uCJ, Q_uCJ, m1_s]
theorem payB_0 {p c m : Nat} {n : Int32} (hM : Imove nB nS nM t) (hm : m < nM) (h : payB t p c n m = true) : tA t 3345 0 m = 0 := by
  obtain ⟨-, -, -, -, -, -, -, -, -, -, -, -, -, -, -, -, -, -, -, -, -, -, pd, pd1, -, pd3⟩ := hM.2.2.2.1 m hm
  have h2 : (qual t p c m = true ∧ ¬ tA t 3337 0 m = 0 ∧ ¬ 0 < tA t 3345 0 m ∧ tA t 3338 0 m ≤ tA t 3346 0 m + n) := payB_e ▸ h
  have h3 := h2.2.2.1
  rw [pd3] at h3 ⊢
  have hpd : (0 < nt pd) = (0 < pd) := by rw [show (0 : Int32) = nt 0 from rfl, lt_nt (by omega) (by omega)]
  rw [hpd] at h3
  rw [show pd = 0 by omega]; rfl
/-- what has been paid as bonuses by the first moves -/
def bnS (t : TS) (p c : Nat) (n : Int32) : Nat → Nat
  | 0 => 0
  | k + 1 => bnS t p c n k + (if payB t p c n k then (tA t 3337 0 k).toNatClampNeg else 0)
theorem bnS_le {p c : Nat} {n : Int32} (hM : Imove nB nS nM t) : ∀ k, k ≤ nM → bnS t p c n k ≤ 999999 * k
  | 0, _ => Nat.zero_le _
  | k + 1, hk => by
    have ih := bnS_le (p := p) (c := c) (n := n) hM k (by omega)
    obtain ⟨-, -, -, -, -, -, -, -, -, -, -, -, -, -, -, -, -, -, -, ⟨bo, bo1, bo2, bo3⟩, -⟩ := hM.2.2.2.1 k (by omega)
    show bnS t p c n k + (if payB t p c n k then (tA t 3337 0 k).toNatClampNeg else 0) ≤ _
    rw [bo3, nt_cl (by omega)]
    split <;> omega
theorem coinD_b {p c : Nat} {n : Int32} (h150 : nB ≤ 150) (hM : Imove nB nS nM t) (hb : Icb nB nM t) : ∀ k, k ≤ nM → ∀ i, i < nB → -((10000000 + sW t nM + bnS t p c n k : Nat) : Int) ≤ (coinD t p c n (tA t 3310 0) k i).toInt ∧ (coinD t p c n (tA t 3310 0) k i).toInt ≤ ((10000000 + sW t nM + bnS t p c n k : Nat) : Int)
  | 0, _, i, hi => hb i hi
  | k + 1, hk, i, hi => by
    have ih := coinD_b (p := p) (c := c) (n := n) h150 hM hb k (by omega)
    obtain ⟨-, -, -, -, ⟨s, s1, -, s3, s4⟩, ⟨b, b1_, -, b3, b4⟩, -, -, -, -, -, -, -, -, -, -, -, -, -, ⟨bo, bo1, bo2, bo3⟩, -⟩ := hM.2.2.2.1 k (by omega)
    have hsw := sW_b hM
    have hbn := bnS_le (p := p) (c := c) (n := n) hM k (by omega)
    have h200 := hM.1
    have hN : (nt bo).toInt = bo := nt_int (by omega)
    show -((10000000 + sW t nM + (bnS t p c n k + (if payB t p c n k then (tA t 3337 0 k).toNatClampNeg else 0)) : Nat) : Int) ≤ ((if payB t p c n k then moveC (coinD t p c n (tA t 3310 0) k) (tA t 3330 0 k).toNatClampNeg (tA t 3329 0 k).toNatClampNeg (tA t 3337 0 k) else coinD t p c n (tA t 3310 0) k) i).toInt ∧ ((if payB t p c n k then moveC (coinD t p c n (tA t 3310 0) k) (tA t 3330 0 k).toNatClampNeg (tA t 3329 0 k).toNatClampNeg (tA t 3337 0 k) else coinD t p c n (tA t 3310 0) k) i).toInt ≤ ((10000000 + sW t nM + (bnS t p c n k + (if payB t p c n k then (tA t 3337 0 k).toNatClampNeg else 0)) : Nat) : Int)
    by_cases e : payB t p c n k = true
    · rw [if_pos e, if_pos e, s4, b4, bo3, nt_cl (by omega), nt_cl (by omega), nt_cl (by omega)]
      have j1 := ih i hi
      have j2 := ih b b1_
      have j3 := ih s s1
      have key : ∀ x : Int32, -((10000000 + sW t nM + bnS t p c n k : Nat) : Int) ≤ x.toInt → x.toInt ≤ ((10000000 + sW t nM + bnS t p c n k : Nat) : Int) → (x - nt bo).toInt = x.toInt - bo ∧ (x + nt bo).toInt = x.toInt + bo ∧ (x - nt bo + nt bo).toInt = x.toInt := fun x h1 h2 => by
        have e1 : (x - nt bo).toInt = x.toInt - bo := by rw [ni_sub (by omega) (by omega), hN]
        refine ⟨e1, by rw [ni_add (by omega) (by omega), hN], ?_⟩
        rw [ni_add (by rw [e1]; omega) (by rw [e1]; omega), e1, hN]; omega
      unfold moveC mm_u1
      by_cases g1 : i = s
      · rw [if_pos g1]
        by_cases g2 : s = b
        · rw [if_pos g2, (key _ j2.1 j2.2).2.2]; omega
        · rw [if_neg g2, (key _ j3.1 j3.2).2.1]; omega
      · rw [if_neg g1]
        by_cases g2 : i = b
        · rw [if_pos g2, (key _ j2.1 j2.2).1]; omega
        · rw [if_neg g2]; omega
    · rw [if_neg e, if_neg e]
      have j1 := ih i hi
      omega
theorem sW_play {u : TS} {p c : Nat} {n : Int32} (hM : Imove nB nS nM t) (h34 : tA u 3334 = tA t 3334) (w2 : ∀ m, tA u 3345 0 m = paidB t p c n nM m) : ∀ k, k ≤ nM → sW u k = sW t k + bnS t p c n k
  | 0, _ => rfl
  | k + 1, hk => by
    have ih := sW_play hM h34 w2 k (by omega)
    show sW u k + mW u k = sW t k + mW t k + (bnS t p c n k + (if payB t p c n k then (tA t 3337 0 k).toNatClampNeg else 0))
    have hk2 : k < nM := by omega
    unfold mW
    rw [h34, w2, ih]
    unfold paidB
    by_cases e : payB t p c n k = true
    · have z := payB_0 hM hk2 e
      have z2 : (0 : Int32).toNatClampNeg = 0 := rfl
      have hc : k < nM ∧ payB t p c n k = true := ⟨hk2, e⟩
      rw [if_pos hc, if_pos e, z, z2]; omega
    · have hc : ¬ (k < nM ∧ payB t p c n k = true) := fun q => e q.2
      rw [if_neg hc, if_neg e]; omega
theorem m_play2 (x1 x2 : Int32) (hL : Ilen t) (hT : Itime t) (hB : Ibody nB t) (hC : Icoin nB t) (hK : Imat nB t) (hS : Ispan nB nS nM t) (hM : Imove nB nS nM t) (hb : Icb nB nM t) : Eqm (F_X12_play t x1 x2) (fun t => F_X13_play t x1 x2) (fun t2 => Icoin nB t2 ∧ Imat nB t2 ∧ Imove nB nS nM t2 ∧ frm (ks kPlay) t t2 ∧ Icb nB nM t2) := by
  obtain ⟨d, mi, hd, hmi, e1, e2, e3, e4⟩ := hT
  have h150 := hB.1
  have hbad : ∀ r, F_X12_play t x1 x2 = some (r, t) → F_X13_play t x1 x2 = some (r, t) → Eqm (F_X12_play t x1 x2) (fun t => F_X13_play t x1 x2) (fun t2 => Icoin nB t2 ∧ Imat nB t2 ∧ Imove nB nS nM t2 ∧ frm (ks kPlay) t t2 ∧ Icb nB nM t2) := fun r h1 h2 => ⟨r, t, t, h1, h2, hC, hK, hM, frm_rf, hb⟩
  cases hx : six isPl t nB x1 with
  | none => exact hbad (-1) (by simp only [F_X12_play, playerAt_eq hL hB, hx, nxt_e, oc_s, oc_n, ob_s, ob2_s, gb_b1, gb_0, gb_1, gw0, gw1]) (by simp only [F_X13_play, isPlayer_eq hL hB, hx, isS_n, nxt_e, oc_s, oc_n, ob_s, ob2_s, gb_b1, gb_0, gb_1, gw0, gw1, Bool.false_eq_true, Bool.true_eq_false, if_true, if_false, not_true_eq_false, not_false_eq_true])
  | some p =>
  obtain ⟨hp, rfl, hpp⟩ := six_some hx
  by_cases h2 : 1 ≤ x2 ∧ x2 ≤ 60
  case neg => exact hbad (-1) (by simp only [F_X12_play, playerAt_eq hL hB, hx, win_eq, decide_eq_false h2, nxt_e, oc_s, oc_n, ob_s, ob2_s, gb_b1, gb_0, gb_1, gw0, gw1, Bool.false_eq_true, Bool.true_eq_false, if_true, if_false, not_true_eq_false, not_false_eq_true]) (by simp only [F_X13_play, isPlayer_eq hL hB, hx, isS_s, in_eq, decide_eq_false h2, nxt_e, oc_s, oc_n, ob_s, ob2_s, gb_b1, gb_0, gb_1, gw0, gw1, Bool.false_eq_true, Bool.true_eq_false, if_true, if_false, not_true_eq_false, not_false_eq_true])
  cases ho : hol t nS p (nt d) with
  | none => exact hbad (-2) (by simp only [F_X12_play, playerAt_eq hL hB, hx, win_eq, decide_eq_true h2, e1, X1_holding_eq hS hp, ho, nxt_e, oc_s, oc_n, ob_s, ob2_s, gb_b1, gb_0, gb_1, gw0, gw1, Bool.false_eq_true, Bool.true_eq_false, if_true, if_false, not_true_eq_false, not_false_eq_true]) (by
      simp only [F_X13_play, isPlayer_eq hL hB, hx, isS_s, in_eq, decide_eq_true h2, e2, holderOn_eq hL hS, ho, oel_n, nxt_e, oc_s, oc_n, ob_s, ob2_s, gb_b1, gb_0, gb_1, gw0, gw1, Bool.false_eq_true, Bool.true_eq_false, if_true, if_false, not_true_eq_false, not_false_eq_true]
      exact if_neg (by decide))
  | some s =>
  have hs := hol_lt ho
  obtain ⟨c, hc, hcc, c1, c2⟩ := sp_club h150 hS hs
  obtain ⟨u1, k1, k2⟩ := X12_play_loop (n := x2) hL h150 hM hp hc c1
  have f1 := k2.1
  have hB1 := Ibody_f f1 (by decide) hB
  have hK1 := Imat_f f1 (by decide) hK
  obtain ⟨u2, g1, g2, g3, g4, g5, g6⟩ := X12_tell (n := x2) hB1 hK1 hp hc (show tR u1 1101 s = some c by rw [(f1.1 1101 rfl).2.2.1, c1])
  have e3348 : tA u1 3348 = tA t 3348 := (f1.1 3348 rfl).2.2.2.2.1
  rw [e3348] at g1 g6
  have f2 : frm (ks kPlay) t u2 := frm_tr (frm_sb f1 (ks_sb rfl)) (frm_sb g2 (ks_sb rfl))
  have hc1 : F_X12_play t (nt p) x2 = some (tA t 3348 0 (150 * p + c) + x2, u2) := by
    simp only [F_X12_play, playerAt_eq hL hB, hx, win_eq, decide_eq_true h2, e1, X1_holding_eq hS hp, ho, nxt_e, oc_s, oc_n, ob_s, ob2_s, gb_b1, gb_0, gb_1, gw0, gw1, Bool.false_eq_true, Bool.true_eq_false, if_true, if_false, not_true_eq_false, not_false_eq_true]
    rw [k1, g1]
  have hL2 := Ilen_f f2 hL
  have hB2 := IbM (Ibody_f f2 (by decide) hB)
  have hS2 := IsM (Ispan_f f2 (by decide) hS)
  have hx2 : six isPl u2 nB (nt p) = some p := six_nt hp h150 (by rw [(f2.1 3308 rfl).2.2.2.2.1]; exact hpp)
  have ho2 : hol u2 nS p (nt d) = some s := by rw [hol_f f2 (by decide), ho]
  have e2' : tI u2 1301 0 = nt d := by rw [(f2.1 1301 rfl).2.1, e2]
  have c2' : tA u2 3318 0 s = nt c := by rw [(f2.1 3318 rfl).2.2.2.2.1, c2]
  have e0 : (150 : Int32) * nt p + nt c = nt (150 * p + c) := by rw [show (150 : Int32) = nt 150 from rfl, nt_mul, nt_add]
  have e3348b : tA u2 3348 = tA t 3348 := by rw [(g2.1 3348 rfl).2.2.2.2.1, e3348]
  have f3 : frm (ks [3348]) u2 (uA u2 3348 0 (150 * p + c) (tA t 3348 0 (150 * p + c) + x2)) := frm_uA rfl
  have f3' : frm (ks [103, 618, 619, 112, 2112, 3348]) t (uA u2 3348 0 (150 * p + c) (tA t 3348 0 (150 * p + c) + x2)) := frm_tr (frm_sb f1 (ks_sb rfl)) (frm_tr (frm_sb g2 (ks_sb rfl)) (frm_uA rfl))
  obtain ⟨u4, q1, q2⟩ := X13_play_loop (n := x2) (Ilen_f f3 hL2) h150 (Mpay_f f3' (by decide) (Imove_pay hM)) hp hc
  have f4 : frm (ks [3310, 3345, 3346]) _ u4 := q2.1
  have f5 : frm (ks kPlay) t u4 := frm_tr (frm_sb f3' (ks_sb rfl)) (frm_sb f4 (ks_sb rfl))
  have f6 : frm (ks [112, 2112, 3348, 3310, 3345, 3346]) u1 u4 := frm_tr (frm_sb g2 (ks_sb rfl)) (frm_tr (frm_sb f3 (ks_sb rfl)) (frm_sb f4 (ks_sb rfl)))
  have f7 : frm (ks [3348, 3310, 3345, 3346]) u2 u4 := frm_tr (frm_sb f3 (ks_sb rfl)) (frm_sb f4 (ks_sb rfl))
  have e3348c : tA u4 3348 0 = mm_u1 (tA t 3348 0) (150 * p + c) (tA t 3348 0 (150 * p + c) + x2) := by
    rw [(f4.1 3348 rfl).2.2.2.2.1, A_uA, m1_s, e3348b]
  obtain ⟨-, -, y3, y4, y5⟩ := pay_f (p := p) (c := c) (n := x2) f3' (by decide)
  have z3310 : tA (uA u2 3348 0 (150 * p + c) (tA t 3348 0 (150 * p + c) + x2)) 3310 0 = tA t 3310 0 := by rw [(f3'.1 3310 rfl).2.2.2.2.1]
  have w1 : ∀ m, tA u4 3346 0 m = told t p c x2 nM m := fun m => by rw [q2.2.2.1 m, y3]
  have w2 : ∀ m, tA u4 3345 0 m = paidB t p c x2 nM m := fun m => by rw [q2.2.2.2 m, y4]
  have w3 : tA u4 3310 0 = coinD t p c x2 (tA t 3310 0) nM := by rw [q2.2.1, y5, z3310]
  have w4 : tI u4 103 = coinD t p c x2 (tI t 103) nM := by rw [(f6.1 103 rfl).2.1, k2.2.1]
  refine ⟨tA t 3348 0 (150 * p + c) + x2, u2, u4, hc1, ?_, ⟨fun i hi => ?_, fun i hi => ?_⟩, ⟨fun i hi => ?_, fun i hi => ?_⟩, Imove_pl f5 (by decide) hM (fun m hm => ?_) (fun m hm => ?_) (fun m hm => ?_), f5, fun i hi => ?_⟩
  · show F_X13_play u2 (nt p) x2 = _
    simp only [F_X13_play, isPlayer_eqM hL2 hB2, hx2, isS_s, in_eq, decide_eq_true h2, e2', holderOn_eqM hL2 hS2, ho2, oel_s, c2', nxt_e, oc_s, oc_n, ob_s, ob2_s, gb_b1, gb_0, gb_1, gw0, gw1, Bool.false_eq_true, Bool.true_eq_false, if_true, if_false, not_true_eq_false, not_false_eq_true, e0]
    rw [if_pos (nt_nn (by omega)), (show tL _ 3348 0 = 22500 from hL2 3348 rfl), gd_nt _ (by omega) (by omega), gd_nt _ (by omega) (by omega), nt_cl (by omega), e3348b, q1]
    unfold B_X13_play_225
    rw [e0, (show tL _ 3348 0 = 22500 from Ilen_f f5 hL 3348 rfl), gd_nt _ (by omega) (by omega), nt_cl (by omega), e3348c, m1_s]
  · rw [w3, w4]
    exact coinD_c h150 hM hC.1 nM (Nat.le_refl _) i hi
  · rw [w3, coinD_o h150 hM hi nM (Nat.le_refl _)]
    exact hC.2 i hi
  · have r1 : tR u4 112 = mm_u1 (tR t 112) p (some p) := by rw [(f7.1 112 rfl).2.2.1, g3, (f1.1 112 rfl).2.2.1]
    by_cases e : i = p
    · subst e
      refine Or.inr ⟨by rw [r1, m1_s], by rw [(f7.1 2112 rfl).2.2.2.1, g5], fun j hj => ?_⟩
      rw [(f7.1 2112 rfl).2.2.2.2.1, g6 j hj, e3348c]
      by_cases e2 : j = c
      · subst e2; rw [if_pos rfl, m1_s]
      · rw [if_neg e2, m1_n (by omega)]
    · have a1 : tR u4 112 i = tR t 112 i := by rw [r1, m1_n e]
      have a2 : tE u4 2112 i = tE t 2112 i := by rw [(f7.1 2112 rfl).1, (g4 i e).2.1, (f1.1 2112 rfl).1]
      have a3 : tL u4 2112 i = tL t 2112 i := by rw [(f7.1 2112 rfl).2.2.2.1, (g4 i e).2.2, (f1.1 2112 rfl).2.2.2.1]
      have a4 : tA u4 2112 i = tA t 2112 i := by rw [(f7.1 2112 rfl).2.2.2.2.1, (g4 i e).1, (f1.1 2112 rfl).2.2.2.2.1]
      have a5 : ∀ j, j < 150 → tA u4 3348 0 (150 * i + j) = tA t 3348 0 (150 * i + j) := fun j hj => by rw [e3348c, m1_n (by omega)]
      rw [a1, a2, a3, a4]
      rcases hK.1 i hi with ⟨x1, x2, x3⟩ | ⟨x1, x2, x3⟩
      · exact Or.inl ⟨x1, x2, fun j hj => by rw [a5 j hj, x3 j hj]⟩
      · exact Or.inr ⟨x1, x2, fun j hj => by rw [a5 j hj, x3 j hj]⟩
  · have e : ¬ i = p := by omega
    have a2 : tE u4 2112 i = tE t 2112 i := by rw [(f7.1 2112 rfl).1, (g4 i e).2.1, (f1.1 2112 rfl).1]
    refine ⟨by rw [a2, (hK.2 i hi).1], fun j hj => ?_⟩
    rw [e3348c, m1_n (by omega), (hK.2 i hi).2 j hj]
  · rw [(f6.1 618 rfl).2.1, k2.2.2.1 m hm, w1]
  · rw [(f6.1 619 rfl).2.1, k2.2.2.2 m hm, w2]
    obtain ⟨-, -, -, -, -, -, -, -, -, -, -, -, -, -, -, -, -, -, -, ⟨bo, bo1, bo2, bo3⟩, -, -, ⟨pd, pd1, pd2, pd3⟩⟩ := hM.2.2.2.1 m hm
    unfold paidB
    by_cases e : m < nM ∧ payB t p c x2 m = true
    · rw [if_pos e]; exact ⟨bo, bo1, bo3, bo3⟩
    · rw [if_neg e]; exact ⟨pd, pd1, pd3, pd3⟩
  · obtain ⟨-, -, -, -, -, -, -, -, b1_, b2, -⟩ := hM.2.2.2.2 m hm
    rw [w1, w2]
    unfold paidB told
    rw [if_neg (fun q => by omega), if_neg (fun q => by omega)]
    exact ⟨b1_, b2⟩
  · rw [w3, sW_play hM (f5.1 3334 rfl).2.2.2.2.1 w2 nM (Nat.le_refl _)]
    have := coinD_b (p := p) (c := c) (n := x2) h150 hM hb nM (Nat.le_refl _) i hi
    omega
theorem m_undo2 (x1 : Int32) (hL : Ilen t) (hT : Itime t) (hB : Ibody nB t) (hC : Icoin nB t) (hS : Ispan nB nS nM t) (hM : Imove nB nS nM t) (hb : Icb nB nM t) : Eqm (F_X12_undo t x1) (fun t => F_X13_undo t x1) (fun t2 => Icoin nB t2 ∧ Ispan nB nS nM t2 ∧ Imove nB nS nM t2 ∧ frm (ks kUndo) t t2 ∧ Icb nB nM t2) := by
  obtain ⟨d, mi, hd, hmi, e1, e2, e3, e4⟩ := hT
  have h150 := hB.1
  have h200 := hM.1
  have h600 := hS.1
  have hbad : ∀ r, F_X12_undo t x1 = some (r, t) → F_X13_undo t x1 = some (r, t) → Eqm (F_X12_undo t x1) (fun t => F_X13_undo t x1) (fun t2 => Icoin nB t2 ∧ Ispan nB nS nM t2 ∧ Imove nB nS nM t2 ∧ frm (ks kUndo) t t2 ∧ Icb nB nM t2) := fun r h1 h2 => ⟨r, t, t, h1, h2, hC, hS, hM, frm_rf, hb⟩
  cases hx : ix nM x1 with
  | none => exact hbad (-1) (by simp only [F_X12_undo, moveAt_eq hL hM, hx, nxt_e, oc_s, oc_n, ob_s, ob2_s, gb_b1, gb_0, gb_1, gw0, gw1]) (by simp only [F_X13_undo, isMove_eq hM, hx, isS_n, nxt_e, oc_s, oc_n, ob_s, ob2_s, gb_b1, gb_0, gb_1, gw0, gw1, Bool.false_eq_true, Bool.true_eq_false, if_true, if_false, not_true_eq_false, not_false_eq_true])
  | some m =>
  obtain ⟨hm, rfl⟩ := ix_some hx
  obtain ⟨-, -, a3, -, ⟨s, s1, -, s3, s4⟩, ⟨b, b1_, -, b3, b4⟩, ⟨f, hfb, f1, f2⟩, -, -, ⟨sp, dd, p1, -, p3, p4, -⟩, ⟨u1, u2⟩, -, -, ⟨kp, hkpb, kp2, kp3⟩, hkt, ⟨sh, hshb, sh2, sh3⟩, hsh, hs47, -⟩ := hM.2.2.2.1 m hm
  by_cases hu : tA t 3334 0 m = 0
  case neg => exact hbad (-2) (by simp only [F_X12_undo, moveAt_eq hL hM, hx, nxt_e, oc_s, oc_n, ob_s, ob2_s, gb_b1, gb_0, gb_1, gw0, gw1, u1]; exact if_neg hu) (by
    simp only [F_X13_undo, isMove_eq hM, hx, isS_s, nxt_e, oc_s, oc_n, ob_s, ob2_s, gb_b1, gb_0, gb_1, gw0, gw1, Bool.false_eq_true, Bool.true_eq_false, if_true, if_false, not_true_eq_false, not_false_eq_true]
    rw [(show tL _ 3334 0 = 200 from hL 3334 rfl), gd_nt _ (by omega) (by omega), nt_cl (by omega), if_neg hu])
  have hc0 : F_X12_undo t (nt m) = oel (nx (later t m) (nM - (m + 1)) (m + 1)) (B_X12_undo_76 t m) (fun o => some (-100 - nt o, t)) := by
    simp only [F_X12_undo, moveAt_eq hL hM, hx, nxt_e, oc_s, oc_n, ob_s, ob2_s, gb_b1, gb_0, gb_1, gw0, gw1, u1, a3, nt_succ]
    rw [if_pos hu, X12_undo_find hL hM h150 hm]
  have hm0 : ∀ v, Ilen v → tI v 1327 0 = nt nM → tA v 3334 0 m = 0 → F_X13_undo v (nt m) = oel (nx (later v m) (nM - (m + 1)) (m + 1)) (B_X13_undo_69 v (nt m)) (fun o => some (-100 - nt o, v)) := by
    intro v hLv hv hv2
    have : F_X13_isMove v (nt m) = some (b1 (ix nM (nt m)).isSome) := by
      unfold F_X13_isMove
      rw [in_eq, hv, dix (by omega), ob_s, gb_b1]
    simp only [F_X13_undo, this, hx, isS_s, nxt_e, oc_s, oc_n, ob_s, ob2_s, gb_b1, gb_0, gb_1, gw0, gw1, Bool.false_eq_true, Bool.true_eq_false, if_true, if_false, not_true_eq_false, not_false_eq_true]
    rw [(show tL _ 3334 0 = 200 from hLv 3334 rfl), gd_nt _ (by omega) (by omega), nt_cl (by omega), if_pos hv2, nt_succ, X13_undo_find hLv hv h200 hm]
  cases hn : nx (later t m) (nM - (m + 1)) (m + 1) with
  | some o => exact hbad _ (by rw [hc0, hn, oel_s]) (by rw [hm0 t hL hM.2.2.1 hu, hn, oel_s])
  | none =>
  rw [hn, oel_n] at hc0
  obtain ⟨kt, hkt1, hkt2, hkt3⟩ : ∃ kt, tR t 612 m = kt ∧ tA t 3342 0 m = enc kt ∧ ∀ q, kt = some q → q < nB := by
    rcases hkt with ⟨g1, g2⟩ | ⟨c, g1, g2, g3⟩
    · exact ⟨none, g1, g2, fun q h => by cases h⟩
    · exact ⟨some c, g2, g3, fun q h => by cases h; exact g1⟩
  have hf0 : frm (ks [608, 1106]) t (uI (uI t 608 m 1) 1106 sp (nt d)) := frm_tr (frm_uI rfl) (frm_uI rfl)
  obtain ⟨v, k1, k2, k3⟩ := payBack_eq (t := uI (uI t 608 m 1) 1106 sp (nt d)) (nB := nB) (m := m) (b := b) (s := s) (kt := kt) (fee := nt f) (kp := nt kp) (sh := nt sh) (g := fun c => tA t 3347 0 (150 * m + c)) (Ilen_f hf0 hL) (Ibody_f hf0 (by decide) hB)
    (by rw [(hf0.1 603 rfl).2.2.1, b3]) (by rw [(hf0.1 602 rfl).2.2.1, s3]) (by rw [(hf0.1 612 rfl).2.2.1, hkt1]) (by rw [(hf0.1 604 rfl).2.1, f1]) (by rw [(hf0.1 611 rfl).2.1, kp2]) (by rw [(hf0.1 613 rfl).2.1, sh2])
    (fun c hc u hu2 => by
      have hh : frm (ks [608, 1106, 103]) t u := frm_tr (frm_sb hf0 (ks_sb rfl)) (frm_sb hu2 (ks_sb rfl))
      have hshu : Ishare nB m u := by
        unfold Ishare at hsh ⊢
        rw [(hh.1 614 rfl).2.2.1, (hh.1 2614 rfl).2.2.2.1, (hh.1 2614 rfl).2.2.2.2.1, (hh.1 3347 rfl).2.2.2.2.1]
        exact hsh
      rw [shareOf_eq hshu h150 hc, (hh.1 3347 rfl).2.2.2.2.1])
  have hv : frm (ks [608, 1106, 103]) t v := frm_tr (frm_sb hf0 (ks_sb rfl)) (frm_sb k2 (ks_sb rfl))
  have hc1 : F_X12_undo t (nt m) = some (1, v) := by
    rw [hc0]
    unfold B_X12_undo_76
    simp (disch := omega) only [nxt_e, oc_s, oc_n, ob_s, ob2_s, gb_b1, gb_0, gb_1, gw0, gw1, I_uI, I_uI_n, R_uR, R_uR_n, A_uA, A_uA_n, J_uJ, J_uJ_n, Q_uQ, Q_uQ_n, E_uO, E_uO_n, I_uO, I_uO_n, R_uO, R_uO_n, E_uN, E_uN_n, L_uN, L_uN_n, A_uN, A_uN_n, J_uN, J_uN_n, Q_uN, Q_uN_n, A_uCA, A_uCA_n, J_uCJ, J_uCJ_n, E_uI, R_uI, L_uI, A_uI, J_uI, Q_uI, E_uR, I_uR, L_uR, A_uR, J_uR, Q_uR, E_uA, I_uA, R_uA, L_uA, J_uA, Q_uA, E_uJ, I_uJ, R_uJ, L_uJ, A_uJ, Q_uJ, E_uQ, I_uQ, R_uQ, L_uQ, A_uQ, J_uQ, L_uO, A_uO, J_uO, Q_uO, I_uN, R_uN, E_uCA, I_uCA, R_uCA, L_uCA, J_uCA, Q_uCA, E_uCJ, I_uCJ, R_uCJ, L_uCJ, A_uCJ, Q_uCJ, m1_s, p3, e1]
    rw [k1, ob_s]
  have hLv := Ilen_f hv hL
  have hv34 : tA v 3334 = tA t 3334 := (hv.1 3334 rfl).2.2.2.2.1
  have hlat : later v m = later t m := by
    funext o
    unfold later
    rw [(hv.1 3328 rfl).2.2.2.2.1, hv34]
  obtain ⟨w, q1, q2, q3, q4, q5⟩ := X13_undo69_eq (t := v) (nB := nB) (m := m) (b := b) (s := s) (sp := sp) (kt := kt) (fee := nt f) (kp := nt kp) (sh := nt sh) (d := d) hLv h150 (by rw [(hv.1 1307 rfl).2.1]; exact hB.2.2.1) (by omega) (by rw [(hv.1 1301 rfl).2.1, e2]) b1_ s1 hkt3 (by omega)
    (by rw [(hv.1 3330 rfl).2.2.2.2.1, b4]) (by rw [(hv.1 3329 rfl).2.2.2.2.1, s4]) (by rw [(hv.1 3342 rfl).2.2.2.2.1, hkt2]) (by rw [(hv.1 3331 rfl).2.2.2.2.1, f2]) (by rw [(hv.1 3341 rfl).2.2.2.2.1, kp3]) (by rw [(hv.1 3343 rfl).2.2.2.2.1, sh3]) (by rw [(hv.1 3340 rfl).2.2.2.2.1, p4])
  have hw : frm (ks kUndo) t w := frm_tr (frm_sb hv (ks_sb rfl)) (frm_sb q2 (ks_sb rfl))
  have c1 : tI w 103 = backL (fun c => tA t 3347 0 (150 * m + c)) (backA b s kt (nt f) (nt kp) (nt sh) (tI t 103)) nB := by
    rw [(q2.1 103 rfl).2.1, k3]
    simp (disch := omega) only [I_uI, I_uI_n, R_uR, R_uR_n, A_uA, A_uA_n, J_uJ, J_uJ_n, Q_uQ, Q_uQ_n, E_uO, E_uO_n, I_uO, I_uO_n, R_uO, R_uO_n, E_uN, E_uN_n, L_uN, L_uN_n, A_uN, A_uN_n, J_uN, J_uN_n, Q_uN, Q_uN_n, A_uCA, A_uCA_n, J_uCJ, J_uCJ_n, E_uI, R_uI, L_uI, A_uI, J_uI, Q_uI, E_uR, I_uR, L_uR, A_uR, J_uR, Q_uR, E_uA, I_uA, R_uA, L_uA, J_uA, Q_uA, E_uJ, I_uJ, R_uJ, L_uJ, A_uJ, Q_uJ, E_uQ, I_uQ, R_uQ, L_uQ, A_uQ, J_uQ, L_uO, A_uO, J_uO, Q_uO, I_uN, R_uN, E_uCA, I_uCA, R_uCA, L_uCA, J_uCA, Q_uCA, E_uCJ, I_uCJ, R_uCJ, L_uCJ, A_uCJ, Q_uCJ, m1_s]
  have c2 : tA w 3310 0 = backL (fun c => tA t 3347 0 (150 * m + c)) (backA b s kt (nt f) (nt kp) (nt sh) (tA t 3310 0)) nB := by
    rw [q3, (hv.1 3347 rfl).2.2.2.2.1, (hv.1 3310 rfl).2.2.2.2.1]
  have c3 : tI w 608 = mm_u1 (tI t 608) m 1 := by
    rw [(q2.1 608 rfl).2.1, (k2.1 608 rfl).2.1]
    simp (disch := omega) only [I_uI, I_uI_n, R_uR, R_uR_n, A_uA, A_uA_n, J_uJ, J_uJ_n, Q_uQ, Q_uQ_n, E_uO, E_uO_n, I_uO, I_uO_n, R_uO, R_uO_n, E_uN, E_uN_n, L_uN, L_uN_n, A_uN, A_uN_n, J_uN, J_uN_n, Q_uN, Q_uN_n, A_uCA, A_uCA_n, J_uCJ, J_uCJ_n, E_uI, R_uI, L_uI, A_uI, J_uI, Q_uI, E_uR, I_uR, L_uR, A_uR, J_uR, Q_uR, E_uA, I_uA, R_uA, L_uA, J_uA, Q_uA, E_uJ, I_uJ, R_uJ, L_uJ, A_uJ, Q_uJ, E_uQ, I_uQ, R_uQ, L_uQ, A_uQ, J_uQ, L_uO, A_uO, J_uO, Q_uO, I_uN, R_uN, E_uCA, I_uCA, R_uCA, L_uCA, J_uCA, Q_uCA, E_uCJ, I_uCJ, R_uCJ, L_uCJ, A_uCJ, Q_uCJ, m1_s]
  have c4 : tA w 3334 0 = mm_u1 (tA t 3334 0) m 1 := by rw [q4, hv34]
  have c5 : tI w 1106 = mm_u1 (tI t 1106) sp (nt d) := by
    rw [(q2.1 1106 rfl).2.1, (k2.1 1106 rfl).2.1]
    simp (disch := omega) only [I_uI, I_uI_n, R_uR, R_uR_n, A_uA, A_uA_n, J_uJ, J_uJ_n, Q_uQ, Q_uQ_n, E_uO, E_uO_n, I_uO, I_uO_n, R_uO, R_uO_n, E_uN, E_uN_n, L_uN, L_uN_n, A_uN, A_uN_n, J_uN, J_uN_n, Q_uN, Q_uN_n, A_uCA, A_uCA_n, J_uCJ, J_uCJ_n, E_uI, R_uI, L_uI, A_uI, J_uI, Q_uI, E_uR, I_uR, L_uR, A_uR, J_uR, Q_uR, E_uA, I_uA, R_uA, L_uA, J_uA, Q_uA, E_uJ, I_uJ, R_uJ, L_uJ, A_uJ, Q_uJ, E_uQ, I_uQ, R_uQ, L_uQ, A_uQ, J_uQ, L_uO, A_uO, J_uO, Q_uO, I_uN, R_uN, E_uCA, I_uCA, R_uCA, L_uCA, J_uCA, Q_uCA, E_uCJ, I_uCJ, R_uCJ, L_uCJ, A_uCJ, Q_uCJ, m1_s]
  have c6 : tA w 3322 0 = mm_u1 (tA t 3322 0) sp (nt d) := by rw [q5, (hv.1 3322 rfl).2.2.2.2.1]
  refine ⟨1, v, w, hc1, ?_, ⟨fun i hi => ?_, fun i hi => ?_⟩, Ispan_un hw (by decide) hS (fun s' hs' => ?_), Imove_un hw (by decide) hM (fun m' hm' => ?_), hw, fun i hi => ?_⟩
  · show F_X13_undo v (nt m) = _
    rw [hm0 v hLv (by rw [(hv.1 1327 rfl).2.1, hM.2.2.1]) (by rw [hv34, hu]), hlat, hn, oel_n]
    exact q1
  · rw [c1, c2]
    unfold backL
    rw [if_pos hi, if_pos hi, backA_c hC.1 b1_ s1 hkt3 i hi]
  · rw [c2]
    unfold backL
    rw [if_neg (by omega), backA_o hi b1_ s1 hkt3, hC.2 i hi]
  · obtain ⟨-, -, -, -, -, -, a7, -, -, -, -, -, -, -, -, a16, a17⟩ := hS.2.2.2.1 s' hs'
    rw [c5, c6]
    by_cases e : s' = sp
    · subst e
      rw [m1_s, m1_s]
      refine ⟨rfl, nt_nn (by omega), ?_⟩
      rw [show (1000000 : Int32) = nt 1000000 from rfl, ge_nt (by omega) (by omega)]
      omega
    · rw [m1_n e, m1_n e]
      exact ⟨a7, a16, a17⟩
  · rw [c3, c4]
    by_cases e : m' = m
    · subst e
      rw [m1_s, m1_s]
      exact ⟨rfl, Or.inr rfl⟩
    · rw [m1_n e, m1_n e]
      obtain ⟨-, -, -, -, -, -, -, -, -, -, x, -⟩ := hM.2.2.2.1 m' hm'
      exact x
  · have hbd := sW_b hM
    have hx0 := hb i hi
    have hsw : ∀ n, n ≤ nM → sW w n = sW t n + (if m < n then 3000000 else 0) := by
      intro n
      induction n with
      | zero => intro _; rfl
      | succ n ih =>
        intro hn'
        have ih' := ih (by omega)
        show sW w n + mW w n = sW t n + mW t n + _
        rw [ih']
        unfold mW
        rw [c4, (hw.1 3345 rfl).2.2.2.2.1]
        by_cases e : n = m
        · subst e
          rw [m1_s, if_pos rfl, hu, if_neg (show ¬ (0 : Int32) = 1 by decide), if_neg (Nat.lt_irrefl _), if_pos (Nat.lt_succ_self _)]; omega
        · rw [m1_n e]
          by_cases e2 : m < n
          · rw [if_pos e2, if_pos (show m < n + 1 by omega)]; omega
          · rw [if_neg e2, if_neg (show ¬ m < n + 1 by omega)]; omega
    have hsw1 := hsw nM (Nat.le_refl _)
    rw [if_pos hm] at hsw1
    rw [hsw1, c2]
    obtain ⟨si, hsi, esi⟩ := hs47 i (by omega)
    have hx1 : backL (fun c => tA t 3347 0 (150 * m + c)) (backA b s kt (nt f) (nt kp) (nt sh) (tA t 3310 0)) nB i = tA t 3310 0 i + (if i = b then nt f else 0) + (if i = s then -(nt f - nt kp - nt sh) else 0) + (if kt = some i then -nt kp else 0) + -nt si := by
      unfold backL
      rw [if_pos hi]
      show backA b s kt (nt f) (nt kp) (nt sh) (tA t 3310 0) i - tA t 3347 0 (150 * m + i) = _
      rw [esi, Int32.sub_eq_add_neg]
      congr 1
      unfold backA
      have q1 : ∀ i, mm_u1 (tA t 3310 0) b (tA t 3310 0 b + nt f) i = tA t 3310 0 i + (if i = b then nt f else 0) := fun i => by
        by_cases e : i = b
        · subst e; rw [m1_s, if_pos rfl]
        · rw [m1_n e, if_neg e, Int32.add_zero]
      have q2 : ∀ i, mm_u1 (mm_u1 (tA t 3310 0) b (tA t 3310 0 b + nt f)) s (mm_u1 (tA t 3310 0) b (tA t 3310 0 b + nt f) s - (nt f - nt kp - nt sh)) i = tA t 3310 0 i + (if i = b then nt f else 0) + (if i = s then -(nt f - nt kp - nt sh) else 0) := fun i => by
        by_cases e : i = s
        · subst e; rw [m1_s, if_pos rfl, q1, Int32.sub_eq_add_neg]
        · rw [m1_n e, if_neg e, Int32.add_zero, q1]
      cases kt with
      | none => rw [oel_n, q2, if_neg (show ¬ (none : Option Nat) = some i from fun q => by cases q), Int32.add_zero]
      | some k =>
        rw [oel_s]
        by_cases e : i = k
        · subst e; rw [m1_s, if_pos rfl, q2, Int32.sub_eq_add_neg]
        · rw [m1_n e, if_neg (show ¬ some k = some i from fun q => e (Option.some.inj q).symm), Int32.add_zero, q2]
    have i1 : ∃ z : Int, (if i = b then nt f else 0 : Int32).toInt = z ∧ 0 ≤ z ∧ z ≤ 999999 := by
      by_cases e : i = b
      · rw [if_pos e, nt_int (by omega)]; exact ⟨_, rfl, by omega, by omega⟩
      · rw [if_neg e]; exact ⟨0, rfl, by omega, by omega⟩
    have i2 : ∃ z : Int, (if i = s then -(nt f - nt kp - nt sh) else 0 : Int32).toInt = z ∧ -999999 ≤ z ∧ z ≤ 550000 := by
      by_cases e : i = s
      · rw [if_pos e]
        have q1 : (nt f - nt kp).toInt = (f : Int) - (kp : Int) := by rw [ni_sub (by rw [nt_int (by omega), nt_int (by omega)]; omega) (by rw [nt_int (by omega), nt_int (by omega)]; omega), nt_int (by omega), nt_int (by omega)]
        have q2 : (nt sh).toInt = (sh : Int) := nt_int (by omega)
        have q3 : (nt f - nt kp - nt sh).toInt = (f : Int) - kp - sh := by rw [ni_sub (by rw [q1, q2]; omega) (by rw [q1, q2]; omega), q1, q2]
        rw [Int32.toInt_neg, q3, bm_id (by omega) (by omega)]
        exact ⟨_, rfl, by omega, by omega⟩
      · rw [if_neg e]; exact ⟨0, rfl, by omega, by omega⟩
    have i3 : ∃ z : Int, (if kt = some i then -nt kp else 0 : Int32).toInt = z ∧ -500000 ≤ z ∧ z ≤ 0 := by
      by_cases e : kt = some i
      · rw [if_pos e, nt_ngi (by omega)]; exact ⟨_, rfl, by omega, by omega⟩
      · rw [if_neg e]; exact ⟨0, rfl, by omega, by omega⟩
    have i4 : ∃ z : Int, (-nt si : Int32).toInt = z ∧ -50000 ≤ z ∧ z ≤ 0 := by
      rw [nt_ngi (by omega)]; exact ⟨_, rfl, by omega, by omega⟩
    rw [hx1]
    obtain ⟨v1, j1, l1, n1⟩ := i1
    obtain ⟨v2, j2, l2, n2⟩ := i2
    obtain ⟨v3, j3, l3, n3⟩ := i3
    obtain ⟨v4, j4, l4, n4⟩ := i4
    have r1 := ni_add (x := tA t 3310 0 i) (y := if i = b then nt f else 0) (by rw [j1]; omega) (by rw [j1]; omega)
    rw [j1] at r1
    have r2 := ni_add (x := tA t 3310 0 i + (if i = b then nt f else 0)) (y := if i = s then -(nt f - nt kp - nt sh) else 0) (by rw [r1, j2]; omega) (by rw [r1, j2]; omega)
    rw [r1, j2] at r2
    have r3 := ni_add (x := tA t 3310 0 i + (if i = b then nt f else 0) + (if i = s then -(nt f - nt kp - nt sh) else 0)) (y := if kt = some i then -nt kp else 0) (by rw [r2, j3]; omega) (by rw [r2, j3]; omega)
    rw [r2, j3] at r3
    have r4 := ni_add (x := tA t 3310 0 i + (if i = b then nt f else 0) + (if i = s then -(nt f - nt kp - nt sh) else 0) + (if kt = some i then -nt kp else 0)) (y := -nt si) (by rw [r3, j4]; omega) (by rw [r3, j4]; omega)
    rw [r3, j4] at r4
    rw [r4]
    omega
end
