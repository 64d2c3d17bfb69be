/-! PART 58: terms, candidates, wishes. -/
section
variable {t : TS}
theorem m_term (x1 x2 : Int32) (hL : Ilen t) (hI : Iterm t) : Eqm (F_X12_term t x1 x2) (fun t => F_X13_term t x1 x2) (fun t2 => Iterm t2 ∧ frm (ks kTerm) t t2) := by
  have hbad : ∀ r, F_X12_term t x1 x2 = some (r, t) → F_X13_term t x1 x2 = some (r, t) → Eqm (F_X12_term t x1 x2) (fun t => F_X13_term t x1 x2) (fun t2 => Iterm t2 ∧ frm (ks kTerm) t t2) := fun r h1 h2 => ⟨r, t, t, h1, h2, hI, frm_rf⟩
  have e9 : (Int32.ofNat 9 - 1 : Int32) = nt 9 - 1 := rfl
  have e8 : (8 : Int32) = nt 9 - 1 := by decide
  cases hx : ix 9 x1 with
  | none => exact hbad (-1) (by simp only [F_X12_term, (show tL _ 3208 0 = 9 from hL 3208 rfl), e9, win_eq, dix (show 9 < 2147483648 by omega), hx, isS_n, nxt_e, oc_s, oc_n, ob_s, ob2_s, gb_b1, gb_0, gb_1, gw0, gw1, Bool.false_eq_true, Bool.true_eq_false, if_true, if_false, not_true_eq_false, not_false_eq_true]) (by simp only [F_X13_term, e8, in_eq, dix (show 9 < 2147483648 by omega), hx, isS_n, nxt_e, oc_s, oc_n, ob_s, ob2_s, gb_b1, gb_0, gb_1, gw0, gw1, Bool.false_eq_true, Bool.true_eq_false, if_true, if_false, not_true_eq_false, not_false_eq_true])
  | some i =>
  obtain ⟨hi, rfl⟩ := ix_some hx
  have key : ∀ t, Ilen t → F_X13_term t (nt i) x2 = if (mm_sv 1).getD i 0 ≤ x2 ∧ x2 ≤ (mm_sv 2).getD i 0 then some (tA t 3349 0 i, uA t 3349 0 i x2) else some (-1, t) := by
    intro t hL
    have h27 : ∀ lo hi2, F_X13_mostTerm t (nt i) = some hi2 → B_X13_term_27 t (nt i) x2 lo x2 = if lo ≤ x2 ∧ x2 ≤ hi2 then some (tA t 3349 0 i, uA t 3349 0 i x2) else some (-1, t) := by
      intro lo hi2 h
      unfold B_X13_term_27
      simp (disch := omega) only [h, in_eq, nxt_e, oc_s, oc_n, ob_s, ob2_s, gb_b1, gb_0, gb_1, gw0, gw1, decide_eq_true_eq, (show tL _ 3349 0 = 9 from hL 3349 rfl), gd_nt, nt_cl]
    have hin : F_X13_term t (nt i) x2 = if nt i = 3 then B_X13_term_22 t (nt i) x2 x2 else if ¬ nt i = 6 then B_X13_term_27 t (nt i) x2 0 x2 else B_X13_term_22 t (nt i) x2 x2 := by
      unfold F_X13_term
      rw [in_eq, ob_s, gw0, e8, dix (by omega), hx, isS_s, if_pos rfl]
    rw [hin]
    have hi' : i = 0 ∨ i = 1 ∨ i = 2 ∨ i = 3 ∨ i = 4 ∨ i = 5 ∨ i = 6 ∨ i = 7 ∨ i = 8 := by omega
    rcases hi' with rfl | rfl | rfl | rfl | rfl | rfl | rfl | rfl | rfl
    · rw [if_neg (by decide), if_pos (by decide)]; exact h27 0 999999 rfl
    · rw [if_neg (by decide), if_pos (by decide)]; exact h27 0 2999 rfl
    · rw [if_neg (by decide), if_pos (by decide)]; exact h27 0 99999 rfl
    · rw [if_pos (by decide)]; exact h27 1 5 rfl
    · rw [if_neg (by decide), if_pos (by decide)]; exact h27 0 50 rfl
    · rw [if_neg (by decide), if_pos (by decide)]; exact h27 0 999999 rfl
    · rw [if_neg (by decide), if_neg (by decide)]; exact h27 1 999 rfl
    · rw [if_neg (by decide), if_pos (by decide)]; exact h27 0 2999 rfl
    · rw [if_neg (by decide), if_pos (by decide)]; exact h27 0 999999 rfl
  have l1 : (mm_sv 1).length = 9 := rfl
  have l2 : (mm_sv 2).length = 9 := rfl
  by_cases h2 : (mm_sv 1).getD i 0 ≤ x2 ∧ x2 ≤ (mm_sv 2).getD i 0
  · obtain ⟨q1, -, -⟩ := hI i hi
    refine ⟨tA t 3349 0 i, uA t 3208 0 i x2, uA (uA t 3208 0 i x2) 3349 0 i x2, ?_, ?_, fun j hj => ?_, frm_tr (frm_uA rfl) (frm_uA rfl)⟩
    · simp (disch := omega) only [F_X12_term, (show tL _ 3208 0 = 9 from hL 3208 rfl), e9, win_eq, dix (show 9 < 2147483648 by omega), hx, isS_s, nxt_e, oc_s, oc_n, ob_s, ob2_s, gb_b1, gb_0, gb_1, gw0, gw1, Bool.false_eq_true, Bool.true_eq_false, if_true, if_false, not_true_eq_false, not_false_eq_true, l1, l2, gd_nt, nt_cl, decide_eq_true h2, q1]
    · exact (key _ (Ilen_f (frm_uA rfl : frm (ks [3208]) _ _) hL)).trans (by rw [if_pos h2]; rfl)
    · obtain ⟨a1, a2, a3⟩ := hI j hj
      simp (disch := omega) only [I_uI, I_uI_n, A_uA, A_uA_n, E_uI, R_uI, L_uI, A_uI, J_uI, Q_uI, E_uA, I_uA, R_uA, L_uA, J_uA, Q_uA, m1_s]
      by_cases e : j = i
      · subst e
        rw [m1_s, m1_s]
        exact ⟨rfl, h2.1, h2.2⟩
      · rw [m1_n e, m1_n e]
        exact ⟨a1, a2, a3⟩
  · exact hbad (-1) (by simp (disch := omega) only [F_X12_term, (show tL _ 3208 0 = 9 from hL 3208 rfl), e9, win_eq, dix (show 9 < 2147483648 by omega), hx, isS_s, nxt_e, oc_s, oc_n, ob_s, ob2_s, gb_b1, gb_0, gb_1, gw0, gw1, Bool.false_eq_true, Bool.true_eq_false, if_true, if_false, not_true_eq_false, not_false_eq_true, l1, l2, gd_nt, nt_cl, decide_eq_false h2]) ((key t hL).trans (if_neg h2))
/-- candidates -/
def Ibuy (t : TS) : Prop := ∃ n, n ≤ 10 ∧ tI t 204 0 = nt n ∧ tI t 1381 0 = nt n ∧ ∀ i, i < n → tA t 2200 0 i = tA t 3382 0 i ∧ tA t 2201 0 i = tA t 3385 0 i ∧ tA t 2202 0 i = tA t 3383 0 i ∧ tA t 2203 0 i = tA t 3384 0 i ∧ (∃ k, k ≤ 9999 ∧ tA t 3382 0 i = nt k) ∧ (∃ k, k ≤ 1 ∧ tA t 3383 0 i = nt k) ∧ (∃ k, k ≤ 3 ∧ tA t 3384 0 i = nt k) ∧ ∃ k, k ≤ 99999 ∧ tA t 3385 0 i = nt k
def kBuy : List Nat := [204, 1381, 2200, 2201, 2202, 2203, 3382, 3383, 3384, 3385]
theorem Ibuy_f {D : Nat → Bool} {t t' : TS} (h : frm D t t') (hd : ∀ k, k ∈ kBuy → D k = false) (hI : Ibuy t) : Ibuy t' := by
  unfold Ibuy at hI ⊢
  simp only [(h.1 204 (hd 204 (by decide))).2.1, (h.1 1381 (hd 1381 (by decide))).2.1, (h.1 2200 (hd 2200 (by decide))).2.2.2.2.1, (h.1 2201 (hd 2201 (by decide))).2.2.2.2.1, (h.1 2202 (hd 2202 (by decide))).2.2.2.2.1, (h.1 2203 (hd 2203 (by decide))).2.2.2.2.1, (h.1 3382 (hd 3382 (by decide))).2.2.2.2.1, (h.1 3383 (hd 3383 (by decide))).2.2.2.2.1, (h.1 3384 (hd 3384 (by decide))).2.2.2.2.1, (h.1 3385 (hd 3385 (by decide))).2.2.2.2.1]
  exact hI
theorem m_candidate (x1 x2 : Int32) (hL : Ilen t) (hI : Ibuy t) : Eqm (F_X12_candidate t x1 x2) (fun t => F_X13_candidate t x1 x2) (fun t2 => Ibuy t2 ∧ frm (ks kBuy) t t2) := by
  have hbad : ∀ r, F_X12_candidate t x1 x2 = some (r, t) → F_X13_candidate t x1 x2 = some (r, t) → Eqm (F_X12_candidate t x1 x2) (fun t => F_X13_candidate t x1 x2) (fun t2 => Ibuy t2 ∧ frm (ks kBuy) t t2) := fun r h1 h2 => ⟨r, t, t, h1, h2, hI, frm_rf⟩
  obtain ⟨n, hn, e1, e2, e3⟩ := hI
  by_cases h1 : 0 ≤ x1 ∧ x1 ≤ 999913
  case neg => exact hbad (-1) (by simp only [F_X12_candidate, B_X12_candidate_34, B_X12_candidate_35, win_eq, decide_eq_false h1, nxt_e, oc_s, oc_n, ob_s, ob2_s, gb_b1, gb_0, gb_1, gw0, gw1, Bool.false_eq_true, Bool.true_eq_false, if_true, if_false, not_true_eq_false, not_false_eq_true]) (by simp only [F_X13_candidate, in_eq, decide_eq_false h1, nxt_e, oc_s, oc_n, ob_s, ob2_s, gb_b1, gb_0, gb_1, gw0, gw1, Bool.false_eq_true, Bool.true_eq_false, if_true, if_false, not_true_eq_false, not_false_eq_true])
  obtain ⟨a, ha, rfl⟩ := nt_exb (b := 999913) h1.1 (by omega) h1.2
  have d10 : nt a / 10 = nt (a / 10) := nt_div (b := 10) (by omega) (by omega)
  have d100 : nt a / 100 = nt (a / 100) := nt_div (b := 100) (by omega) (by omega)
  have r1 : irm (nt (a / 10)) 10 = nt (a / 10 % 10) := nt_irm (b := 10) (by omega) (by omega)
  have r2 : irm (nt a) 10 = nt (a % 10) := nt_irm (b := 10) (by omega) (by omega)
  have c1 : ((1 : Int32) < nt (a / 10 % 10)) = (1 < a / 10 % 10) := lt_nt (k := 1) (by omega) (by omega)
  have c3 : ((3 : Int32) < nt (a % 10)) = (3 < a % 10) := lt_nt (k := 3) (by omega) (by omega)
  by_cases g1 : 1 < a / 10 % 10
  · exact hbad (-1) (by simp only [F_X12_candidate, B_X12_candidate_34, B_X12_candidate_35, win_eq, decide_eq_true h1, nxt_e, oc_s, oc_n, ob_s, ob2_s, gb_b1, gb_0, gb_1, gw0, gw1, Bool.false_eq_true, Bool.true_eq_false, if_true, if_false, not_true_eq_false, not_false_eq_true, d10, r1, c1, g1]) (by simp only [F_X13_candidate, in_eq, decide_eq_true h1, nxt_e, oc_s, oc_n, ob_s, ob2_s, gb_b1, gb_0, gb_1, gw0, gw1, Bool.false_eq_true, Bool.true_eq_false, if_true, if_false, not_true_eq_false, not_false_eq_true, d10, r1, c1, g1])
  by_cases g2 : 3 < a % 10
  · exact hbad (-1) (by simp only [F_X12_candidate, B_X12_candidate_34, B_X12_candidate_35, win_eq, decide_eq_true h1, nxt_e, oc_s, oc_n, ob_s, ob2_s, gb_b1, gb_0, gb_1, gw0, gw1, Bool.false_eq_true, Bool.true_eq_false, if_true, if_false, not_true_eq_false, not_false_eq_true, d10, r1, r2, c1, c3, g1, g2]) (by simp only [F_X13_candidate, in_eq, decide_eq_true h1, nxt_e, oc_s, oc_n, ob_s, ob2_s, gb_b1, gb_0, gb_1, gw0, gw1, Bool.false_eq_true, Bool.true_eq_false, if_true, if_false, not_true_eq_false, not_false_eq_true, d10, r1, r2, c1, c3, g1, g2])
  by_cases h2 : 0 ≤ x2 ∧ x2 ≤ 99999
  case neg => exact hbad (-1) (by simp only [F_X12_candidate, B_X12_candidate_35, win_eq, decide_eq_true h1, decide_eq_false h2, nxt_e, oc_s, oc_n, ob_s, ob2_s, gb_b1, gb_0, gb_1, gw0, gw1, Bool.false_eq_true, Bool.true_eq_false, if_true, if_false, not_true_eq_false, not_false_eq_true, d10, r1, r2, c1, c3, g1, g2, i10]) (by simp only [F_X13_candidate, in_eq, decide_eq_true h1, decide_eq_false h2, nxt_e, oc_s, oc_n, ob_s, ob2_s, gb_b1, gb_0, gb_1, gw0, gw1, Bool.false_eq_true, Bool.true_eq_false, if_true, if_false, not_true_eq_false, not_false_eq_true, d10, r1, r2, c1, c3, g1, g2])
  obtain ⟨w, hw, rfl⟩ := nt_exb (b := 99999) h2.1 (by omega) h2.2
  by_cases hn10 : n = 10
  · subst hn10
    have q1 : ¬ nt 10 < Int32.ofNat 10 := by decide
    have q2 : nt 10 = 10 := rfl
    exact hbad (-3) (by simp only [F_X12_candidate, B_X12_candidate_35, win_eq, decide_eq_true h1, decide_eq_true h2, nxt_e, oc_s, oc_n, ob_s, ob2_s, gb_b1, gb_0, gb_1, gw0, gw1, Bool.false_eq_true, Bool.true_eq_false, if_true, if_false, not_true_eq_false, not_false_eq_true, d10, r1, r2, c1, c3, g1, g2, i10, F_X2_add, e1, (show tL _ 2200 0 = 10 from hL 2200 rfl), q1]) (by simp only [F_X13_candidate, in_eq, decide_eq_true h1, decide_eq_true h2, nxt_e, oc_s, oc_n, ob_s, ob2_s, gb_b1, gb_0, gb_1, gw0, gw1, Bool.false_eq_true, Bool.true_eq_false, if_true, if_false, not_true_eq_false, not_false_eq_true, d10, r1, r2, c1, c3, g1, g2, e2, q2])
  · have hn2 : ¬ nt n = 10 := fun q => by rw [show (10 : Int32) = nt 10 from rfl, eq_nt (by omega) (by omega)] at q; exact hn10 q
    have hn3 : nt n < Int32.ofNat 10 := (nt_lt (b := 10) (by omega) (by omega)).mpr (by omega)
    refine ⟨nt (n + 1), uI (uA (uA (uA (uA t 2200 0 n (nt (a / 100))) 2202 0 n (nt (a / 10 % 10))) 2203 0 n (nt (a % 10))) 2201 0 n (nt w)) 204 0 (nt (n + 1)), uI (uA (uA (uA (uA (uI (uA (uA (uA (uA t 2200 0 n (nt (a / 100))) 2202 0 n (nt (a / 10 % 10))) 2203 0 n (nt (a % 10))) 2201 0 n (nt w)) 204 0 (nt (n + 1))) 3382 0 n (nt (a / 100))) 3383 0 n (nt (a / 10 % 10))) 3384 0 n (nt (a % 10))) 3385 0 n (nt w)) 1381 0 (nt (n + 1)), ?_, ?_, ⟨n + 1, by omega, ?_, ?_, fun i hi => ?_⟩, ?_⟩
    · simp (disch := omega) only [F_X12_candidate, B_X12_candidate_35, win_eq, decide_eq_true h1, decide_eq_true h2, nxt_e, oc_s, oc_n, ob_s, ob2_s, gb_b1, gb_0, gb_1, gw0, gw1, Bool.false_eq_true, Bool.true_eq_false, if_true, if_false, not_true_eq_false, not_false_eq_true, d10, d100, r1, r2, c1, c3, g1, g2, i10, F_X2_add, e1, (show tL _ 2200 0 = 10 from hL 2200 rfl), (show tL _ 2201 0 = 10 from hL 2201 rfl), (show tL _ 2202 0 = 10 from hL 2202 rfl), (show tL _ 2203 0 = 10 from hL 2203 rfl), hn3, gd_nt, nt_cl, I_uI, I_uI_n, A_uA, A_uA_n, E_uI, R_uI, L_uI, A_uI, J_uI, Q_uI, E_uA, I_uA, R_uA, L_uA, J_uA, Q_uA, m1_s, nt_succ]
    · simp (disch := omega) only [F_X13_candidate, in_eq, decide_eq_true h1, decide_eq_true h2, nxt_e, oc_s, oc_n, ob_s, ob2_s, gb_b1, gb_0, gb_1, gw0, gw1, Bool.false_eq_true, Bool.true_eq_false, if_true, if_false, not_true_eq_false, not_false_eq_true, d10, d100, r1, r2, c1, c3, g1, g2, e2, hn2, (show tL _ 3382 0 = 10 from hL 3382 rfl), (show tL _ 3383 0 = 10 from hL 3383 rfl), (show tL _ 3384 0 = 10 from hL 3384 rfl), (show tL _ 3385 0 = 10 from hL 3385 rfl), gd_nt, nt_cl, I_uI, I_uI_n, A_uA, A_uA_n, E_uI, R_uI, L_uI, A_uI, J_uI, Q_uI, E_uA, I_uA, R_uA, L_uA, J_uA, Q_uA, m1_s, nt_succ]
    · simp (disch := omega) only [I_uI, I_uI_n, A_uA, A_uA_n, E_uI, R_uI, L_uI, A_uI, J_uI, Q_uI, E_uA, I_uA, R_uA, L_uA, J_uA, Q_uA, m1_s]
    · simp (disch := omega) only [I_uI, I_uI_n, A_uA, A_uA_n, E_uI, R_uI, L_uI, A_uI, J_uI, Q_uI, E_uA, I_uA, R_uA, L_uA, J_uA, Q_uA, m1_s]
    · simp (disch := omega) only [I_uI, I_uI_n, A_uA, A_uA_n, E_uI, R_uI, L_uI, A_uI, J_uI, Q_uI, E_uA, I_uA, R_uA, L_uA, J_uA, Q_uA, m1_s]
      by_cases e : i = n
      · subst e
        simp only [m1_s]
        exact ⟨trivial, trivial, trivial, trivial, ⟨a / 100, by omega, rfl⟩, ⟨a / 10 % 10, by omega, rfl⟩, ⟨a % 10, by omega, rfl⟩, w, hw, rfl⟩
      · simp only [m1_n e]
        exact e3 i (by omega)
    · exact frm_tr (frm_uA rfl) (frm_tr (frm_uA rfl) (frm_tr (frm_uA rfl) (frm_tr (frm_uA rfl) (frm_tr (frm_uI rfl) (frm_tr (frm_uA rfl) (frm_tr (frm_uA rfl) (frm_tr (frm_uA rfl) (frm_tr (frm_uA rfl) (frm_uI rfl)))))))))
end
