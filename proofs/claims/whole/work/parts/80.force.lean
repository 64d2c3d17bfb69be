/-! PART 80: which rule is in force. -/
section
variable {t : TS} {nR : Nat}
/-- the heads of the rules -/
def Irh (nR : Nat) (t : TS) : Prop := nR ≤ 16 ∧ tI t 1212 0 = nt nR ∧ tI t 1355 0 = nt nR ∧ ∀ r, r < nR → tQ t 3211 0 r = some r ∧ tI t 900 r = tA t 3356 0 r ∧ tI t 901 r = tA t 3357 0 r ∧ tI t 902 r = tA t 3358 0 r
def kRh : List Nat := [1212, 1355, 3211, 900, 901, 902, 3356, 3357, 3358]
theorem Irh_f {D : Nat → Bool} {t t' : TS} (h : frm D t t') (hd : ∀ k, k ∈ kRh → D k = false) (hI : Irh nR t) : Irh nR t' := by
  unfold Irh at hI ⊢
  simp only [(h.1 1212 (hd 1212 (by decide))).2.1, (h.1 1355 (hd 1355 (by decide))).2.1, (h.1 3211 (hd 3211 (by decide))).2.2.2.2.2.2, (h.1 900 (hd 900 (by decide))).2.1, (h.1 901 (hd 901 (by decide))).2.1, (h.1 902 (hd 902 (by decide))).2.1, (h.1 3356 (hd 3356 (by decide))).2.2.2.2.1, (h.1 3357 (hd 3357 (by decide))).2.2.2.2.1, (h.1 3358 (hd 3358 (by decide))).2.2.2.2.1]
  exact hI
def Mrh (nR : Nat) (t : TS) : Prop := nR ≤ 16 ∧ tI t 1355 0 = nt nR
theorem IrM (h : Irh nR t) : Mrh nR t := ⟨h.1, h.2.2.1⟩
def rf (t : TS) (v d k : Int32) (r : Nat) : Bool := decide (tA t 3356 0 r = v) && (decide (tA t 3357 0 r ≤ k) && decide (tA t 3358 0 r ≤ d))
theorem rf_f {D : Nat → Bool} {t t' : TS} {v d k : Int32} (h : frm D t t') (hd : ∀ k, k ∈ [3356, 3357, 3358] → D k = false) : rf t' v d k = rf t v d k := by
  funext r
  unfold rf
  simp only [(h.1 3356 (hd 3356 (by decide))).2.2.2.2.1, (h.1 3357 (hd 3357 (by decide))).2.2.2.2.1, (h.1 3358 (hd 3358 (by decide))).2.2.2.2.1]
theorem ruleInForce_eq (hL : Ilen t) (h : Irh nR t) (v d k : Int32) : F_X12_ruleInForce t v d k = some (oel (lastP (rf t v d k) nR) (-2) nt) := by
  have h16 := h.1
  unfold F_X12_ruleInForce
  rw [h.2.1]
  refine (loop_last (n := nR) (B := fun fu x => B_X12_ruleInForce_8 fu t v d k x) (p := rf t v d k) (r0 := some (-2)) (r1 := fun r => some (nt r)) (fun fu => rfl) (fun fu r hr => ?_) nR 10000 (Nat.le_refl _) (by omega)).trans ?_
  · show BB_X12_ruleInForce_8 (B_X12_ruleInForce_8 fu) t v d k (nt r) = _
    obtain ⟨q1, q2, q3, q4⟩ := h.2.2.2 r hr
    unfold BB_X12_ruleInForce_8 B_X12_ruleInForce_58 rf
    rw [if_neg (nt_neg (by omega)), (show tL _ 3211 0 = 16 from hL 3211 rfl)]
    simp (disch := omega) only [gd_nt, nt_cl, nxt_e, oc_s, oc_n, ob_s, ob2_s, gb_b1, gb_0, gb_1, gw0, gw1, q1, q2, q3, q4]
    rw [show nt r + (-1) = nt r - 1 by rw [Int32.sub_eq_add_neg]]
    by_cases g1 : tA t 3356 0 r = v
    · rw [if_neg (fun q => q g1), decide_eq_true g1, Bool.true_and]
      by_cases g2 : k < tA t 3357 0 r
      · rw [if_pos g2, decide_eq_false (Int32.not_le.mpr g2), Bool.false_and, if_neg (by decide)]
      · rw [if_neg g2, decide_eq_true (Int32.not_lt.mp g2), Bool.true_and]
        by_cases g3 : d < tA t 3358 0 r
        · rw [if_pos g3, decide_eq_false (Int32.not_le.mpr g3), if_neg (by decide)]
        · rw [if_neg g3, decide_eq_true (Int32.not_lt.mp g3), if_pos rfl]
    · rw [if_pos g1, decide_eq_false g1, Bool.false_and, if_neg (by decide)]
  · cases lastP (rf t v d k) nR <;> rfl
theorem forceOf_eqM (hL : Ilen t) (h : Mrh nR t) (v d k : Int32) : F_X13_forceOf t v d k = some (oel (lastP (rf t v d k) nR) (-2) nt) := by
  have h16 := h.1
  unfold F_X13_forceOf
  rw [h.2]
  refine (loop_last (n := nR) (B := fun fu x => B_X13_forceOf_8 fu t v d k x) (p := rf t v d k) (r0 := some (-2)) (r1 := fun r => some (nt r)) (fun fu => rfl) (fun fu r hr => ?_) nR 10000 (Nat.le_refl _) (by omega)).trans ?_
  · show BB_X13_forceOf_8 (B_X13_forceOf_8 fu) t v d k (nt r) = _
    unfold BB_X13_forceOf_8 B_X13_forceOf_49 rf
    rw [if_neg (nt_neg (by omega)), (show tL _ 3356 0 = 16 from hL 3356 rfl), (show tL _ 3357 0 = 16 from hL 3357 rfl), (show tL _ 3358 0 = 16 from hL 3358 rfl)]
    simp (disch := omega) only [gd_nt, nt_cl]
    rw [show nt r + (-1) = nt r - 1 by rw [Int32.sub_eq_add_neg]]
    by_cases g1 : tA t 3356 0 r = v
    · rw [if_neg (fun q => q g1), decide_eq_true g1, Bool.true_and]
      by_cases g2 : k < tA t 3357 0 r
      · rw [if_pos g2, decide_eq_false (Int32.not_le.mpr g2), Bool.false_and, if_neg (by decide)]
      · rw [if_neg g2, decide_eq_true (Int32.not_lt.mp g2), Bool.true_and]
        by_cases g3 : d < tA t 3358 0 r
        · rw [if_pos g3, decide_eq_false (Int32.not_le.mpr g3), if_neg (by decide)]
        · rw [if_neg g3, decide_eq_true (Int32.not_lt.mp g3), if_pos rfl]
    · rw [if_pos g1, decide_eq_false g1, Bool.false_and, if_neg (by decide)]
  · cases lastP (rf t v d k) nR <;> rfl
theorem lau_eq (v : Int32) : F_X12_isLeagueAndUse t v = some (b1 (decide (0 ≤ v ∧ v ≤ 32) && decide (irm v 10 ≤ 2))) := by
  unfold F_X12_isLeagueAndUse
  rw [win_eq, ob_s, gw0]
  by_cases h : 0 ≤ v ∧ v ≤ 32
  · rw [decide_eq_true h, if_pos rfl, Bool.true_and]
    by_cases g : 2 < irm v 10
    · rw [if_pos g, decide_eq_false (Int32.not_le.mpr g)]; rfl
    · rw [if_neg g, decide_eq_true (Int32.not_lt.mp g)]; rfl
  · rw [decide_eq_false h, if_neg (by decide), Bool.false_and]; rfl
theorem m_inForce (x1 x2 x3 : Int32) (hL : Ilen t) (h : Irh nR t) : ∃ r, F_X12_inForce t x1 x2 x3 = some r ∧ F_X13_inForce t x1 x2 x3 = some r := by
  unfold F_X12_inForce F_X13_inForce
  rw [lau_eq, in_eq, ruleInForce_eq hL h, forceOf_eqM hL (IrM h), win_eq, win_eq, isDay_eq, isDay_eq]
  simp only [ob_s, gw0, gw1]
  by_cases h1 : 0 ≤ x1 ∧ x1 ≤ 32
  case neg => exact ⟨-1, by rw [decide_eq_false h1, Bool.false_and, if_neg (by decide)], by rw [decide_eq_false h1, if_neg (by decide)]⟩
  rw [decide_eq_true h1, Bool.true_and]
  by_cases h2 : 2 < irm x1 10
  · exact ⟨-1, by rw [decide_eq_false (Int32.not_le.mpr h2), if_neg (by decide)], by rw [if_pos rfl, if_pos h2]⟩
  rw [decide_eq_true (Int32.not_lt.mp h2), if_pos rfl, if_pos rfl, if_neg h2]
  by_cases h3 : 0 ≤ x2 ∧ x2 ≤ 2999
  case neg => exact ⟨-1, by rw [decide_eq_false h3, if_neg (by decide)], by rw [decide_eq_false h3, if_neg (by decide)]⟩
  rw [decide_eq_true h3, if_pos rfl]
  by_cases h4 : 0 ≤ x3 ∧ x3 ≤ 2999
  case neg => exact ⟨-1, by rw [decide_eq_false h4, if_neg (by decide)], by rw [decide_eq_false h4, if_neg (by decide)]⟩
  rw [decide_eq_true h4, if_pos rfl]
  exact ⟨_, rfl, rfl⟩
end
