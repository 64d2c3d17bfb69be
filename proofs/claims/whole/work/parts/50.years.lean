/-! PART 50: sums over three years. -/
section
variable {t : TS} {nB nS nM c d : Nat}
theorem y_c : ∀ Y, Y < 10 → (if (0 : Int32) < nt Y - 2 then nt Y - 2 else 0) = nt (Y - 2) := by decide
theorem y_m : ∀ Y, Y < 10 → (if (2 : Int32) ≤ nt Y then nt Y - 2 else 0) = nt (Y - 2) := by decide
theorem year_eq (hd : d ≤ 2999) : nt d / 300 = nt (d / 300) := nt_div (b := 300) (by omega) (by omega)
theorem X12_year_eq (hd : d ≤ 2999) (hday : tI t 1200 0 = nt d) : F_X12_year t = some (nt (d / 300)) := by
  unfold F_X12_year
  rw [hday, year_eq hd]
def cap3 (t : TS) (nB nS nM c d : Nat) (j : Nat) : Int32 := wg t nB nS c (nt d) + sumI (capf t c (d / 300 - 2 + j)) nM
def inc3 (t : TS) (c d : Nat) (j : Nat) : Int32 := tA t 3311 0 (10 * c + (d / 300 - 2 + j))
theorem X12_caps_eq (hL : Ilen t) (hB : Ibody nB t) (hS : Ispan nB nS nM t) (hM : Imove nB nS nM t) (hc : c < nB) (hd : d ≤ 2999) (hday : tI t 1200 0 = nt d) : F_X12_threeYearsCaps t (some c) = some (sumI (cap3 t nB nS nM c d) (d / 300 + 1 - (d / 300 - 2))) := by
  have hnB := hB.1
  have h9 : d / 300 ≤ 9 := by omega
  unfold F_X12_threeYearsCaps
  rw [X12_wages_eq hL hB hS hc, ob_s, X12_year_eq hd hday, ob_s, y_c _ (by omega), hday]
  obtain ⟨N, hN⟩ : ∃ N : Nat, N = 10000 := ⟨_, rfl⟩
  rw [← hN]
  refine loop_wh (B := fun fu (k : Nat) => B_X12_threeYearsCaps_20 fu t (some c) (sumI (cap3 t nB nS nM c d) k) (wg t nB nS c (nt d)) (nt (d / 300 - 2 + k))) (mu := fun k => 10 - k) (G := fun o => o = some (sumI (cap3 t nB nS nM c d) (d / 300 + 1 - (d / 300 - 2)))) (P := fun k => k ≤ d / 300 + 1 - (d / 300 - 2)) ?_ N 0 (Nat.zero_le _) (by omega)
  intro fu k hk
  show BB_X12_threeYearsCaps_20 (B_X12_threeYearsCaps_20 fu) t _ _ _ _ = _ ∨ ∃ a', BB_X12_threeYearsCaps_20 (B_X12_threeYearsCaps_20 fu) t _ _ _ _ = _ ∧ _
  unfold BB_X12_threeYearsCaps_20
  rw [X12_year_eq hd hday, ob_s, ilT (by omega) (by omega)]
  by_cases e : k = d / 300 + 1 - (d / 300 - 2)
  · left
    rw [if_pos (by omega), ← e]
  · right
    refine ⟨k + 1, ?_, by omega, by omega⟩
    rw [if_neg (by omega), X12_spreadTo_eq hL hnB hM hS hc (by omega), ob_s, nt_succ]
    rfl
theorem X12_incs_eq (hL : Ilen t) (hB : Ibody nB t) (hI : Iinc nB t) (hc : c < nB) (hcl : isCl (tA t 3308 0 c) = true) (hd : d ≤ 2999) (hday : tI t 1200 0 = nt d) : F_X12_threeYearsIncome t (some c) = some (sumI (inc3 t c d) (d / 300 + 1 - (d / 300 - 2))) := by
  have hnB := hB.1
  have h9 : d / 300 ≤ 9 := by omega
  obtain ⟨q1, q2, q3⟩ := hI.1 c hc hcl
  unfold F_X12_threeYearsIncome
  rw [X12_year_eq hd hday, ob_s, y_c _ (by omega)]
  obtain ⟨N, hN⟩ : ∃ N : Nat, N = 10000 := ⟨_, rfl⟩
  rw [← hN]
  refine loop_wh (B := fun fu (k : Nat) => B_X12_threeYearsIncome_13 fu t (some c) (sumI (inc3 t c d) k) (nt (d / 300 - 2 + k))) (mu := fun k => 10 - k) (G := fun o => o = some (sumI (inc3 t c d) (d / 300 + 1 - (d / 300 - 2)))) (P := fun k => k ≤ d / 300 + 1 - (d / 300 - 2)) ?_ N 0 (Nat.zero_le _) (by omega)
  intro fu k hk
  show BB_X12_threeYearsIncome_13 (B_X12_threeYearsIncome_13 fu) t _ _ _ = _ ∨ ∃ a', BB_X12_threeYearsIncome_13 (B_X12_threeYearsIncome_13 fu) t _ _ _ = _ ∧ _
  unfold BB_X12_threeYearsIncome_13
  rw [X12_year_eq hd hday, ob_s, ilT (by omega) (by omega)]
  by_cases e : k = d / 300 + 1 - (d / 300 - 2)
  · left
    rw [if_pos (by omega), ← e]
  · right
    refine ⟨k + 1, ?_, by omega, by omega⟩
    rw [if_neg (by omega), show (10 : Int32) = nt 10 from rfl, igE (by omega) (by omega), if_neg (by omega), oc_s, nxt_e, q1, oc_s, q2, gd_nt _ (by omega) (by omega), nt_cl (by omega), nt_succ, q3 _ (by omega)]
    rfl
theorem X13_three_eqM (hL : Ilen t) (hB : Mbody nB t) (hS : Mspan nB nS t) (hM : Mmove nB nS nM t) (hc : c < nB) (hd : d ≤ 2999) (hday : tI t 1301 0 = nt d) (b : Bool) : F_X13_threeYears t (nt c) (b1 b) = some (if b then sumI (cap3 t nB nS nM c d) (d / 300 + 1 - (d / 300 - 2)) else sumI (inc3 t c d) (d / 300 + 1 - (d / 300 - 2))) := by
  have hnB := hB.1
  have h9 : d / 300 ≤ 9 := by omega
  unfold F_X13_threeYears B_X13_threeYears_26
  rw [hday, year_eq hd]
  have e0 : (if (2 : Int32) ≤ nt (d / 300) then B_X13_threeYears_28 10000 t (nt c) (b1 b) 0 (nt (d / 300)) (nt (d / 300) - 2) else B_X13_threeYears_28 10000 t (nt c) (b1 b) 0 (nt (d / 300)) 0) = B_X13_threeYears_28 10000 t (nt c) (b1 b) 0 (nt (d / 300)) (nt (d / 300 - 2)) := by
    rw [← y_m _ (show d / 300 < 10 by omega)]
    split <;> rfl
  rw [e0]
  obtain ⟨N, hN⟩ : ∃ N : Nat, N = 10000 := ⟨_, rfl⟩
  rw [← hN]
  have h := loop_wh (B := fun fu (k : Nat) => B_X13_threeYears_28 fu t (nt c) (b1 b) (if b then sumI (cap3 t nB nS nM c d) k else sumI (inc3 t c d) k) (nt (d / 300)) (nt (d / 300 - 2 + k))) (mu := fun k => 10 - k) (G := fun o => o = some (if b then sumI (cap3 t nB nS nM c d) (d / 300 + 1 - (d / 300 - 2)) else sumI (inc3 t c d) (d / 300 + 1 - (d / 300 - 2)))) (P := fun k => k ≤ d / 300 + 1 - (d / 300 - 2)) ?_ N 0 (Nat.zero_le _) (by omega)
  · cases b <;> exact h
  · intro fu k hk
    show BB_X13_threeYears_28 (B_X13_threeYears_28 fu) t _ _ _ _ _ = _ ∨ ∃ a', BB_X13_threeYears_28 (B_X13_threeYears_28 fu) t _ _ _ _ _ = _ ∧ _
    unfold BB_X13_threeYears_28 B_X13_threeYears_62
    rw [ilT (by omega) (by omega)]
    by_cases e : k = d / 300 + 1 - (d / 300 - 2)
    · left
      rw [if_pos (by omega), ← e]
    · right
      refine ⟨k + 1, ?_, by omega, by omega⟩
      rw [if_neg (by omega), gw0, X13_capOf_eqM hL hB hM hS hc (by omega), ob_s, show (10 : Int32) = nt 10 from rfl, nt_mul, nt_add, (show tL _ 3311 0 = 1500 from hL 3311 rfl), gd_nt _ (by omega) (by omega), nt_cl (by omega), nt_succ, hday]
      cases b <;> rfl
theorem X13_three_eq (hL : Ilen t) (hB : Ibody nB t) (hS : Ispan nB nS nM t) (hM : Imove nB nS nM t) (hc : c < nB) (hd : d ≤ 2999) (hday : tI t 1301 0 = nt d) (b : Bool) : F_X13_threeYears t (nt c) (b1 b) = some (if b then sumI (cap3 t nB nS nM c d) (d / 300 + 1 - (d / 300 - 2)) else sumI (inc3 t c d) (d / 300 + 1 - (d / 300 - 2))) := X13_three_eqM hL (IbM hB) (IsM hS) (ImM hM) hc hd hday b
end
