/-! PART 82: small parts of sales. -/
section
variable {t : TS} {nB nS nM nR p c d : Nat}
def lent (t : TS) (nS p c d : Nat) (loan : Bool) : Bool := oel (hol t nS p (nt d)) false (fun s => decide (tA t 3321 0 s = 2) && (loan || decide (¬ tA t 3318 0 s = nt c)))
theorem lentElse_eq (hB : Ibody nB t) (hS : Ispan nB nS nM t) (hp : p < nB) (hc : c < nB) (hday : tI t 1200 0 = nt d) (x3 : Int32) : F_X12_isLentElsewhere t (some p) (some c) x3 = some (b1 (lent t nS p c d (decide (x3 = 1)))) := by
  have h150 := hB.1
  unfold F_X12_isLentElsewhere B_X12_isLentElsewhere_38 lent
  rw [oc_s, hday, X1_holding_eq hS hp, ob_s]
  cases ho : hol t nS p (nt d) with
  | none => rfl
  | some s =>
    obtain ⟨c', hc', -, c1, c2⟩ := sp_club h150 hS (hol_lt ho)
    obtain ⟨-, -, b3, -⟩ := hS.2.2.2.1 s (hol_lt ho)
    rw [oc_s, oel_s, b3, nxt_e, c1, c2]
    by_cases g1 : tA t 3321 0 s = 2
    · rw [if_neg (fun q => q g1), decide_eq_true g1, Bool.true_and]
      by_cases g2 : x3 = 1
      · rw [if_pos g2, decide_eq_true g2, Bool.true_or]; rfl
      · rw [if_neg g2, decide_eq_false g2, Bool.false_or]
        by_cases g3 : c' = c
        · rw [if_pos (congrArg some g3), g3, decide_eq_false (fun q => q rfl)]; rfl
        · rw [if_neg (fun q => g3 (Option.some.inj q)), decide_eq_true (p := ¬ nt c' = nt c) (fun q => g3 (by rw [eq_nt (by omega) (by omega)] at q; exact q))]; rfl
    · rw [if_pos g1, decide_eq_false g1, Bool.false_and]; rfl
theorem ruleToday_eq {l : Nat} (hL : Ilen t) (hB : Ibody nB t) (hR : Irh nR t) (hc : c < nB) (hday : tI t 1200 0 = nt d) (hlg : tA t 3309 0 c = nt l) (u : Int32) : F_X12_ruleToday t u (some c) = some (lastP (rf t (10 * nt l + u) (nt d) (nt d)) nR) := by
  have h16 := hR.1
  obtain ⟨-, -, -, -, q5, -⟩ := hB.2.2.2.1 c hc
  unfold F_X12_ruleToday
  rw [oc_s, q5, hlg, hday, ruleInForce_eq hL hR, ob_s]
  cases ho : lastP (rf t (10 * nt l + u) (nt d) (nt d)) nR with
  | none => rfl
  | some r =>
    have hr := (lastP_lt ho).1
    rw [oel_s, if_pos (nt_nn (by omega)), (show tL _ 3211 0 = 16 from hL 3211 rfl), gd_nt _ (by omega) (by omega), nt_cl (by omega), nxt_e, (hR.2.2.2 r hr).1]
theorem full_eq (hS : Ispan nB nS nM t) (hM : Imove nB nS nM t) : F_X12_movesOrSpansAreFull t = some (b1 (decide (nM = 200) || decide (nS = 600))) := by
  have h200 := hM.1
  have h600 := hS.1
  unfold F_X12_movesOrSpansAreFull B_X12_movesOrSpansAreFull_20
  rw [hM.2.1, hS.2.1, show (200 : Int32) = nt 200 from rfl, show (600 : Int32) = nt 600 from rfl, igE (by omega) (by omega), ilT (by omega) (by omega)]
  by_cases g : 200 ≤ nM
  · rw [if_pos g, decide_eq_true (show nM = 200 by omega), Bool.true_or]; rfl
  · rw [if_neg g, decide_eq_false (show ¬ nM = 200 by omega), Bool.false_or]
    by_cases g2 : nS < 600
    · rw [if_pos g2, decide_eq_false (show ¬ nS = 600 by omega)]; rfl
    · rw [if_neg g2, decide_eq_true (show nS = 600 by omega)]; rfl
end
