/-! PART d6: why. -/
section
variable {t : TS} {nB nS nM nR : Nat}
theorem m_why (x1 x2 x3 : Int32) (hL : Ilen t) (hT : Itime t) (hG : Ileag t) (hR : Iterm t) (hB : Ibody nB t) (hC : Icoin nB t) (hI : Iinc nB t) (hS : Ispan nB nS nM t) (hM : Imove nB nS nM t) (hH : Irh nR t) (hU : Irule nR t) : Eqm (F_X12_why t x1 x2 x3) (fun t => F_X13_why t x1 x2 x3) (fun t2 => frm scr t t2) := by
  have hT0 := hT
  obtain ⟨d, mi, hd, hmi, e1, e2, e3, e4⟩ := hT
  have h150 := hB.1
  have h600 := hS.1
  have hbad : ∀ r, F_X12_why t x1 x2 x3 = some (r, t) → F_X13_why t x1 x2 x3 = some (r, t) → Eqm (F_X12_why t x1 x2 x3) (fun t => F_X13_why t x1 x2 x3) (fun t2 => frm scr t t2) := fun r h1 h2 => ⟨r, t, t, h1, h2, frm_rf⟩
  cases hx : six isPl t nB x1 with
  | none =>
    cases hy : six isCl t nB x2 with
    | none => exact hbad (-1) (by simp only [F_X12_why, playerAt_eq hL hB, clubAt_eq hL hB, hx, hy, nxt_e, oc_s, oc_n, ob_s, ob2_s, gb_b1, gb_0, gb_1, gw0, gw1, Bool.false_eq_true, Bool.true_eq_false, if_true, if_false, not_true_eq_false, not_false_eq_true]) (by simp only [F_X13_why, isPlayer_eq hL hB, hx, isS_n, nxt_e, oc_s, oc_n, ob_s, ob2_s, gb_b1, gb_0, gb_1, gw0, gw1, Bool.false_eq_true, Bool.true_eq_false, if_true, if_false, not_true_eq_false, not_false_eq_true])
    | some c => exact hbad (-1) (by simp only [F_X12_why, playerAt_eq hL hB, clubAt_eq hL hB, hx, hy, nxt_e, oc_s, oc_n, ob_s, ob2_s, gb_b1, gb_0, gb_1, gw0, gw1, Bool.false_eq_true, Bool.true_eq_false, if_true, if_false, not_true_eq_false, not_false_eq_true]) (by simp only [F_X13_why, isPlayer_eq hL hB, hx, isS_n, nxt_e, oc_s, oc_n, ob_s, ob2_s, gb_b1, gb_0, gb_1, gw0, gw1, Bool.false_eq_true, Bool.true_eq_false, if_true, if_false, not_true_eq_false, not_false_eq_true])
  | some p =>
  obtain ⟨hp, rfl, hpp⟩ := six_some hx
  cases hy : six isCl t nB x2 with
  | none => exact hbad (-1) (by simp only [F_X12_why, playerAt_eq hL hB, clubAt_eq hL hB, hx, hy, nxt_e, oc_s, oc_n, ob_s, ob2_s, gb_b1, gb_0, gb_1, gw0, gw1, Bool.false_eq_true, Bool.true_eq_false, if_true, if_false, not_true_eq_false, not_false_eq_true]) (by simp only [F_X13_why, isPlayer_eq hL hB, isClub_eq hL hB, hx, hy, isS_n, isS_s, nxt_e, oc_s, oc_n, ob_s, ob2_s, gb_b1, gb_0, gb_1, gw0, gw1, Bool.false_eq_true, Bool.true_eq_false, if_true, if_false, not_true_eq_false, not_false_eq_true])
  | some c =>
  obtain ⟨hc, rfl, hcc⟩ := six_some hy
  by_cases h3 : 0 ≤ x3 ∧ x3 ≤ 1
  case neg => exact hbad (-1) (by simp only [F_X12_why, playerAt_eq hL hB, clubAt_eq hL hB, hx, hy, win_eq, decide_eq_false h3, nxt_e, oc_s, oc_n, ob_s, ob2_s, gb_b1, gb_0, gb_1, gw0, gw1, Bool.false_eq_true, Bool.true_eq_false, if_true, if_false, not_true_eq_false, not_false_eq_true]) (by simp only [F_X13_why, isPlayer_eq hL hB, isClub_eq hL hB, hx, hy, isS_s, in_eq, decide_eq_false h3, nxt_e, oc_s, oc_n, ob_s, ob2_s, gb_b1, gb_0, gb_1, gw0, gw1, Bool.false_eq_true, Bool.true_eq_false, if_true, if_false, not_true_eq_false, not_false_eq_true])
  obtain ⟨how, hhow, rfl⟩ := nt_exb (b := 1) h3.1 (by omega) h3.2
  obtain ⟨fee, hfee⟩ : ∃ fee, fee = tA t 3349 0 0 := ⟨_, rfl⟩
  have ef : tA t 3208 0 0 = fee := by rw [hfee]; exact (hR 0 (by omega)).1
  have ch0 : (¬ nt how = 0) = ¬ how = 0 := congrArg Not (eq_nt (n := 0) (by omega) (by omega))
  have ch1 : (¬ nt how = 1) = ¬ how = 1 := congrArg Not (eq_nt (n := 1) (by omega) (by omega))
  have hz0 : (0 : Int32).toNatClampNeg = 0 := rfl
  have gd0 : ∀ k : Option (Int32 × TS), gd (0 : Int32) 9 k = k := fun _ => rfl
  have hcl : F_X12_why t (nt p) (nt c) (nt how) = ob2 (F_X12_whyNot t (some p) (some c) fee (nt how)) (fun x22 t23 => some (x22, t23)) := by
    simp only [F_X12_why, playerAt_eq hL hB, clubAt_eq hL hB, hx, hy, win_eq, decide_eq_true h3, nxt_e, oc_s, oc_n, ob_s, ob2_s, gb_b1, gb_0, gb_1, gw0, gw1, Bool.false_eq_true, Bool.true_eq_false, if_true, if_false, not_true_eq_false, not_false_eq_true, (show tL _ 3208 0 = 9 from hL 3208 rfl), gd0, hz0, ef]
    unfold B_X12_why_55
    rw [ifP ch0]
    by_cases e : how = 0
    · rw [if_neg (fun q => q e), e]; rfl
    · have e' : how = 1 := by omega
      rw [if_pos e, e']; rfl
  have hmo : ∀ s, frm scr t s → F_X13_why s (nt p) (nt c) (nt how) = Option.bind (F_X13_ownerOn s (nt p) (tI s 1301 0)) (fun r24 => (if 0 ≤ r24 then ob2 (F_X13_whyNot s (nt p) (nt c) (b1 (decide (how = 1))) fee 1 6) (fun x22 t23 => some (x22, t23)) else some (-2, s))) := fun s hs => by
    have hLs := Ilen_f hs hL
    have hBs := Mbody_f hs (by decide) (IbM hB)
    have hx1 : six isPl s nB (nt p) = some p := by unfold six; rw [(hs.1 3308 rfl).2.2.2.2.1]; exact hx
    have hy1 : six isCl s nB (nt c) = some c := by unfold six; rw [(hs.1 3308 rfl).2.2.2.2.1]; exact hy
    have ef2 : tA s 3349 0 0 = fee := by rw [(hs.1 3349 rfl).2.2.2.2.1, hfee]
    have h57 : ∀ z, B_X13_why_57 s z (nt c) (nt p) = ob2 (F_X13_whyNot s (nt p) (nt c) z fee 1 6) (fun x22 t23 => some (x22, t23)) := fun z => by
      unfold B_X13_why_57
      rw [(show tL _ 3349 0 = 9 from hLs 3349 rfl), gd0, hz0, ef2]
    simp only [F_X13_why, isPlayer_eqM hLs hBs, isClub_eqM hLs hBs, hx1, hy1, isS_s, in_eq, decide_eq_true h3, nxt_e, oc_s, oc_n, ob_s, ob2_s, gb_b1, gb_0, gb_1, gw0, gw1, Bool.false_eq_true, Bool.true_eq_false, if_true, if_false, not_true_eq_false, not_false_eq_true, h57]
    congr 1
    funext r24
    by_cases g : 0 ≤ r24
    · rw [if_pos g, if_pos g, ifP ch1]
      by_cases e : how = 1
      · rw [if_neg (fun q => q e), decide_eq_true e]; rfl
      · rw [if_pos e, decide_eq_false e]; rfl
    · rw [if_neg g, if_neg g]
  cases ho : own t nS p (nt d) with
  | none =>
    refine hbad (-2) ?_ ?_
    · rw [hcl]
      unfold F_X12_whyNot
      rw [oc_s, e1, X1_owning_eq hS hp, ob_s, ho, oc_n, ob2_s]
    · rw [hmo t frm_rf, e2, ownerOn_eq hL hS, ob_s, ho, oel_n, if_neg (by decide)]
  | some so =>
    obtain ⟨x, t1, a1, a2, -, a4⟩ := whyNot_both (how := how) hL hT0 e1 hG hB hC hI hS hM hH hU hp hc hcc ho fee (by omega)
    obtain ⟨t2, b1_, b2⟩ := a4 t1 a2
    rw [if_neg (show ¬ how = 2 by omega), if_neg (show ¬ how = 2 by omega)] at b1_
    obtain ⟨co, hco, -, -, hco2⟩ := sp_club h150 hS (own_lt ho).1
    refine ⟨x, t1, t2, by rw [hcl, a1, ob2_s], ?_, frm_tr a2 b2⟩
    show F_X13_why t1 (nt p) (nt c) (nt how) = _
    rw [hmo t1 a2, (a2.1 1301 rfl).2.1, e2, ownerOn_eqM (Ilen_f a2 hL) (Mspan_f a2 (by decide) (IsM hS)), own_f a2 (by decide), ho, oel_s, ob_s, (a2.1 3318 rfl).2.2.2.2.1, hco2, if_pos (nt_nn (by omega)), b1_, ob2_s]
end
