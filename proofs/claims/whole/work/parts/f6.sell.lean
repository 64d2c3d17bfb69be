/-! PART f6: sell. -/
section
variable {t : TS} {nB nS nM nR : Nat}
def sellT (t26 : TS) (x1 x2 : Int32) : Option (Int32 × TS) := (gd (0 : Int32) (tL t26 3349 0) (gd (4 : Int32) (tL t26 3349 0) (gd (5 : Int32) (tL t26 3349 0) (gd (6 : Int32) (tL t26 3349 0) (ob2 (F_X13_sale t26 x1 x2 (tA t26 3349 0 (0 : Int32).toNatClampNeg) (tA t26 3349 0 (4 : Int32).toNatClampNeg) (tA t26 3349 0 (5 : Int32).toNatClampNeg) (tA t26 3349 0 (6 : Int32).toNatClampNeg)) (fun x28 t29 => (some (x28, t29))))))))
theorem sellT_eq {s : TS} (hL : Ilen s) (x1 x2 : Int32) : sellT s x1 x2 = ob2 (F_X13_sale s x1 x2 (tA s 3349 0 0) (tA s 3349 0 4) (tA s 3349 0 5) (tA s 3349 0 6)) (fun x28 t29 => (some (x28, t29))) := by
  unfold sellT
  rw [(show tL _ 3349 0 = 9 from hL 3349 rfl)]
  rfl
theorem m_sell (x1 x2 : Int32) (hL : Ilen t) (hT : Itime t) (hG : Ileag t) (hR : Iterm t) (hA : Iall nB nS nM t) (hb : Icb nB nM t) (hH : Irh nR t) (hU : Irule nR t) : Eqm (F_X12_sell t x1 x2) (fun t => F_X13_sell t x1 x2) (fun t2 => (∃ nS' nM', Iall nB nS' nM' t2 ∧ Icb nB nM' t2) ∧ frm kMk t t2) := by
  have hT0 := hT
  have hA0 := hA
  obtain ⟨hB, hC, hI, hMt, hLk, hS, hM⟩ := hA
  obtain ⟨d, mi, hd, hmi, e1, e2, e3, e4⟩ := hT
  have h150 := hB.1
  have h600 := hS.1
  have h200 := hM.1
  have hbad : ∀ r, F_X12_sell t x1 x2 = some (r, t) → F_X13_sell t x1 x2 = some (r, t) → Eqm (F_X12_sell t x1 x2) (fun t => F_X13_sell t x1 x2) (fun t2 => (∃ nS' nM', Iall nB nS' nM' t2 ∧ Icb nB nM' t2) ∧ frm kMk t t2) := fun r h1 h2 => ⟨r, t, t, h1, h2, ⟨nS, nM, hA0, hb⟩, frm_rf⟩
  cases hx : six isPl t nB x1 with
  | none =>
    cases hy : six isCl t nB x2 with
    | none => exact hbad (-1) (by simp only [F_X12_sell, playerAt_eq hL hB, clubAt_eq hL hB, hx, hy, nxt_e, oc_s, oc_n, ob_s, ob2_s, gb_b1, gb_0, gb_1, gw0, gw1, Bool.false_eq_true, Bool.true_eq_false, if_true, if_false, not_true_eq_false, not_false_eq_true]) (by simp only [F_X13_sell, isPlayer_eq hL hB, hx, isS_n, nxt_e, oc_s, oc_n, ob_s, ob2_s, gb_b1, gb_0, gb_1, gw0, gw1, Bool.false_eq_true, Bool.true_eq_false, if_true, if_false, not_true_eq_false, not_false_eq_true])
    | some c => exact hbad (-1) (by simp only [F_X12_sell, playerAt_eq hL hB, clubAt_eq hL hB, hx, hy, nxt_e, oc_s, oc_n, ob_s, ob2_s, gb_b1, gb_0, gb_1, gw0, gw1, Bool.false_eq_true, Bool.true_eq_false, if_true, if_false, not_true_eq_false, not_false_eq_true]) (by simp only [F_X13_sell, isPlayer_eq hL hB, hx, isS_n, nxt_e, oc_s, oc_n, ob_s, ob2_s, gb_b1, gb_0, gb_1, gw0, gw1, Bool.false_eq_true, Bool.true_eq_false, if_true, if_false, not_true_eq_false, not_false_eq_true])
  | some p =>
  obtain ⟨hp, rfl, hpp⟩ := six_some hx
  cases hy : six isCl t nB x2 with
  | none => exact hbad (-1) (by simp only [F_X12_sell, playerAt_eq hL hB, clubAt_eq hL hB, hx, hy, nxt_e, oc_s, oc_n, ob_s, ob2_s, gb_b1, gb_0, gb_1, gw0, gw1, Bool.false_eq_true, Bool.true_eq_false, if_true, if_false, not_true_eq_false, not_false_eq_true]) (by simp only [F_X13_sell, isPlayer_eq hL hB, isClub_eq hL hB, hx, hy, isS_n, isS_s, nxt_e, oc_s, oc_n, ob_s, ob2_s, gb_b1, gb_0, gb_1, gw0, gw1, Bool.false_eq_true, Bool.true_eq_false, if_true, if_false, not_true_eq_false, not_false_eq_true])
  | some c =>
  obtain ⟨hc, rfl, hcc⟩ := six_some hy
  have g0 : ∀ k : Option (Int32 × TS), gd (0 : Int32) 9 k = k := fun _ => rfl
  have g7 : ∀ k : Option (Int32 × TS), gd (1 : Int32) 9 k = k := fun _ => rfl
  have z0 : (0 : Int32).toNatClampNeg = 0 := rfl
  have z7 : (1 : Int32).toNatClampNeg = 1 := rfl
  obtain ⟨fee, hfee⟩ : ∃ fee, fee = tA t 3349 0 0 := ⟨_, rfl⟩
  have ef : tA t 3208 0 0 = fee := by rw [hfee]; exact (hR 0 (by omega)).1
  have et : tA t 3208 0 1 = tA t 3349 0 1 := (hR 1 (by omega)).1
  by_cases h7 : nt d ≤ tA t 3349 0 1
  case neg => exact hbad (-1) (by simp only [F_X12_sell, playerAt_eq hL hB, clubAt_eq hL hB, hx, hy, nxt_e, oc_s, oc_n, ob_s, ob2_s, gb_b1, gb_0, gb_1, gw0, gw1, Bool.false_eq_true, Bool.true_eq_false, if_true, if_false, not_true_eq_false, not_false_eq_true, (show tL _ 3208 0 = 9 from hL 3208 rfl), g7, z7, et, e1, if_neg h7]) (by simp only [F_X13_sell, isPlayer_eq hL hB, isClub_eq hL hB, hx, hy, isS_s, nxt_e, oc_s, oc_n, ob_s, ob2_s, gb_b1, gb_0, gb_1, gw0, gw1, Bool.false_eq_true, Bool.true_eq_false, if_true, if_false, not_true_eq_false, not_false_eq_true, (show tL _ 3349 0 = 9 from hL 3349 rfl), g7, z7, e2, if_neg h7])
  have hcl : F_X12_sell t (nt p) (nt c) = ob2 (F_X12_whyNot t (some p) (some c) fee 0) (fun x26 t27 => (if x26 = 0 then (Option.bind (F_X12_movesOrSpansAreFull t27) (fun r28 => (if r28 = 0 then (gd (0 : Int32) (tL t27 3208 0) (ob2 (F_X12_makeSale t27 (some p) (some c) (tA t27 3208 0 (0 : Int32).toNatClampNeg) 0) (fun x30 t31 => (some (x30, t31))))) else (some ((-3), t27))))) else (Option.bind (F_X12_refusal t27 x26) (fun r32 => (some (r32, t27)))))) := by
    simp only [F_X12_sell, playerAt_eq hL hB, clubAt_eq hL hB, hx, hy, nxt_e, oc_s, oc_n, ob_s, ob2_s, gb_b1, gb_0, gb_1, gw0, gw1, Bool.false_eq_true, Bool.true_eq_false, if_true, if_false, not_true_eq_false, not_false_eq_true, (show tL _ 3208 0 = 9 from hL 3208 rfl), g0, z0, g7, z7, et, e1, if_pos h7, ef]
  have hmo : ∀ s, frm kLn t s → F_X13_sell s (nt p) (nt c) = Option.bind (F_X13_ownerOn s (nt p) (tI s 1301 0)) (fun r23 => (if 0 ≤ r23 then (ob2 (F_X13_whyNot s (nt p) (nt c) 0 fee 1 6) (fun x25 t26 => (if x25 ≤ 0 then (if (tI t26 1327 0) = 200 then (some ((-3), t26)) else (if ¬ (tI t26 1316 0) = 600 then sellT t26 (nt p) (nt c) else (some ((-3), t26)))) else (some (((-20) - x25), t26))))) else (some ((-2), s)))) := fun s hs => by
    have hLs := Ilen_f hs hL
    have hBs := Mbody_f hs (by decide) (IbM hB)
    have hx1 : six isPl s nB (nt p) = some p := by unfold six; rw [(hs.1 3308 rfl).2.2.2.2.1]; exact hx
    have hy1 : six isCl s nB (nt c) = some c := by unfold six; rw [(hs.1 3308 rfl).2.2.2.2.1]; exact hy
    have e49 : tA s 3349 = tA t 3349 := (hs.1 3349 rfl).2.2.2.2.1
    have e01 : tI s 1301 0 = nt d := by rw [(hs.1 1301 rfl).2.1, e2]
    simp only [F_X13_sell, isPlayer_eqM hLs hBs, isClub_eqM hLs hBs, hx1, hy1, isS_s, nxt_e, oc_s, oc_n, ob_s, ob2_s, gb_b1, gb_0, gb_1, gw0, gw1, Bool.false_eq_true, Bool.true_eq_false, if_true, if_false, not_true_eq_false, not_false_eq_true, (show tL _ 3349 0 = 9 from hLs 3349 rfl), g0, z0, g7, z7, e49, e01, if_pos h7, ← hfee]
    rfl
  cases ho : own t nS p (nt d) with
  | none =>
    refine hbad (-2) ?_ ?_
    · rw [hcl]
      unfold F_X12_whyNot
      rw [oc_s, e1, X1_owning_eq hS hp, ob_s, ho, oc_n, ob2_s]
      rfl
    · rw [hmo t frm_rf, e2, ownerOn_eq hL hS, ob_s, ho, oel_n, if_neg (by decide)]
  | some so =>
  obtain ⟨x, t1, a1, a2, ⟨k, hk, rfl⟩, a4⟩ := whyNotD (how := 0) (D := kLn) kLn_ask kLn_scr hL hT0 e1 hG hB hC hI hS hM hH hU hp hc hcc ho fee (by omega)
  obtain ⟨co, hco, hcoc, hco1, hco2⟩ := sp_club h150 hS (own_lt ho).1
  have hw : ∀ s, frm kLn t s → ∃ s2, frm scr s s2 ∧ F_X13_sell s (nt p) (nt c) = (if k = 0 then (if nM = 200 then (some ((-3), s2)) else (if nS = 600 then (some ((-3), s2)) else sellT s2 (nt p) (nt c))) else (some (((-20) - nt k), s2))) := fun s hs => by
    obtain ⟨s2, b1_, b2⟩ := a4 s hs
    have eb : b1 (decide ((0 : Nat) = 1)) = 0 := rfl
    rw [eb, if_neg (show ¬ (0 : Nat) = 2 by decide), if_neg (show ¬ (0 : Nat) = 2 by decide)] at b1_
    have e27 : tI s2 1327 0 = nt nM := by rw [(b2.1 1327 rfl).2.1, (hs.1 1327 rfl).2.1]; exact hM.2.2.1
    have e16 : tI s2 1316 0 = nt nS := by rw [(b2.1 1316 rfl).2.1, (hs.1 1316 rfl).2.1]; exact hS.2.2.1
    have q1 : (nt k ≤ 0) = (k = 0) := by
      rw [show (0 : Int32) = nt 0 from rfl, ge_nt (by omega) (by omega)]
      exact propext ⟨fun q => by omega, fun q => by omega⟩
    have q2 : (nt nM = 200) = (nM = 200) := eq_nt (n := 200) (by omega) (by omega)
    have q3 : (nt nS = 600) = (nS = 600) := n600 h600
    refine ⟨s2, b2, ?_⟩
    rw [hmo s hs, (hs.1 1301 rfl).2.1, e2, ownerOn_eqM (Ilen_f hs hL) (Mspan_f hs (by decide) (IsM hS)), own_f hs (by decide), ho, oel_s, ob_s, (hs.1 3318 rfl).2.2.2.2.1, hco2, if_pos (nt_nn (by omega)), b1_, ob2_s, e27, e16, ifP q1, ifP q2]
    by_cases c1 : k = 0
    · rw [if_pos c1, if_pos c1]
      by_cases c2 : nM = 200
      · rw [if_pos c2, if_pos c2]
      · rw [if_neg c2, if_neg c2]
        by_cases c3 : nS = 600
        · rw [if_neg (fun q => q (q3.mpr c3)), if_pos c3]
        · rw [if_pos (fun q => c3 (q3.mp q)), if_neg c3]
    · rw [if_neg c1, if_neg c1]
  have hw1 := hw t1 (frm_sb a2 kLn_scr)
  have hA1 : Iall nB nS nM t1 := ⟨Ibody_f a2 (by decide) hB, Icoin_f a2 (by decide) hC, Iinc_f a2 (by decide) hI, Imat_f a2 (by decide) hMt, Ilack_f a2 (by decide) hLk, Ispan_f a2 (by decide) hS, Imove_f a2 (by decide) hM⟩
  have hb1 : Icb nB nM t1 := Icb_f a2 (by decide) hb
  have hk0 : (nt k = 0) = (k = 0) := eq_nt (n := 0) (by omega) (by omega)
  have a1' : F_X12_whyNot t (some p) (some c) fee 0 = some (nt k, t1) := a1
  rw [hcl, a1', ob2_s, ifP hk0]
  by_cases c1 : k = 0
  case neg =>
    obtain ⟨s2, b2, b3⟩ := hw1
    rw [if_neg c1] at b3
    rw [if_neg c1, refusal_eq hk, ob_s]
    exact ⟨_, t1, s2, rfl, b3, ⟨nS, nM, ⟨Ibody_f b2 (by decide) hA1.1, Icoin_f b2 (by decide) hA1.2.1, Iinc_f b2 (by decide) hA1.2.2.1, Imat_f b2 (by decide) hA1.2.2.2.1, Ilack_f b2 (by decide) hA1.2.2.2.2.1, Ispan_f b2 (by decide) hA1.2.2.2.2.2.1, Imove_f b2 (by decide) hA1.2.2.2.2.2.2⟩, Icb_f b2 (by decide) hb1⟩, frm_sb (frm_tr a2 b2) kMk_scr⟩
  rw [if_pos c1, full_eq hA1.2.2.2.2.2.1 hA1.2.2.2.2.2.2, ob_s, gw0]
  by_cases c2 : nM = 200 ∨ nS = 600
  · obtain ⟨s2, b2, b3⟩ := hw1
    have b4 : F_X13_sell t1 (nt p) (nt c) = some (-3, s2) := by
      rw [b3, if_pos c1]
      by_cases c3 : nM = 200
      · rw [if_pos c3]
      · rw [if_neg c3, if_pos (c2.resolve_left c3)]
    have c4 : (decide (nM = 200) || decide (nS = 600)) = true := by
      rw [Bool.or_eq_true]; exact c2.imp decide_eq_true decide_eq_true
    rw [if_pos c4]
    exact ⟨_, t1, s2, rfl, b4, ⟨nS, nM, ⟨Ibody_f b2 (by decide) hA1.1, Icoin_f b2 (by decide) hA1.2.1, Iinc_f b2 (by decide) hA1.2.2.1, Imat_f b2 (by decide) hA1.2.2.2.1, Ilack_f b2 (by decide) hA1.2.2.2.2.1, Ispan_f b2 (by decide) hA1.2.2.2.2.2.1, Imove_f b2 (by decide) hA1.2.2.2.2.2.2⟩, Icb_f b2 (by decide) hb1⟩, frm_sb (frm_tr a2 b2) kMk_scr⟩
  have c3 : ¬ nM = 200 := fun q => c2 (Or.inl q)
  have c4 : ¬ nS = 600 := fun q => c2 (Or.inr q)
  rw [if_neg (by rw [decide_eq_false c3, decide_eq_false c4]; decide)]
  have hL1 := Ilen_f a2 hL
  have ho1 : own t1 nS p (nt d) = some so := by rw [own_f a2 (by decide)]; exact ho
  have hR1 := Iterm_f a2 (by decide) hR
  have e08 : tA t1 3308 = tA t 3308 := (a2.1 3308 rfl).2.2.2.2.1
  have hfe := hR1 0 (by omega)
  obtain ⟨fe, hfe1, hfe2⟩ := nt_exb (b := 999999) (show 0 ≤ tA t1 3349 0 0 from hfe.2.1) (by omega) (show tA t1 3349 0 0 ≤ nt 999999 from hfe.2.2)
  obtain ⟨W, w1, fW, w2⟩ := sale_new (c := c) (how := 0) hL1 hA1 hb1 (by omega) (by omega) hR1 (by rw [(a2.1 1200 rfl).2.1]; exact e1) (by rw [(a2.1 1301 rfl).2.1]; exact e2) hd hp (by rw [e08]; exact hpp) hc (by rw [e08]; exact hcc) ho1 hco (by rw [e08]; exact hcoc) (by rw [(a2.1 1101 rfl).2.2.1]; exact hco1) (by rw [(a2.1 3318 rfl).2.2.2.2.1]; exact hco2) (by rw [(a2.1 3349 rfl).2.2.2.2.1]; exact h7) hfe1 (by omega)
  obtain ⟨s2, b2, b3⟩ := hw W (frm_tr (frm_sb a2 kLn_scr) fW)
  rw [if_pos c1, if_neg c3, if_neg c4] at b3
  have fts : frm kLn t s2 := frm_tr (frm_tr (frm_sb a2 kLn_scr) fW) (frm_sb b2 kLn_scr)
  have fks : frm kLn t1 s2 := frm_tr fW (frm_sb b2 kLn_scr)
  obtain ⟨T, n0, n1, n2, n3⟩ := w2 s2 b2 (tA t1 3349 0 6) (fun _ => rfl)
  rw [if_pos rfl, if_pos rfl] at n0
  rw [sellT_eq (Ilen_f fts hL), (fks.1 3349 rfl).2.2.2.2.1, hfe2, n0, ob2_s] at b3
  have w1' : F_X12_makeSale t1 (some p) (some c) (nt fe) 0 = some (nt nM, W) := w1
  refine ⟨nt nM, W, T, ?_, b3, ⟨nS + 1, nM + 1, n1, n2⟩, frm_tr (frm_sb a2 kMk_scr) n3⟩
  rw [(show tL _ 3208 0 = 9 from hL1 3208 rfl), g0, z0, hfe.1, hfe2, w1']
  rfl
end
