/-! PART 59: reads of moves, shares, squads, bodies. -/
section
variable {t : TS} {nB nS nM : Nat}
theorem moveAt_eq (hL : Ilen t) (hM : Imove nB nS nM t) (x : Int32) : F_X12_moveAt t x = some (ix nM x) := by
  obtain ⟨h1, h2, h3, h4, h5⟩ := hM
  unfold F_X12_moveAt
  rw [win_eq, h2]
  rw [(show tL _ 3206 0 = 200 from hL 3206 rfl)]
  refine (look (n := nM) (N := 200) (x := x) (by omega) h1 (some none) (fun i => some (tQ t 3206 0 i))).trans ?_
  cases h : ix nM x with
  | none => rfl
  | some i => rw [oel_s, (h4 i (ix_some h).1).1]
theorem isMove_eqM (hM : Mmove nB nS nM t) (x : Int32) : F_X13_isMove t x = some (b1 (ix nM x).isSome) := by
  obtain ⟨h1, h3, h4⟩ := hM
  unfold F_X13_isMove
  rw [in_eq, h3, dix (by omega), ob_s, gb_b1]
theorem isMove_eq (hM : Imove nB nS nM t) (x : Int32) : F_X13_isMove t x = some (b1 (ix nM x).isSome) := isMove_eqM (ImM hM) x
theorem swix {α : Type} {df : Option α} (bs : List (Option α)) (x : Int32) (h2 : bs.length < 2147483648) : swi x 0 bs df = oel (ix bs.length x) df (fun i => bs.getD i df) := by
  cases h : ix bs.length x with
  | none =>
    rw [oel_n]
    refine swi_no bs 0 (by omega) (fun i hi e => ?_)
    rw [Nat.zero_add] at e
    rw [e, ix_nt hi h2] at h
    cases h
  | some i =>
    obtain ⟨h1, rfl⟩ := ix_some h
    rw [swi0 bs i (by omega) h2, oel_s]
theorem m_ofMove (x1 x2 : Int32) (hL : Ilen t) (hB : Ibody nB t) (hS : Ispan nB nS nM t) (hM : Imove nB nS nM t) : ∃ r, F_X12_ofMove t x1 x2 = some r ∧ F_X13_ofMove t x1 x2 = some r := by
  have h200 := hM.1
  unfold F_X12_ofMove F_X13_ofMove
  rw [moveAt_eq hL hM, isMove_eq hM, ob_s, ob_s]
  cases hx : ix nM x1 with
  | none => exact ⟨-2000000000, rfl, rfl⟩
  | some m =>
  obtain ⟨hm, rfl⟩ := ix_some hx
  obtain ⟨-, -, a3, ⟨p, p1, -, p3, p4⟩, ⟨c, c1, -, c3, c4⟩, ⟨b, b1_, -, b3, b4⟩, ⟨f, -, f1, f2⟩, ⟨l1, l2⟩, -, ⟨s, dd, s1, -, s3, -, s5, s6⟩, ⟨u1, u2⟩, -, -, ⟨k1, -, k2, k3⟩, -, ⟨g1, -, g2, g3⟩, -, -, ag, -, -, -, ⟨n1, -, n2, n3⟩⟩ := hM.2.2.2.1 m hm
  have hp := (hB.2.2.2.1 p p1).2.2.1
  have hc := (hB.2.2.2.1 c c1).2.2.1
  have hb := (hB.2.2.2.1 b b1_).2.2.1
  have hsf : tI t 1103 s = nt dd := by
    obtain ⟨-, -, -, e2, -⟩ := hS.2.2.2.1 s s1
    rw [e2, s5]
  rw [oc_s, isS_s, swix _ _ (Nat.le_of_ble_eq_true rfl), swix _ _ (Nat.le_of_ble_eq_true rfl)]
  simp only [List.length_cons, List.length_nil, nxt_e, oc_s, oc_n, ob_s, ob2_s, gb_b1, gb_0, gb_1, gw0, gw1, Bool.false_eq_true, Bool.true_eq_false, if_true, if_false, not_true_eq_false, not_false_eq_true]
  cases hy : ix (0 + 1 + 1 + 1 + 1 + 1 + 1 + 1 + 1 + 1 + 1 + 1) x2 with
  | none => exact ⟨-2000000000, rfl, rfl⟩
  | some i =>
  obtain ⟨hi, rfl⟩ := ix_some hy
  have hi' : i = 0 ∨ i = 1 ∨ i = 2 ∨ i = 3 ∨ i = 4 ∨ i = 5 ∨ i = 6 ∨ i = 7 ∨ i = 8 ∨ i = 9 ∨ i = 10 := by omega
  simp only [oel_s]
  rcases hi' with rfl | rfl | rfl | rfl | rfl | rfl | rfl | rfl | rfl | rfl | rfl
  all_goals simp (disch := omega) only [List.getD_cons_succ, List.getD_cons_zero, nxt_e, oc_s, oc_n, ob_s, ob2_s, gb_b1, gb_0, gb_1, gw0, gw1, (show tL _ 3328 0 = 200 from hL 3328 rfl), (show tL _ 3329 0 = 200 from hL 3329 rfl), (show tL _ 3330 0 = 200 from hL 3330 rfl), (show tL _ 3331 0 = 200 from hL 3331 rfl), (show tL _ 3332 0 = 200 from hL 3332 rfl), (show tL _ 3333 0 = 200 from hL 3333 rfl), (show tL _ 3334 0 = 200 from hL 3334 rfl), (show tL _ 3341 0 = 200 from hL 3341 rfl), (show tL _ 3343 0 = 200 from hL 3343 rfl), (show tL _ 3344 0 = 200 from hL 3344 rfl), (show tL _ 3345 0 = 200 from hL 3345 rfl), gd_nt, nt_cl, p3, p4, c3, c4, b3, b4, hp, hc, hb, f1, f2, s3, hsf, s6, k2, k3, g2, g3, ag, n2, n3, l1, u1, F_X12_bit]
  all_goals first | exact ⟨_, rfl, rfl⟩ | skip
  · rcases l2 with e | e <;> rw [e] <;> exact ⟨_, rfl, rfl⟩
  · rcases u2 with e | e <;> rw [e] <;> exact ⟨_, rfl, rfl⟩
theorem m_share (x1 x2 : Int32) (hL : Ilen t) (hB : Ibody nB t) (hM : Imove nB nS nM t) : ∃ r, F_X12_share t x1 x2 = some r ∧ F_X13_share t x1 x2 = some r := by
  have h200 := hM.1
  have h150 := hB.1
  unfold F_X12_share F_X13_share
  rw [moveAt_eq hL hM, isMove_eq hM, clubAt_eq hL hB, isClub_eq hL hB]
  cases hx : ix nM x1 with
  | none => exact ⟨-1, by simp only [nxt_e, oc_s, oc_n, ob_s, ob2_s, gb_b1, gb_0, gb_1, gw0, gw1], by simp only [isS_n, nxt_e, oc_s, oc_n, ob_s, ob2_s, gb_b1, gb_0, gb_1, gw0, gw1, Bool.false_eq_true, Bool.true_eq_false, if_true, if_false, not_true_eq_false, not_false_eq_true]⟩
  | some m =>
  obtain ⟨hm, rfl⟩ := ix_some hx
  cases hy : six isCl t nB x2 with
  | none => exact ⟨-1, by simp only [nxt_e, oc_s, oc_n, ob_s, ob2_s, gb_b1, gb_0, gb_1, gw0, gw1], by simp only [isS_n, isS_s, nxt_e, oc_s, oc_n, ob_s, ob2_s, gb_b1, gb_0, gb_1, gw0, gw1, Bool.false_eq_true, Bool.true_eq_false, if_true, if_false, not_true_eq_false, not_false_eq_true]⟩
  | some c =>
  obtain ⟨hc, rfl, hcc⟩ := six_some hy
  have hci := (hB.2.2.2.1 c hc).2.2.1
  obtain ⟨-, -, -, -, -, -, -, -, -, -, -, -, -, -, -, -, hsh, -⟩ := hM.2.2.2.1 m hm
  have e0 : (150 : Int32) * nt m + nt c = nt (150 * m + c) := by rw [show (150 : Int32) = nt 150 from rfl, nt_mul, nt_add]
  refine ⟨tA t 3347 0 (150 * m + c), ?_, ?_⟩
  · simp only [nxt_e, oc_s, oc_n, ob_s, ob2_s, gb_b1, gb_0, gb_1, gw0, gw1, hci]
    unfold F_X6_shareOf
    rcases hsh with ⟨q1, q2⟩ | ⟨q1, q2, q3, q4⟩
    · simp only [nxt_e, oc_s, oc_n, ob_s, ob2_s, gb_b1, gb_0, gb_1, gw0, gw1, q1]
      rw [q2 c (by omega)]
    · simp only [nxt_e, oc_s, oc_n, ob_s, ob2_s, gb_b1, gb_0, gb_1, gw0, gw1, q1, win_eq]
      have e1 : (Int32.ofNat (tL t 2614 m) - 1 : Int32) = nt (tL t 2614 m) - 1 := rfl
      rw [e1, dix (by omega)]
      by_cases g : c < tL t 2614 m
      · rw [ix_nt g (by omega), isS_s, if_pos rfl, gd_nt _ (by omega) (by omega), nt_cl (by omega), q3 c g]
        rfl
      · have : ix (tL t 2614 m) (nt c) = none := by
          cases h : ix (tL t 2614 m) (nt c) with
          | none => rfl
          | some j =>
            obtain ⟨j1, j2⟩ := ix_some h
            rw [eq_nt (by omega) (by omega)] at j2
            omega
        rw [this, isS_n, if_neg (by decide)]
        exact congrArg some (q4 c (by omega) (by omega)).symm
  · simp only [isS_s, nxt_e, oc_s, oc_n, ob_s, ob2_s, gb_b1, gb_0, gb_1, gw0, gw1, Bool.false_eq_true, Bool.true_eq_false, if_true, if_false, not_true_eq_false, not_false_eq_true, e0]
    rw [(show tL _ 3347 0 = 30000 from hL 3347 rfl), gd_nt _ (by omega) (by omega), nt_cl (by omega)]
/-- what a figure reads -/
def kFig : List Nat := [3308, 3309, 3310, 3311, 3312, 3317, 3318, 3319, 3320, 3321, 3322, 3323, 3330, 3331, 3332, 3333, 3334, 3335]
theorem figv_f {D : Nat → Bool} {t t' : TS} {c l d : Nat} {who more : Option Nat} {i : Nat} (h : frm D t t') (hd : ∀ k, k ∈ kFig → D k = false) : figv t' nB nS nM c l d who more i = figv t nB nS nM c l d who more i := by
  have hh : ∀ k, k ∈ kHol → D k = false := fun k hk => hd k (by revert k; decide)
  have a1 : ∀ w, sqw t' nS c l more d w = sqw t nS c l more d w := fun w => funext fun p => by
    unfold sqw
    rw [sq_f h hh (hd 3308 (by decide)), tlg_f h hh (hd 3309 (by decide)) (hd 3312 (by decide)), (h.1 3308 (hd 3308 (by decide))).2.2.2.2.1]
  have a2 : ∀ e, wg t' nB nS c e = wg t nB nS c e := fun e => by
    unfold wg
    refine sumI_c _ (fun j _ => ?_)
    unfold wgf
    rw [own_f h hh]
    simp only [(h.1 3318 (hd 3318 (by decide))).2.2.2.2.1, (h.1 3323 (hd 3323 (by decide))).2.2.2.2.1]
  have a3 : ∀ y, capf t' c y = capf t c y := fun y => funext fun p => by
    unfold capf spr
    simp only [(h.1 3330 (hd 3330 (by decide))).2.2.2.2.1, (h.1 3331 (hd 3331 (by decide))).2.2.2.2.1, (h.1 3332 (hd 3332 (by decide))).2.2.2.2.1, (h.1 3333 (hd 3333 (by decide))).2.2.2.2.1, (h.1 3334 (hd 3334 (by decide))).2.2.2.2.1, (h.1 3335 (hd 3335 (by decide))).2.2.2.2.1]
  have a4 : cap3 t' nB nS nM c d = cap3 t nB nS nM c d := funext fun j => by
    unfold cap3
    rw [a2, a3]
  have a5 : inc3 t' c d = inc3 t c d := funext fun j => by
    unfold inc3
    simp only [(h.1 3311 (hd 3311 (by decide))).2.2.2.2.1]
  unfold figv
  simp only [a1, a2, a3, a4, a5, (h.1 3308 (hd 3308 (by decide))).2.2.2.2.1, (h.1 3310 (hd 3310 (by decide))).2.2.2.2.1, (h.1 3312 (hd 3312 (by decide))).2.2.2.2.1]
theorem m_squad (x1 x2 : Int32) (hL : Ilen t) (hT : Itime t) (hB : Ibody nB t) (hC : Icoin nB t) (hI : Iinc nB t) (hS : Ispan nB nS nM t) (hM : Imove nB nS nM t) : Eqm (F_X12_squad t x1 x2) (fun t => F_X13_squad t x1 x2) (fun t2 => frm scr t t2) := by
  obtain ⟨d, mi, hd, hmi, e1, e2, e3, e4⟩ := hT
  have h150 := hB.1
  have hbad : F_X12_squad t x1 x2 = some (-1, t) → F_X13_squad t x1 x2 = some (-1, t) → Eqm (F_X12_squad t x1 x2) (fun t => F_X13_squad t x1 x2) (fun t2 => frm scr t t2) := fun h1 h2 => ⟨-1, t, t, h1, h2, frm_rf⟩
  cases hx : six isCl t nB x1 with
  | none => exact hbad (by simp only [F_X12_squad, clubAt_eq hL hB, hx, nxt_e, oc_s, oc_n, ob_s, ob2_s, gb_b1, gb_0, gb_1, gw0, gw1]) (by simp only [F_X13_squad, isClub_eq hL hB, hx, isS_n, nxt_e, oc_s, oc_n, ob_s, ob2_s, gb_b1, gb_0, gb_1, gw0, gw1, Bool.false_eq_true, Bool.true_eq_false, if_true, if_false, not_true_eq_false, not_false_eq_true])
  | some c =>
  obtain ⟨hc, rfl, hcc⟩ := six_some hx
  obtain ⟨-, -, -, -, -, -, -, -, -, ⟨l, hl, hlg⟩, -⟩ := hB.2.2.2.1 c hc
  have e7 : (7 : Int32) = nt 7 := rfl
  have e6 : (6 : Int32) = nt 7 - 1 := by decide
  cases hy : ix 7 x2 with
  | none => exact hbad (by simp only [F_X12_squad, clubAt_eq hL hB, hx, win_eq, e7, dix (show 7 < 2147483648 by omega), hy, isS_n, nxt_e, oc_s, oc_n, ob_s, ob2_s, gb_b1, gb_0, gb_1, gw0, gw1, Bool.false_eq_true, Bool.true_eq_false, if_true, if_false, not_true_eq_false, not_false_eq_true]) (by simp only [F_X13_squad, isClub_eq hL hB, hx, isS_s, in_eq, e6, dix (show 7 < 2147483648 by omega), hy, isS_n, nxt_e, oc_s, oc_n, ob_s, ob2_s, gb_b1, gb_0, gb_1, gw0, gw1, Bool.false_eq_true, Bool.true_eq_false, if_true, if_false, not_true_eq_false, not_false_eq_true])
  | some i =>
  obtain ⟨hi, rfl⟩ := ix_some hy
  have hcode : ∃ k, k < 12 ∧ (mm_sv 3).getD i 0 = nt k ∧ k = [3, 2, 4, 5, 6, 7, 8].getD i 0 := by
    have hi' : i = 0 ∨ i = 1 ∨ i = 2 ∨ i = 3 ∨ i = 4 ∨ i = 5 ∨ i = 6 := by omega
    rcases hi' with rfl | rfl | rfl | rfl | rfl | rfl | rfl
    · exact ⟨3, by omega, rfl, rfl⟩
    · exact ⟨2, by omega, rfl, rfl⟩
    · exact ⟨4, by omega, rfl, rfl⟩
    · exact ⟨5, by omega, rfl, rfl⟩
    · exact ⟨6, by omega, rfl, rfl⟩
    · exact ⟨7, by omega, rfl, rfl⟩
    · exact ⟨8, by omega, rfl, rfl⟩
  obtain ⟨k, hk, hk2, hk3⟩ := hcode
  obtain ⟨t1, g1, g2⟩ := X12_figure_eq (who := none) (more := none) hL hB hC hI hS hM hc hcc hd e1 hl hlg (fun q h => by cases h) hk
  have l3 : (mm_sv 3).length = 7 := rfl
  have hc1 : F_X12_squad t (nt c) (nt i) = some (figv t nB nS nM c l d none none k, t1) := by
    simp (disch := omega) only [F_X12_squad, clubAt_eq hL hB, hx, win_eq, e7, dix (show 7 < 2147483648 by omega), hy, isS_s, nxt_e, oc_s, oc_n, ob_s, ob2_s, gb_b1, gb_0, gb_1, gw0, gw1, Bool.false_eq_true, Bool.true_eq_false, if_true, if_false, not_true_eq_false, not_false_eq_true, l3, gd_nt, nt_cl, hk2, g1]
  have hL1 := Ilen_f g2 hL
  have hB1 := IbM (Ibody_f g2 (by decide) hB)
  have hS1 := IsM (Ispan_f g2 (by decide) hS)
  have hM1 := ImM (Imove_f g2 (by decide) hM)
  have hday1 : tI t1 1301 0 = nt d := by rw [(g2.1 1301 rfl).2.1, e2]
  have hlg1 : tA t1 3309 0 c = nt l := by rw [(g2.1 3309 rfl).2.2.2.2.1, hlg]
  have hfig : ∀ w m j, figv t1 nB nS nM c l d w m j = figv t nB nS nM c l d w m j := fun w m j => figv_f g2 (by decide)
  have hx1 : six isCl t1 nB (nt c) = some c := six_nt hc h150 (by rw [(g2.1 3308 rfl).2.2.2.2.1]; exact hcc)
  have hin : F_X13_squad t1 (nt c) (nt i) = if 3 ≤ nt i then B_X13_squad_31 t1 (nt c) (nt i) else Option.bind (F_X13_findSquad t1 (nt c) (-1)) (fun r23 => B_X13_squad_31 r23 (nt c) (nt i)) := by
    simp only [F_X13_squad, isClub_eqM hL1 hB1, hx1, isS_s, in_eq, e6, dix (show 7 < 2147483648 by omega), hy, nxt_e, oc_s, oc_n, ob_s, ob2_s, gb_b1, gb_0, gb_1, gw0, gw1, Bool.false_eq_true, Bool.true_eq_false, if_true, if_false, not_true_eq_false, not_false_eq_true]
  have hfin : ∃ t2, F_X13_squad t1 (nt c) (nt i) = some (figv t1 nB nS nM c l d none none k, t2) ∧ frm scr t1 t2 := by
    rw [hin]
    by_cases h3 : i < 3
    · obtain ⟨t2, k1, k2, k3, k4, k5⟩ := X13_findSquad_eqM (more := none) hL1 hB1 hS1 hc hd hday1 hl hlg1 (fun q h => by cases h)
      have k1' : F_X13_findSquad t1 (nt c) (-1) = some t2 := k1
      refine ⟨t2, ?_, frm_scr k2 rfl⟩
      have hi' : i = 0 ∨ i = 1 ∨ i = 2 := by omega
      rcases hi' with rfl | rfl | rfl
      · subst hk3; rw [if_neg (by decide), k1', ob_s]; exact congrArg (fun r => some (r, t2)) k3
      · subst hk3; rw [if_neg (by decide), k1', ob_s]; exact congrArg (fun r => some (r, t2)) k4
      · subst hk3; rw [if_neg (by decide), k1', ob_s]; exact congrArg (fun r => some (r, t2)) k5
    · refine ⟨t1, ?_, frm_rf⟩
      have hi' : i = 3 ∨ i = 4 ∨ i = 5 ∨ i = 6 := by omega
      have hyr : d / 300 ≤ 9 := by omega
      rcases hi' with rfl | rfl | rfl | rfl
      · subst hk3
        rw [if_pos (by decide)]
        show Option.bind (F_X13_wagesOf t1 (nt c)) (fun r22 => some (r22, t1)) = _
        rw [X13_wages_eqM hL1 hB1 hS1 hc, ob_s, hday1]
        rfl
      · subst hk3
        rw [if_pos (by decide)]
        show Option.bind (F_X13_capOf t1 (nt c) (tI t1 1301 0 / 300)) (fun r22 => some (r22, t1)) = _
        rw [hday1, year_eq hd, X13_capOf_eqM hL1 hB1 hM1 hS1 hc hyr, ob_s, hday1]
        rfl
      · subst hk3
        rw [if_pos (by decide)]
        show Option.bind (F_X13_threeYears t1 (nt c) (b1 true)) (fun r22 => some (r22, t1)) = _
        rw [X13_three_eqM hL1 hB1 hS1 hM1 hc hd hday1, ob_s]
        rfl
      · subst hk3
        rw [if_pos (by decide)]
        show Option.bind (F_X13_threeYears t1 (nt c) (b1 false)) (fun r22 => some (r22, t1)) = _
        rw [X13_three_eqM hL1 hB1 hS1 hM1 hc hd hday1, ob_s]
        rfl
  obtain ⟨t2, f1, f2⟩ := hfin
  exact ⟨figv t nB nS nM c l d none none k, t1, t2, hc1, by rw [← hfig]; exact f1, frm_tr (frm_scr g2 rfl) f2⟩
end
