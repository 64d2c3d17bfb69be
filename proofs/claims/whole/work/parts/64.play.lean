/-! PART 64: play, both. -/
section
variable {t : TS} {nB nS nM : Nat}
def kMove0 : List Nat := [6, 600, 601, 602, 603, 604, 605, 606, 607, 608, 609, 610, 611, 612, 613, 614, 615, 616, 617, 1207, 1327, 2614, 3206, 3308, 3319, 3328, 3329, 3330, 3331, 3332, 3333, 3334, 3335, 3336, 3337, 3338, 3339, 3340, 3341, 3342, 3343, 3344, 3347]
theorem Imove_pl {D : Nat → Bool} {t t' : TS} (h : frm D t t') (hd : ∀ k, k ∈ kMove0 → D k = false) (hI : Imove nB nS nM t) (h1 : ∀ m, m < nM → tI t' 618 m = tA t' 3346 0 m) (h2 : ∀ m, m < nM → ∃ k, k ≤ 999999 ∧ tI t' 619 m = nt k ∧ tA t' 3345 0 m = nt k) (h3 : ∀ m, nM ≤ m → tA t' 3345 0 m = 0 ∧ tA t' 3346 0 m = 0) : Imove nB nS nM t' := by
  refine ⟨hI.1, by rw [(h.1 1207 (hd 1207 (by decide))).2.1]; exact hI.2.1, by rw [(h.1 1327 (hd 1327 (by decide))).2.1]; exact hI.2.2.1, fun m hm => ?_, fun m hm => ?_⟩
  · have g := hI.2.2.2.1 m hm
    have g1 := h1 m hm
    have g2 := h2 m hm
    unfold Imove1 Ishare at g ⊢
    simp only [(h.1 6 (hd 6 (by decide))).1, (h.1 600 (hd 600 (by decide))).2.1, (h.1 601 (hd 601 (by decide))).2.2.1, (h.1 602 (hd 602 (by decide))).2.2.1, (h.1 603 (hd 603 (by decide))).2.2.1, (h.1 604 (hd 604 (by decide))).2.1, (h.1 605 (hd 605 (by decide))).2.1, (h.1 606 (hd 606 (by decide))).2.1, (h.1 607 (hd 607 (by decide))).2.2.1, (h.1 608 (hd 608 (by decide))).2.1, (h.1 609 (hd 609 (by decide))).2.1, (h.1 610 (hd 610 (by decide))).2.1, (h.1 611 (hd 611 (by decide))).2.1, (h.1 612 (hd 612 (by decide))).2.2.1, (h.1 613 (hd 613 (by decide))).2.1, (h.1 614 (hd 614 (by decide))).2.2.1, (h.1 615 (hd 615 (by decide))).2.1, (h.1 616 (hd 616 (by decide))).2.1, (h.1 617 (hd 617 (by decide))).2.1, (h.1 2614 (hd 2614 (by decide))).2.2.2.1, (h.1 2614 (hd 2614 (by decide))).2.2.2.2.1, (h.1 3206 (hd 3206 (by decide))).2.2.2.2.2.2, (h.1 3308 (hd 3308 (by decide))).2.2.2.2.1, (h.1 3319 (hd 3319 (by decide))).2.2.2.2.1, (h.1 3328 (hd 3328 (by decide))).2.2.2.2.1, (h.1 3329 (hd 3329 (by decide))).2.2.2.2.1, (h.1 3330 (hd 3330 (by decide))).2.2.2.2.1, (h.1 3331 (hd 3331 (by decide))).2.2.2.2.1, (h.1 3332 (hd 3332 (by decide))).2.2.2.2.1, (h.1 3333 (hd 3333 (by decide))).2.2.2.2.1, (h.1 3334 (hd 3334 (by decide))).2.2.2.2.1, (h.1 3335 (hd 3335 (by decide))).2.2.2.2.1, (h.1 3336 (hd 3336 (by decide))).2.2.2.2.1, (h.1 3337 (hd 3337 (by decide))).2.2.2.2.1, (h.1 3338 (hd 3338 (by decide))).2.2.2.2.1, (h.1 3339 (hd 3339 (by decide))).2.2.2.2.1, (h.1 3340 (hd 3340 (by decide))).2.2.2.2.1, (h.1 3341 (hd 3341 (by decide))).2.2.2.2.1, (h.1 3342 (hd 3342 (by decide))).2.2.2.2.1, (h.1 3343 (hd 3343 (by decide))).2.2.2.2.1, (h.1 3344 (hd 3344 (by decide))).2.2.2.2.1, (h.1 3347 (hd 3347 (by decide))).2.2.2.2.1]
    obtain ⟨a1, a2, a3, a4, a5, a6, a7, a8, a9, a10, a11, a12, a13, a14, a15, a16, a17, a18, a19, a20, a21, -, -⟩ := g
    exact ⟨a1, a2, a3, a4, a5, a6, a7, a8, a9, a10, a11, a12, a13, a14, a15, a16, a17, a18, a19, a20, a21, g1, g2⟩
  · obtain ⟨a1, a2, a3, a4, a5, a6, a7, a8, -, -, a11⟩ := hI.2.2.2.2 m hm
    simp only [(h.1 6 (hd 6 (by decide))).1, (h.1 2614 (hd 2614 (by decide))).1, (h.1 3336 (hd 3336 (by decide))).2.2.2.2.1, (h.1 3337 (hd 3337 (by decide))).2.2.2.2.1, (h.1 3339 (hd 3339 (by decide))).2.2.2.2.1, (h.1 3341 (hd 3341 (by decide))).2.2.2.2.1, (h.1 3343 (hd 3343 (by decide))).2.2.2.2.1, (h.1 3344 (hd 3344 (by decide))).2.2.2.2.1, (h.1 3347 (hd 3347 (by decide))).2.2.2.2.1]
    exact ⟨a1, a2, a3, a4, a5, a6, a7, a8, (h3 m hm).1, (h3 m hm).2, a11⟩
theorem m_play (x1 x2 : Int32) (hL : Ilen t) (hT : Itime t) (hB : Ibody nB t) (hC : Icoin nB t) (hK : Imat nB t) (hS : Ispan nB nS nM t) (hM : Imove nB nS nM t) : Eqm (F_X12_play t x1 x2) (fun t => F_X13_play t x1 x2) (fun t2 => Icoin nB t2 ∧ Imat nB t2 ∧ Imove nB nS nM t2 ∧ frm (ks kPlay) t t2) := by
  obtain ⟨d, mi, hd, hmi, e1, e2, e3, e4⟩ := hT
  have h150 := hB.1
  have hbad : ∀ r, F_X12_play t x1 x2 = some (r, t) → F_X13_play t x1 x2 = some (r, t) → Eqm (F_X12_play t x1 x2) (fun t => F_X13_play t x1 x2) (fun t2 => Icoin nB t2 ∧ Imat nB t2 ∧ Imove nB nS nM t2 ∧ frm (ks kPlay) t t2) := fun r h1 h2 => ⟨r, t, t, h1, h2, hC, hK, hM, frm_rf⟩
  cases hx : six isPl t nB x1 with
  | none => exact hbad (-1) (by simp only [F_X12_play, playerAt_eq hL hB, hx, nxt_e, oc_s, oc_n, ob_s, ob2_s, gb_b1, gb_0, gb_1, gw0, gw1]) (by simp only [F_X13_play, isPlayer_eq hL hB, hx, isS_n, nxt_e, oc_s, oc_n, ob_s, ob2_s, gb_b1, gb_0, gb_1, gw0, gw1, Bool.false_eq_true, Bool.true_eq_false, if_true, if_false, not_true_eq_false, not_false_eq_true])
  | some p =>
  obtain ⟨hp, rfl, hpp⟩ := six_some hx
  by_cases h2 : 1 ≤ x2 ∧ x2 ≤ 60
  case neg => exact hbad (-1) (by simp only [F_X12_play, playerAt_eq hL hB, hx, win_eq, decide_eq_false h2, nxt_e, oc_s, oc_n, ob_s, ob2_s, gb_b1, gb_0, gb_1, gw0, gw1, Bool.false_eq_true, Bool.true_eq_false, if_true, if_false, not_true_eq_false, not_false_eq_true]) (by simp only [F_X13_play, isPlayer_eq hL hB, hx, isS_s, in_eq, decide_eq_false h2, nxt_e, oc_s, oc_n, ob_s, ob2_s, gb_b1, gb_0, gb_1, gw0, gw1, Bool.false_eq_true, Bool.true_eq_false, if_true, if_false, not_true_eq_false, not_false_eq_true])
  cases ho : hol t nS p (nt d) with
  | none => exact hbad (-2) (by simp only [F_X12_play, playerAt_eq hL hB, hx, win_eq, decide_eq_true h2, e1, X1_holding_eq hS hp, ho, nxt_e, oc_s, oc_n, ob_s, ob2_s, gb_b1, gb_0, gb_1, gw0, gw1, Bool.false_eq_true, Bool.true_eq_false, if_true, if_false, not_true_eq_false, not_false_eq_true]) (by
      simp only [F_X13_play, isPlayer_eq hL hB, hx, isS_s, in_eq, decide_eq_true h2, e2, holderOn_eq hL hS, ho, oel_n, nxt_e, oc_s, oc_n, ob_s, ob2_s, gb_b1, gb_0, gb_1, gw0, gw1, Bool.false_eq_true, Bool.true_eq_false, if_true, if_false, not_true_eq_false, not_false_eq_true]
      exact if_neg (by decide))
  | some s =>
  have hs := hol_lt ho
  obtain ⟨c, hc, hcc, c1, c2⟩ := sp_club h150 hS hs
  obtain ⟨u1, k1, k2⟩ := X12_play_loop (n := x2) hL h150 hM hp hc c1
  have f1 := k2.1
  have hB1 := Ibody_f f1 (by decide) hB
  have hK1 := Imat_f f1 (by decide) hK
  obtain ⟨u2, g1, g2, g3, g4, g5, g6⟩ := X12_tell (n := x2) hB1 hK1 hp hc (show tR u1 1101 s = some c by rw [(f1.1 1101 rfl).2.2.1, c1])
  have e3348 : tA u1 3348 = tA t 3348 := (f1.1 3348 rfl).2.2.2.2.1
  rw [e3348] at g1 g6
  have f2 : frm (ks kPlay) t u2 := frm_tr (frm_sb f1 (ks_sb rfl)) (frm_sb g2 (ks_sb rfl))
  have hc1 : F_X12_play t (nt p) x2 = some (tA t 3348 0 (150 * p + c) + x2, u2) := by
    simp only [F_X12_play, playerAt_eq hL hB, hx, win_eq, decide_eq_true h2, e1, X1_holding_eq hS hp, ho, nxt_e, oc_s, oc_n, ob_s, ob2_s, gb_b1, gb_0, gb_1, gw0, gw1, Bool.false_eq_true, Bool.true_eq_false, if_true, if_false, not_true_eq_false, not_false_eq_true]
    rw [k1, g1]
  have hL2 := Ilen_f f2 hL
  have hB2 := IbM (Ibody_f f2 (by decide) hB)
  have hS2 := IsM (Ispan_f f2 (by decide) hS)
  have hx2 : six isPl u2 nB (nt p) = some p := six_nt hp h150 (by rw [(f2.1 3308 rfl).2.2.2.2.1]; exact hpp)
  have ho2 : hol u2 nS p (nt d) = some s := by rw [hol_f f2 (by decide), ho]
  have e2' : tI u2 1301 0 = nt d := by rw [(f2.1 1301 rfl).2.1, e2]
  have c2' : tA u2 3318 0 s = nt c := by rw [(f2.1 3318 rfl).2.2.2.2.1, c2]
  have e0 : (150 : Int32) * nt p + nt c = nt (150 * p + c) := by rw [show (150 : Int32) = nt 150 from rfl, nt_mul, nt_add]
  have e3348b : tA u2 3348 = tA t 3348 := by rw [(g2.1 3348 rfl).2.2.2.2.1, e3348]
  have f3 : frm (ks [3348]) u2 (uA u2 3348 0 (150 * p + c) (tA t 3348 0 (150 * p + c) + x2)) := frm_uA rfl
  have f3' : frm (ks [103, 618, 619, 112, 2112, 3348]) t (uA u2 3348 0 (150 * p + c) (tA t 3348 0 (150 * p + c) + x2)) := frm_tr (frm_sb f1 (ks_sb rfl)) (frm_tr (frm_sb g2 (ks_sb rfl)) (frm_uA rfl))
  obtain ⟨u4, q1, q2⟩ := X13_play_loop (n := x2) (Ilen_f f3 hL2) h150 (Mpay_f f3' (by decide) (Imove_pay hM)) hp hc
  have f4 : frm (ks [3310, 3345, 3346]) _ u4 := q2.1
  have f5 : frm (ks kPlay) t u4 := frm_tr (frm_sb f3' (ks_sb rfl)) (frm_sb f4 (ks_sb rfl))
  have f6 : frm (ks [112, 2112, 3348, 3310, 3345, 3346]) u1 u4 := frm_tr (frm_sb g2 (ks_sb rfl)) (frm_tr (frm_sb f3 (ks_sb rfl)) (frm_sb f4 (ks_sb rfl)))
  have f7 : frm (ks [3348, 3310, 3345, 3346]) u2 u4 := frm_tr (frm_sb f3 (ks_sb rfl)) (frm_sb f4 (ks_sb rfl))
  have e3348c : tA u4 3348 0 = mm_u1 (tA t 3348 0) (150 * p + c) (tA t 3348 0 (150 * p + c) + x2) := by
    rw [(f4.1 3348 rfl).2.2.2.2.1, A_uA, m1_s, e3348b]
  obtain ⟨-, -, y3, y4, y5⟩ := pay_f (p := p) (c := c) (n := x2) f3' (by decide)
  have z3310 : tA (uA u2 3348 0 (150 * p + c) (tA t 3348 0 (150 * p + c) + x2)) 3310 0 = tA t 3310 0 := by rw [(f3'.1 3310 rfl).2.2.2.2.1]
  have w1 : ∀ m, tA u4 3346 0 m = told t p c x2 nM m := fun m => by rw [q2.2.2.1 m, y3]
  have w2 : ∀ m, tA u4 3345 0 m = paidB t p c x2 nM m := fun m => by rw [q2.2.2.2 m, y4]
  have w3 : tA u4 3310 0 = coinD t p c x2 (tA t 3310 0) nM := by rw [q2.2.1, y5, z3310]
  have w4 : tI u4 103 = coinD t p c x2 (tI t 103) nM := by rw [(f6.1 103 rfl).2.1, k2.2.1]
  refine ⟨tA t 3348 0 (150 * p + c) + x2, u2, u4, hc1, ?_, ⟨fun i hi => ?_, fun i hi => ?_⟩, ⟨fun i hi => ?_, fun i hi => ?_⟩, Imove_pl f5 (by decide) hM (fun m hm => ?_) (fun m hm => ?_) (fun m hm => ?_), f5⟩
  · show F_X13_play u2 (nt p) x2 = _
    simp only [F_X13_play, isPlayer_eqM hL2 hB2, hx2, isS_s, in_eq, decide_eq_true h2, e2', holderOn_eqM hL2 hS2, ho2, oel_s, c2', nxt_e, oc_s, oc_n, ob_s, ob2_s, gb_b1, gb_0, gb_1, gw0, gw1, Bool.false_eq_true, Bool.true_eq_false, if_true, if_false, not_true_eq_false, not_false_eq_true, e0]
    rw [if_pos (nt_nn (by omega)), (show tL _ 3348 0 = 22500 from hL2 3348 rfl), gd_nt _ (by omega) (by omega), gd_nt _ (by omega) (by omega), nt_cl (by omega), e3348b, q1]
    unfold B_X13_play_225
    rw [e0, (show tL _ 3348 0 = 22500 from Ilen_f f5 hL 3348 rfl), gd_nt _ (by omega) (by omega), nt_cl (by omega), e3348c, m1_s]
  · rw [w3, w4]
    exact coinD_c h150 hM hC.1 nM (Nat.le_refl _) i hi
  · rw [w3, coinD_o h150 hM hi nM (Nat.le_refl _)]
    exact hC.2 i hi
  · have r1 : tR u4 112 = mm_u1 (tR t 112) p (some p) := by rw [(f7.1 112 rfl).2.2.1, g3, (f1.1 112 rfl).2.2.1]
    by_cases e : i = p
    · subst e
      refine Or.inr ⟨by rw [r1, m1_s], by rw [(f7.1 2112 rfl).2.2.2.1, g5], fun j hj => ?_⟩
      rw [(f7.1 2112 rfl).2.2.2.2.1, g6 j hj, e3348c]
      by_cases e2 : j = c
      · subst e2; rw [if_pos rfl, m1_s]
      · rw [if_neg e2, m1_n (by omega)]
    · have a1 : tR u4 112 i = tR t 112 i := by rw [r1, m1_n e]
      have a2 : tE u4 2112 i = tE t 2112 i := by rw [(f7.1 2112 rfl).1, (g4 i e).2.1, (f1.1 2112 rfl).1]
      have a3 : tL u4 2112 i = tL t 2112 i := by rw [(f7.1 2112 rfl).2.2.2.1, (g4 i e).2.2, (f1.1 2112 rfl).2.2.2.1]
      have a4 : tA u4 2112 i = tA t 2112 i := by rw [(f7.1 2112 rfl).2.2.2.2.1, (g4 i e).1, (f1.1 2112 rfl).2.2.2.2.1]
      have a5 : ∀ j, j < 150 → tA u4 3348 0 (150 * i + j) = tA t 3348 0 (150 * i + j) := fun j hj => by rw [e3348c, m1_n (by omega)]
      rw [a1, a2, a3, a4]
      rcases hK.1 i hi with ⟨x1, x2, x3⟩ | ⟨x1, x2, x3⟩
      · exact Or.inl ⟨x1, x2, fun j hj => by rw [a5 j hj, x3 j hj]⟩
      · exact Or.inr ⟨x1, x2, fun j hj => by rw [a5 j hj, x3 j hj]⟩
  · have e : ¬ i = p := by omega
    have a2 : tE u4 2112 i = tE t 2112 i := by rw [(f7.1 2112 rfl).1, (g4 i e).2.1, (f1.1 2112 rfl).1]
    refine ⟨by rw [a2, (hK.2 i hi).1], fun j hj => ?_⟩
    rw [e3348c, m1_n (by omega), (hK.2 i hi).2 j hj]
  · rw [(f6.1 618 rfl).2.1, k2.2.2.1 m hm, w1]
  · rw [(f6.1 619 rfl).2.1, k2.2.2.2 m hm, w2]
    obtain ⟨-, -, -, -, -, -, -, -, -, -, -, -, -, -, -, -, -, -, -, ⟨bo, bo1, bo2, bo3⟩, -, -, ⟨pd, pd1, pd2, pd3⟩⟩ := hM.2.2.2.1 m hm
    unfold paidB
    by_cases e : m < nM ∧ payB t p c x2 m = true
    · rw [if_pos e]; exact ⟨bo, bo1, bo3, bo3⟩
    · rw [if_neg e]; exact ⟨pd, pd1, pd3, pd3⟩
  · obtain ⟨-, -, -, -, -, -, -, -, b1_, b2, -⟩ := hM.2.2.2.2 m hm
    rw [w1, w2]
    unfold paidB told
    rw [if_neg (fun q => by omega), if_neg (fun q => by omega)]
    exact ⟨b1_, b2⟩
end
