/-! PART d4: a rule asked at any state that differs by scratch; tryCap. -/
theorem pickN {P : Nat → Prop} [DecidablePred P] {R : Nat → Int32 → Prop} (h : ∀ c, P c → ∃ x, R c x) : ∃ X : Nat → Int32, ∀ c, P c → R c (X c) := by
  refine ⟨fun c => if q : P c then (h c q).choose else 0, fun c q => ?_⟩
  show R c (if q : P c then (h c q).choose else 0)
  rw [dif_pos q]
  exact (h c q).choose_spec
section
variable {t : TS} {nB nS nM nR c l d u : Nat} {who : Option Nat}
theorem ask2 (hL : Ilen t) (hB : Ibody nB t) (hC : Icoin nB t) (hI : Iinc nB t) (hS : Ispan nB nS nM t) (hM : Imove nB nS nM t) (hH : Irh nR t) (hU : Irule nR t) (hc : c < nB) (hcl : isCl (tA t 3308 0 c) = true) (hd : d ≤ 2999) (hday : tI t 1200 0 = nt d) (hday2 : tI t 1301 0 = nt d) (hl : l < 4) (hlg : tA t 3309 0 c = nt l) (hw : ∀ q, who = some q → q < nB) (hu : u < 3) (joins : Bool) {r0 : Option Nat} (hr0 : (r0 = lastP (rf t (10 * nt l + nt u) (nt d) (nt d)) nR) ∨ ∃ r, r0 = some r ∧ r < nR ∧ irm (tA t 3356 0 r) 10 = nt u) : ∃ x, (x = -1 ∨ 0 ≤ x) ∧ ∀ s, frm scr t s → (∃ s1, F_X12_brokenLine s r0 (some c) (if u = 0 then who else none) (if joins then who else none) = some (x, s1) ∧ frm scr s s1) ∧ ∃ s2, F_X13_firstBroken s (oel r0 (-2) nt) (nt c) (enc who) (b1 joins) = some (x, s2) ∧ frm scr s s2 := by
  obtain ⟨x, t1, a1, a2, a3, a4⟩ := ask (u := u) (who := who) hL hB hC hI hS hM hH hU hc hcl hd hday hday2 hl hlg hw hu joins hr0
  refine ⟨x, a3, fun s hs => ⟨?_, a4 s hs⟩⟩
  have hr0' : (r0 = lastP (rf s (10 * nt l + nt u) (nt d) (nt d)) nR) ∨ ∃ r, r0 = some r ∧ r < nR ∧ irm (tA s 3356 0 r) 10 = nt u := by
    rw [rf_f hs (by decide), (hs.1 3356 rfl).2.2.2.2.1]
    exact hr0
  obtain ⟨y, s1, b1_, b2, -, b4⟩ := ask (t := s) (u := u) (who := who) (Ilen_f hs hL) (Ibody_f hs (by decide) hB) (Icoin_f hs (by decide) hC) (Iinc_f hs (by decide) hI) (Ispan_f hs (by decide) hS) (Imove_f hs (by decide) hM) (Irh_f hs (by decide) hH) (Irule_f hs (by decide) hU) hc (by rw [(hs.1 3308 rfl).2.2.2.2.1]; exact hcl) hd (by rw [(hs.1 1200 rfl).2.1]; exact hday) (by rw [(hs.1 1301 rfl).2.1]; exact hday2) hl (by rw [(hs.1 3309 rfl).2.2.2.2.1]; exact hlg) hw hu joins hr0'
  obtain ⟨s2, c1, -⟩ := a4 s hs
  obtain ⟨s3, c2, -⟩ := b4 s frm_rf
  rw [c1] at c2
  have hxy : x = y := congrArg (fun z : Int32 × TS => z.1) (Option.some.inj c2)
  rw [hxy]
  exact ⟨s1, b1_, b2⟩
theorem m_tryCap (x1 x2 : Int32) (hL : Ilen t) (hT : Itime t) (hG : Ileag t) (hB : Ibody nB t) (hC : Icoin nB t) (hI : Iinc nB t) (hS : Ispan nB nS nM t) (hM : Imove nB nS nM t) (hH : Irh nR t) (hU : Irule nR t) : Eqm (F_X12_tryCap t x1 x2) (fun t => F_X13_tryCap t x1 x2) (fun t2 => frm scr t t2) := by
  obtain ⟨d, mi, hd, hmi, e1, e2, e3, e4⟩ := hT
  have h150 := hB.1
  have hH0 := hH
  obtain ⟨h16, r1, r2, r3⟩ := hH
  have hbad : F_X12_tryCap t x1 x2 = some (-1, t) → F_X13_tryCap t x1 x2 = some (-1, t) → Eqm (F_X12_tryCap t x1 x2) (fun t => F_X13_tryCap t x1 x2) (fun t2 => frm scr t t2) := fun h1 h2 => ⟨-1, t, t, h1, h2, frm_rf⟩
  cases hx : ix nR x1 with
  | none => exact hbad (by simp only [F_X12_tryCap, win_eq, r1, dix (show nR < 2147483648 by omega), hx, isS_n, nxt_e, oc_s, oc_n, ob_s, ob2_s, gb_b1, gb_0, gb_1, gw0, gw1, Bool.false_eq_true, Bool.true_eq_false, if_true, if_false, not_true_eq_false, not_false_eq_true]) (by simp only [F_X13_tryCap, in_eq, r2, dix (show nR < 2147483648 by omega), hx, isS_n, nxt_e, oc_s, oc_n, ob_s, ob2_s, gb_b1, gb_0, gb_1, gw0, gw1, Bool.false_eq_true, Bool.true_eq_false, if_true, if_false, not_true_eq_false, not_false_eq_true])
  | some r =>
  obtain ⟨hr, rfl⟩ := ix_some hx
  obtain ⟨y1, y2, y3, y4⟩ := r3 r hr
  have hc1 : F_X12_tryCap t (nt r) x2 = oc (ix 4 x2) (some (-1, t)) (fun _ => if irm (tA t 3356 0 r) 10 = 2 then B_X12_tryCap_42 10000 t (nt r) x2 0 0 else some (-1, t)) := by
    have huse : F_X9_use t r = some (irm (tA t 3356 0 r) 10) := by
      unfold F_X9_use
      rw [y2]
    simp (disch := omega) only [F_X12_tryCap, win_eq, r1, dix (show nR < 2147483648 by omega), hx, isS_s, nxt_e, oc_s, oc_n, ob_s, ob2_s, gb_b1, gb_0, gb_1, gw0, gw1, Bool.false_eq_true, Bool.true_eq_false, if_true, if_false, not_true_eq_false, not_false_eq_true, leagueAt_eq hL hG, (show tL _ 3211 0 = 16 from hL 3211 rfl), gd_nt, nt_cl, y1, huse]
  have hm1 : ∀ s, frm scr t s → F_X13_tryCap s (nt r) x2 = if ¬ irm (tA t 3356 0 r) 10 = 2 then some (-1, s) else if (ix 4 x2).isSome = true then B_X13_tryCap_41 10000 s (nt r) x2 0 0 else some (-1, s) := fun s hs => by
    have hLs := Ilen_f hs hL
    have r2s : tI s 1355 0 = nt nR := by rw [(hs.1 1355 rfl).2.1]; exact r2
    have e56 : tA s 3356 = tA t 3356 := (hs.1 3356 rfl).2.2.2.2.1
    simp (disch := omega) only [F_X13_tryCap, in_eq, r2s, dix (show nR < 2147483648 by omega), hx, isS_s, nxt_e, oc_s, oc_n, ob_s, ob2_s, gb_b1, gb_0, gb_1, gw0, gw1, Bool.false_eq_true, Bool.true_eq_false, if_true, if_false, not_true_eq_false, not_false_eq_true, (show tL _ 3356 0 = 16 from hLs 3356 rfl), gd_nt, nt_cl, e56, isLeague_eq]
  by_cases h2 : irm (tA t 3356 0 r) 10 = 2
  case neg =>
    refine hbad ?_ (by rw [hm1 t frm_rf, if_pos h2])
    rw [hc1]
    cases ix 4 x2 with
    | none => rfl
    | some l => rw [oc_s, if_neg h2]
  cases hl4 : ix 4 x2 with
  | none => exact hbad (by rw [hc1, hl4, oc_n]) (by rw [hm1 t frm_rf, hl4, if_neg (fun q => q h2), isS_n, if_neg (by decide)])
  | some l0 =>
  obtain ⟨hl0, rfl⟩ := ix_some hl4
  -- the answers, a club each
  have hgood : ∀ c, c < nB → isCl (tA t 3308 0 c) = true → ∃ x, (x = -1 ∨ 0 ≤ x) ∧ ∀ s, frm scr t s → (∃ s1, F_X12_brokenLine s (some r) (some c) none none = some (x, s1) ∧ frm scr s s1) ∧ ∃ s2, F_X13_firstBroken s (nt r) (nt c) (-1) 0 = some (x, s2) ∧ frm scr s s2 := fun c hc hcc => by
    obtain ⟨-, -, -, -, -, -, -, -, -, ⟨l, hl, hlg⟩, -⟩ := hB.2.2.2.1 c hc
    exact ask2 (u := 2) (who := none) hL hB hC hI hS hM hH0 hU hc hcc hd e1 e2 hl hlg (fun q hq => by cases hq) (by omega) false (r0 := some r) (Or.inr ⟨r, rfl, hr, h2⟩)
  obtain ⟨X, hX⟩ : ∃ X : Nat → Int32, ∀ c, c < nB → isCl (tA t 3308 0 c) = true → (X c = -1 ∨ 0 ≤ X c) ∧ ∀ s, frm scr t s → (∃ s1, F_X12_brokenLine s (some r) (some c) none none = some (X c, s1) ∧ frm scr s s1) ∧ ∃ s2, F_X13_firstBroken s (nt r) (nt c) (-1) 0 = some (X c, s2) ∧ frm scr s s2 := by
    obtain ⟨X, hX⟩ := pickN (P := fun c => c < nB ∧ isCl (tA t 3308 0 c) = true) (R := fun c x => (x = -1 ∨ 0 ≤ x) ∧ ∀ s, frm scr t s → (∃ s1, F_X12_brokenLine s (some r) (some c) none none = some (x, s1) ∧ frm scr s s1) ∧ ∃ s2, F_X13_firstBroken s (nt r) (nt c) (-1) 0 = some (x, s2) ∧ frm scr s s2) (fun c h => hgood c h.1 h.2)
    exact ⟨X, fun c hc hcc => hX c ⟨hc, hcc⟩⟩
  obtain ⟨Q, hQ⟩ : ∃ Q : Nat → Bool, Q = fun c => isCl (tA t 3308 0 c) && (decide (tA t 3309 0 c = nt l0) && decide (0 ≤ X c)) := ⟨_, rfl⟩
  have hcl : ∃ t1, B_X12_tryCap_42 10000 t (nt r) (nt l0) 0 0 = some (nt (cntP Q nB), t1) ∧ frm scr t t1 := by
    obtain ⟨N, hN⟩ : ∃ N : Nat, N = 10000 := ⟨_, rfl⟩
    rw [← hN]
    refine loop_wh (B := fun fu (x : Nat × TS) => B_X12_tryCap_42 fu x.2 (nt r) (nt l0) (nt (cntP Q x.1)) (nt x.1)) (mu := fun x => nB - x.1) (G := fun o => ∃ t1, o = some (nt (cntP Q nB), t1) ∧ frm scr t t1) (P := fun x => x.1 ≤ nB ∧ frm scr t x.2) ?_ N (0, t) ⟨Nat.zero_le _, frm_rf⟩ (by show nB - 0 < N; omega)
    intro fu x hx
    obtain ⟨i, s⟩ := x
    have hi : i ≤ nB := hx.1
    have h : frm scr t s := hx.2
    show (∃ t1, BB_X12_tryCap_42 (B_X12_tryCap_42 fu) s (nt r) (nt l0) (nt (cntP Q i)) (nt i) = _ ∧ _) ∨ ∃ a', BB_X12_tryCap_42 (B_X12_tryCap_42 fu) s (nt r) (nt l0) (nt (cntP Q i)) (nt i) = _ ∧ _
    have hLs := Ilen_f h hL
    have hBs := Ibody_f h (by decide) hB
    unfold BB_X12_tryCap_42 B_X12_tryCap_103
    rw [hBs.2.1, igE (by omega) (by omega)]
    by_cases e : i = nB
    · left
      rw [if_pos (by omega), e]
      exact ⟨s, rfl, h⟩
    right
    have hi2 : i < nB := by omega
    obtain ⟨w1, -, -, w4, w5, -⟩ := hBs.2.2.2.1 i hi2
    have e211 : tQ s 3211 0 r = some r := by rw [(h.1 3211 rfl).2.2.2.2.2.2]; exact y1
    have e08 : tA s 3308 0 i = tA t 3308 0 i := by rw [(h.1 3308 rfl).2.2.2.2.1]
    have e09 : tA s 3309 0 i = tA t 3309 0 i := by rw [(h.1 3309 rfl).2.2.2.2.1]
    have hcs : cntP Q (i + 1) = cntP Q i + (if Q i then 1 else 0) := rfl
    have hskip : Q i = false → nt (cntP Q (i + 1)) = nt (cntP Q i) := fun q => by rw [hcs, q]; rfl
    rw [if_neg (by omega)]
    simp (disch := omega) only [(show tL _ 3203 0 = 150 from hLs 3203 rfl), (show tL _ 3211 0 = 16 from hLs 3211 rfl), gd_nt, nt_cl, w1, e211, nxt_e, oc_s, oc_n, ob_s, ob2_s, gb_b1, gb_0, gb_1, gw0, gw1, X1_isClub_eq, w4, w5, e08, e09, nt_succ]
    by_cases c1 : isCl (tA t 3308 0 i) = true
    case neg =>
      have hq : Q i = false := by rw [hQ]; show (isCl (tA t 3308 0 i) && _) = false; rw [show isCl (tA t 3308 0 i) = false by simpa using c1]; rfl
      rw [if_neg c1]
      exact ⟨(i + 1, s), by rw [hskip hq], ⟨hi2, h⟩, by show nB - (i + 1) < nB - i; omega⟩
    rw [if_pos c1]
    by_cases c2 : tA t 3309 0 i = nt l0
    case neg =>
      have hq : Q i = false := by rw [hQ]; show (isCl (tA t 3308 0 i) && (decide (tA t 3309 0 i = nt l0) && _)) = false; rw [decide_eq_false c2, Bool.false_and, Bool.and_false]
      rw [if_pos c2]
      exact ⟨(i + 1, s), by rw [hskip hq], ⟨hi2, h⟩, by show nB - (i + 1) < nB - i; omega⟩
    rw [if_neg (fun q => q c2)]
    obtain ⟨z0, z⟩ := hX i hi2 c1
    obtain ⟨s1, z1, z2⟩ := (z s h).1
    rw [z1, ob2_s]
    by_cases c3 : 0 ≤ X i
    · have hq : Q i = true := by rw [hQ]; show (isCl (tA t 3308 0 i) && (decide (tA t 3309 0 i = nt l0) && decide (0 ≤ X i))) = true; rw [c1, decide_eq_true c2, decide_eq_true c3]; rfl
      rw [if_neg (Int32.not_lt.mpr c3)]
      exact ⟨(i + 1, s1), by rw [hcs, hq, if_pos rfl], ⟨hi2, frm_tr h z2⟩, by show nB - (i + 1) < nB - i; omega⟩
    · have hq : Q i = false := by rw [hQ]; show (isCl (tA t 3308 0 i) && (decide (tA t 3309 0 i = nt l0) && decide (0 ≤ X i))) = false; rw [decide_eq_false c3, Bool.and_false, Bool.and_false]
      rw [if_pos (Int32.not_le.mp c3)]
      exact ⟨(i + 1, s1), by rw [hskip hq], ⟨hi2, frm_tr h z2⟩, by show nB - (i + 1) < nB - i; omega⟩
  obtain ⟨t1, q1, q2⟩ := hcl
  have hml : ∃ t2, B_X13_tryCap_41 10000 t1 (nt r) (nt l0) 0 0 = some (nt (cntP Q nB), t2) ∧ frm scr t t2 := by
    obtain ⟨N, hN⟩ : ∃ N : Nat, N = 10000 := ⟨_, rfl⟩
    rw [← hN]
    refine loop_wh (B := fun fu (x : Nat × TS) => B_X13_tryCap_41 fu x.2 (nt r) (nt l0) (nt (cntP Q x.1)) (nt x.1)) (mu := fun x => nB - x.1) (G := fun o => ∃ t2, o = some (nt (cntP Q nB), t2) ∧ frm scr t t2) (P := fun x => x.1 ≤ nB ∧ frm scr t x.2) ?_ N (0, t1) ⟨Nat.zero_le _, q2⟩ (by show nB - 0 < N; omega)
    intro fu x hx
    obtain ⟨i, s⟩ := x
    have hi : i ≤ nB := hx.1
    have h : frm scr t s := hx.2
    show (∃ t2, BB_X13_tryCap_41 (B_X13_tryCap_41 fu) s (nt r) (nt l0) (nt (cntP Q i)) (nt i) = _ ∧ _) ∨ ∃ a', BB_X13_tryCap_41 (B_X13_tryCap_41 fu) s (nt r) (nt l0) (nt (cntP Q i)) (nt i) = _ ∧ _
    have hLs := Ilen_f h hL
    have hBs := Mbody_f h (by decide) (IbM hB)
    unfold BB_X13_tryCap_41 B_X13_tryCap_87 B_X13_tryCap_88
    rw [hBs.2.1, igE (by omega) (by omega)]
    by_cases e : i = nB
    · left
      rw [if_pos (by omega), e]
      exact ⟨s, rfl, h⟩
    right
    have hi2 : i < nB := by omega
    have e08 : tA s 3308 0 i = tA t 3308 0 i := by rw [(h.1 3308 rfl).2.2.2.2.1]
    have e09 : tA s 3309 0 i = tA t 3309 0 i := by rw [(h.1 3309 rfl).2.2.2.2.1]
    have hsix : (six isCl s nB (nt i)).isSome = isCl (tA t 3308 0 i) := by
      unfold six
      rw [ix_nt hi2 (by omega), oel_s, e08]
      cases isCl (tA t 3308 0 i) <;> rfl
    have hcs : cntP Q (i + 1) = cntP Q i + (if Q i then 1 else 0) := rfl
    have hskip : Q i = false → nt (cntP Q (i + 1)) = nt (cntP Q i) := fun q => by rw [hcs, q]; rfl
    rw [if_neg (by omega), isClub_eqM hLs hBs, ob_s, gw0, hsix]
    simp (disch := omega) only [(show tL _ 3309 0 = 150 from hLs 3309 rfl), gd_nt, nt_cl, e09, nt_succ, Int32.add_zero]
    by_cases c1 : isCl (tA t 3308 0 i) = true
    case neg =>
      have hq : Q i = false := by rw [hQ]; show (isCl (tA t 3308 0 i) && _) = false; rw [show isCl (tA t 3308 0 i) = false by simpa using c1]; rfl
      rw [if_neg c1]
      exact ⟨(i + 1, s), by rw [hskip hq], ⟨hi2, h⟩, by show nB - (i + 1) < nB - i; omega⟩
    rw [if_pos c1]
    by_cases c2 : tA t 3309 0 i = nt l0
    case neg =>
      have hq : Q i = false := by rw [hQ]; show (isCl (tA t 3308 0 i) && (decide (tA t 3309 0 i = nt l0) && _)) = false; rw [decide_eq_false c2, Bool.false_and, Bool.and_false]
      rw [if_pos c2]
      exact ⟨(i + 1, s), by rw [hskip hq], ⟨hi2, h⟩, by show nB - (i + 1) < nB - i; omega⟩
    rw [if_neg (fun q => q c2)]
    obtain ⟨z0, z⟩ := hX i hi2 c1
    obtain ⟨s2, z1, z2⟩ := (z s h).2
    rw [z1, ob2_s]
    by_cases c3 : 0 ≤ X i
    · have hq : Q i = true := by rw [hQ]; show (isCl (tA t 3308 0 i) && (decide (tA t 3309 0 i = nt l0) && decide (0 ≤ X i))) = true; rw [c1, decide_eq_true c2, decide_eq_true c3]; rfl
      rw [if_neg (Int32.not_lt.mpr c3)]
      exact ⟨(i + 1, s2), by rw [hcs, hq, if_pos rfl], ⟨hi2, frm_tr h z2⟩, by show nB - (i + 1) < nB - i; omega⟩
    · have hq : Q i = false := by rw [hQ]; show (isCl (tA t 3308 0 i) && (decide (tA t 3309 0 i = nt l0) && decide (0 ≤ X i))) = false; rw [decide_eq_false c3, Bool.and_false, Bool.and_false]
      rw [if_pos (Int32.not_le.mp c3)]
      exact ⟨(i + 1, s2), by rw [hskip hq], ⟨hi2, frm_tr h z2⟩, by show nB - (i + 1) < nB - i; omega⟩
  obtain ⟨t2, p1, p2⟩ := hml
  refine ⟨nt (cntP Q nB), t1, t2, ?_, ?_, p2⟩
  · rw [hc1, hl4, oc_s, if_pos h2, q1]
  · show F_X13_tryCap t1 (nt r) (nt l0) = _
    rw [hm1 t1 q2, if_neg (fun q => q h2), hl4, isS_s, if_pos rfl, p1]
end
