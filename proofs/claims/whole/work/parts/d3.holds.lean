/-! PART d3: both ask a rule; holds. -/
section
variable {t : TS} {nB nS nM nR c l d u : Nat} {who : Option Nat}
theorem irm_u {l u : Nat} (hl : l < 4) (hu : u < 3) : (10 : Int32) * nt l + nt u = nt (10 * l + u) ∧ irm (nt (10 * l + u)) 10 = nt u := by
  refine ⟨by rw [show (10 : Int32) = nt 10 from rfl, nt_mul, nt_add], ?_⟩
  rw [show (10 : Int32) = nt 10 from rfl, nt_irm (by omega) (by omega)]
  exact congrArg nt (by omega)
theorem ask (hL : Ilen t) (hB : Ibody nB t) (hC : Icoin nB t) (hI : Iinc nB t) (hS : Ispan nB nS nM t) (hM : Imove nB nS nM t) (hH : Irh nR t) (hU : Irule nR t) (hc : c < nB) (hcl : isCl (tA t 3308 0 c) = true) (hd : d ≤ 2999) (hday : tI t 1200 0 = nt d) (hday2 : tI t 1301 0 = nt d) (hl : l < 4) (hlg : tA t 3309 0 c = nt l) (hw : ∀ q, who = some q → q < nB) (hu : u < 3) (joins : Bool) {r0 : Option Nat} (hr0 : (r0 = lastP (rf t (10 * nt l + nt u) (nt d) (nt d)) nR) ∨ ∃ r, r0 = some r ∧ r < nR ∧ irm (tA t 3356 0 r) 10 = nt u) : ∃ x t1, F_X12_brokenLine t r0 (some c) (if u = 0 then who else none) (if joins then who else none) = some (x, t1) ∧ frm scr t t1 ∧ (x = -1 ∨ 0 ≤ x) ∧ ∀ s, frm scr t s → ∃ t2, F_X13_firstBroken s (oel r0 (-2) nt) (nt c) (enc who) (b1 joins) = some (x, t2) ∧ frm scr s t2 := by
  have h16 := hH.1
  obtain ⟨e1, e2⟩ := irm_u hl hu
  have hcase : r0 = none ∨ ∃ r, r0 = some r ∧ r < nR ∧ irm (tA t 3356 0 r) 10 = nt u := by
    rcases hr0 with h | h
    · cases ho : lastP (rf t (10 * nt l + nt u) (nt d) (nt d)) nR with
      | none => exact Or.inl (h.trans ho)
      | some r =>
        refine Or.inr ⟨r, h.trans ho, (lastP_lt ho).1, ?_⟩
        have hp := (lastP_lt ho).2
        unfold rf at hp
        simp only [Bool.and_eq_true, decide_eq_true_eq] at hp
        rw [hp.1, e1, e2]
    · exact Or.inr h
  rcases hcase with h | ⟨r, h, hr, hirm⟩
  · subst h
    refine ⟨-1, t, rfl, frm_rf, Or.inl rfl, fun s hs => ⟨s, ?_, frm_rf⟩⟩
    unfold F_X13_firstBroken
    rw [oel_n, if_neg (by decide)]
  · subst h
    have hwc : ∀ q, (if u = 0 then who else none) = some q → q < nB := fun q hq => by
      by_cases e : u = 0
      · rw [if_pos e] at hq; exact hw q hq
      · rw [if_neg e] at hq; cases hq
    obtain ⟨ls, t1, a1, a2, a3, a4, a5, a6⟩ := brokenLine_c (more := if joins then who else none) hL hB hC hI hS hM hc hcl hd hday hl hlg hwc (hU.1 r hr)
    refine ⟨_, t1, a5, a6, ?_, fun s hs => ?_⟩
    · cases hz : fz (fun w => figv t nB nS nM c l d (if u = 0 then who else none) (if joins then who else none) w.toNatClampNeg) ls with
      | none => exact Or.inl rfl
      | some i =>
        right
        have : i ≤ ls.length := by
          have hfz : ∀ (V : Int32 → Int32) (xs : List (List (Int32 × Int32))) i, fz V xs = some i → i < xs.length := by
            intro V xs
            induction xs with
            | nil => intro i h; cases h
            | cons y ys ih =>
              intro i h
              unfold fz at h
              by_cases e : vl V y = 0
              · rw [if_pos e] at h; cases h; exact Nat.zero_lt_succ _
              · rw [if_neg e] at h
                cases hy : fz V ys with
                | none => rw [hy, oel_n] at h; cases h
                | some k =>
                  rw [hy, oel_s] at h
                  cases h
                  have := ih k hy
                  show k + 1 < ys.length + 1
                  omega
          exact Nat.le_of_lt (hfz _ ls i hz)
        rw [oel_s]
        exact nt_nn (by omega)
    · have hLs := Ilen_f hs hL
      have hst : rSt s r ls := by
        unfold rSt at a1 ⊢
        rw [(hs.1 3359 rfl).2.2.2.2.1, (hs.1 3360 rfl).2.2.2.2.1, (hs.1 3361 rfl).2.2.2.2.1, (hs.1 3362 rfl).2.2.2.2.1]
        exact a1
      obtain ⟨t2, b1_, b2⟩ := firstBroken_m (t := s) (who := who) hLs (Mbody_f hs (by decide) (IbM hB)) (Mspan_f hs (by decide) (IsM hS)) (Mmove_f hs (by decide) (ImM hM)) hc hd (by rw [(hs.1 1301 rfl).2.1]; exact hday2) hl (by rw [(hs.1 3309 rfl).2.2.2.2.1]; exact hlg) hw (show r < 16 by omega) hst a2 a3 a4 joins
      have e56 : tA s 3356 0 r = tA t 3356 0 r := by rw [(hs.1 3356 rfl).2.2.2.2.1]
      have hwh : (if irm (tA s 3356 0 r) 10 = 0 then who else none) = if u = 0 then who else none := by
        rw [e56, hirm]
        have : (nt u = 0) = (u = 0) := eq_nt (n := 0) (by omega) (by omega)
        exact ifP this
      have hfg : (fun w : Int32 => figv s nB nS nM c l d (if irm (tA s 3356 0 r) 10 = 0 then who else none) (if joins then who else none) w.toNatClampNeg) = fun w => figv t nB nS nM c l d (if u = 0 then who else none) (if joins then who else none) w.toNatClampNeg := by
        funext w
        rw [hwh]
        exact figv_f hs (by decide)
      rw [hfg] at b1_
      exact ⟨t2, b1_, b2⟩
theorem m_holds (x1 x2 x3 : Int32) (hL : Ilen t) (hT : Itime t) (hB : Ibody nB t) (hC : Icoin nB t) (hI : Iinc nB t) (hS : Ispan nB nS nM t) (hM : Imove nB nS nM t) (hH : Irh nR t) (hU : Irule nR t) : Eqm (F_X12_holds t x1 x2 x3) (fun t => F_X13_holds t x1 x2 x3) (fun t2 => frm scr t t2) := by
  obtain ⟨d, mi, hd, hmi, e1, e2, e3, e4⟩ := hT
  have h150 := hB.1
  have hbad : ∀ r, F_X12_holds t x1 x2 x3 = some (r, t) → F_X13_holds t x1 x2 x3 = some (r, t) → Eqm (F_X12_holds t x1 x2 x3) (fun t => F_X13_holds t x1 x2 x3) (fun t2 => frm scr t t2) := fun r h1 h2 => ⟨r, t, t, h1, h2, frm_rf⟩
  by_cases h1 : 0 ≤ x1 ∧ x1 ≤ 2
  case neg =>
    refine hbad (-1) ?_ ?_
    · have h41 : ∀ a b s, B_X12_holds_41 t x1 a b s = some (-1, t) := fun a b s => by
        unfold B_X12_holds_41
        rw [win_eq, ob_s, decide_eq_false h1, gw0, if_neg (by decide)]
      simp only [F_X12_holds, clubAt_eq hL hB, playerAt_eq hL hB, nxt_e, oc_s, oc_n, ob_s, ob2_s, gb_b1, gb_0, gb_1, gw0, gw1, h41, ite_self]
      cases six isPl t nB x3 with
      | none => simp only [oc_n, ite_self]
      | some p => simp only [oc_s, ite_self]
    · simp only [F_X13_holds, in_eq, decide_eq_false h1, nxt_e, oc_s, oc_n, ob_s, ob2_s, gb_b1, gb_0, gb_1, gw0, gw1, Bool.false_eq_true, Bool.true_eq_false, if_true, if_false, not_true_eq_false, not_false_eq_true]
  obtain ⟨u, hu, rfl⟩ := nt_exb (b := 2) h1.1 (by omega) h1.2
  have hz : (nt u = 0) = (u = 0) := eq_nt (n := 0) (by omega) (by omega)
  cases hy : six isCl t nB x2 with
  | none =>
    refine hbad (-1) ?_ ?_
    · have h41 : ∀ b s, B_X12_holds_41 t (nt u) none b s = some (-1, t) := fun b s => by
        unfold B_X12_holds_41
        rw [win_eq, ob_s, decide_eq_true h1, gw0, if_pos rfl, oc_n]
      simp only [F_X12_holds, clubAt_eq hL hB, playerAt_eq hL hB, hy, nxt_e, oc_s, oc_n, ob_s, ob2_s, gb_b1, gb_0, gb_1, gw0, gw1, h41, ite_self]
      cases six isPl t nB x3 with
      | none => simp only [oc_n, ite_self]
      | some p => simp only [oc_s, ite_self]
    · simp only [F_X13_holds, in_eq, decide_eq_true h1, isClub_eq hL hB, hy, isS_n, nxt_e, oc_s, oc_n, ob_s, ob2_s, gb_b1, gb_0, gb_1, gw0, gw1, Bool.false_eq_true, Bool.true_eq_false, if_true, if_false, not_true_eq_false, not_false_eq_true]
  | some c =>
  obtain ⟨hc, rfl, hcc⟩ := six_some hy
  obtain ⟨-, -, -, -, -, -, -, -, -, ⟨l, hl, hlg⟩, -⟩ := hB.2.2.2.1 c hc
  -- the question itself
  have go : ∀ who : Option Nat, (∀ q, who = some q → q < nB) → (¬ u = 0 → who = none) → F_X12_holds t (nt u) (nt c) x3 = B_X12_holds_41 t (nt u) (some c) who 1 → x3 = enc who → (∀ s, frm scr t s → F_X13_holds s (nt u) (nt c) x3 = B_X13_holds_39 s (nt u) (nt c) x3) → Eqm (F_X12_holds t (nt u) (nt c) x3) (fun t => F_X13_holds t (nt u) (nt c) x3) (fun t2 => frm scr t t2) := by
    intro who hw hwu hcl hx hmo
    obtain ⟨x, t1, a1, a2, a3, a4⟩ := ask (u := u) (who := who) hL hB hC hI hS hM hH hU hc hcc hd e1 e2 hl hlg hw (by omega) false (Or.inl rfl)
    obtain ⟨t2, b1_, b2⟩ := a4 t1 a2
    have hwc : (if u = 0 then who else none) = who := by
      by_cases e : u = 0
      · rw [if_pos e]
      · rw [if_neg e, hwu e]
    rw [hwc] at a1
    have hxx : ∀ v : TS, (if 0 ≤ x then some (x, v) else some (-2, v)) = some (if 0 ≤ x then x else -2, v) := fun v => by split <;> rfl
    have n10 : ¬ (1 : Int32) = 0 := by decide
    refine ⟨if 0 ≤ x then x else -2, t1, t2, ?_, ?_, frm_tr a2 b2⟩
    · rw [hcl]
      unfold B_X12_holds_41
      have a1' : F_X12_brokenLine t (lastP (rf t (10 * nt l + nt u) (nt d) (nt d)) nR) (some c) who none = some (x, t1) := a1
      rw [win_eq, ob_s, decide_eq_true h1, gw0, if_pos rfl, oc_s, if_pos n10, ruleToday_eq hL hB hH hc e1 hlg, ob_s, a1', ob2_s, hxx]
    · show F_X13_holds t1 (nt u) (nt c) x3 = _
      have hL1 := Ilen_f a2 hL
      rw [hmo t1 a2]
      unfold B_X13_holds_39
      have b1' : F_X13_firstBroken t1 (oel (lastP (rf t (10 * nt l + nt u) (nt d) (nt d)) nR) (-2) nt) (nt c) x3 0 = some (x, t2) := by rw [hx]; exact b1_
      have hMr : Mrh nR t1 := ⟨hH.1, by rw [(a2.1 1355 rfl).2.1]; exact hH.2.2.1⟩
      rw [(show tL _ 3309 0 = 150 from hL1 3309 rfl), gd_nt _ (by omega) (by omega), nt_cl (by omega), (a2.1 3309 rfl).2.2.2.2.1, hlg, (a2.1 1301 rfl).2.1, e2, forceOf_eqM hL1 hMr, ob_s, rf_f a2 (by decide), b1', ob2_s, hxx]
  have hmb : ∀ s, frm scr t s → F_X13_holds s (nt u) (nt c) x3 = (if ¬ nt u = 0 then (if x3 = -1 then B_X13_holds_39 s (nt u) (nt c) x3 else some (-1, s)) else Option.bind (F_X13_isPlayer s x3) (fun r23 => if ¬ r23 = 0 then B_X13_holds_39 s (nt u) (nt c) x3 else some (-1, s))) := fun s hs => by
    have hy1 : six isCl s nB (nt c) = some c := by unfold six; rw [(hs.1 3308 rfl).2.2.2.2.1]; exact hy
    simp only [F_X13_holds, in_eq, decide_eq_true h1, isClub_eqM (Ilen_f hs hL) (Mbody_f hs (by decide) (IbM hB)), hy1, isS_s, nxt_e, oc_s, oc_n, ob_s, ob2_s, gb_b1, gb_0, gb_1, gw0, gw1, Bool.false_eq_true, Bool.true_eq_false, if_true, if_false, not_true_eq_false, not_false_eq_true]
  by_cases hu0 : u = 0
  · have hun : (¬ nt u = 0) = False := eq_false (fun q => q (by rw [hu0]; rfl))
    cases hp : six isPl t nB x3 with
    | none =>
      refine hbad (-1) ?_ ?_
      · have h41 : B_X12_holds_41 t (nt u) (some c) none 0 = some (-1, t) := by
          unfold B_X12_holds_41
          rw [win_eq, ob_s, decide_eq_true h1, gw0, if_pos rfl, oc_s, if_neg (fun q => q rfl)]
        simp only [F_X12_holds, clubAt_eq hL hB, playerAt_eq hL hB, hy, hp, nxt_e, oc_s, oc_n, ob_s, ob2_s, gb_b1, gb_0, gb_1, gw0, gw1, hun, if_false, h41]
      · rw [hmb t frm_rf, isPlayer_eq hL hB, hp]
        simp only [hun, isS_n, nxt_e, oc_s, oc_n, ob_s, ob2_s, gb_b1, gb_0, gb_1, gw0, gw1, Bool.false_eq_true, Bool.true_eq_false, if_true, if_false, not_true_eq_false, not_false_eq_true]
    | some p =>
      obtain ⟨hpB, hpx, hpp⟩ := six_some hp
      refine go (some p) (fun q hq => by rw [← Option.some.inj hq]; exact hpB) (fun q => absurd hu0 q) ?_ hpx ?_
      · simp only [F_X12_holds, clubAt_eq hL hB, playerAt_eq hL hB, hy, hp, nxt_e, oc_s, oc_n, ob_s, ob2_s, gb_b1, gb_0, gb_1, gw0, gw1, hun, if_false]
      · intro s hs
        have hp1 : six isPl s nB x3 = some p := by unfold six; rw [(hs.1 3308 rfl).2.2.2.2.1]; exact hp
        rw [hmb s hs, isPlayer_eqM (Ilen_f hs hL) (Mbody_f hs (by decide) (IbM hB)), hp1]
        simp only [hun, isS_s, nxt_e, oc_s, oc_n, ob_s, ob2_s, gb_b1, gb_0, gb_1, gw0, gw1, Bool.false_eq_true, Bool.true_eq_false, if_true, if_false, not_true_eq_false, not_false_eq_true]
  · have hun : (¬ nt u = 0) = True := eq_true (fun q => hu0 ((nt_inj (b := 0) (by omega) (by omega)).mp q))
    by_cases hx3 : x3 = -1
    · have hp : six isPl t nB x3 = none := by
        cases h : six isPl t nB x3 with
        | none => rfl
        | some p =>
          obtain ⟨hpB, hpx, -⟩ := six_some h
          rw [hx3] at hpx
          exact absurd hpx.symm (nneg (by omega))
      refine go none (fun q hq => by cases hq) (fun _ => rfl) ?_ hx3 ?_
      · have hx3n : (¬ x3 = -1) = False := eq_false (fun q => q hx3)
        simp only [F_X12_holds, clubAt_eq hL hB, playerAt_eq hL hB, hy, hp, nxt_e, oc_s, oc_n, ob_s, ob2_s, gb_b1, gb_0, gb_1, gw0, gw1, hun, hx3n, if_true, if_false]
      · intro s hs
        rw [hmb s hs]
        simp only [hun, if_true, hx3]
    · have hx3n : (¬ x3 = -1) = True := eq_true hx3
      refine hbad (-1) ?_ ?_
      · have h41 : ∀ b, B_X12_holds_41 t (nt u) (some c) b 0 = some (-1, t) := fun b => by
          unfold B_X12_holds_41
          rw [win_eq, ob_s, decide_eq_true h1, gw0, if_pos rfl, oc_s, if_neg (fun q => q rfl)]
        simp only [F_X12_holds, clubAt_eq hL hB, playerAt_eq hL hB, hy, nxt_e, oc_s, oc_n, ob_s, ob2_s, gb_b1, gb_0, gb_1, gw0, gw1, hun, hx3n, if_true, h41]
      · rw [hmb t frm_rf]
        simp only [hun, if_true]
        rw [if_neg hx3]
end
