/-! PART c8: the model works the steps of a line. -/
def pSt (u : TS) : List Int32 → Prop
  | [] => True
  | v :: st => tA u 3369 0 st.length = v ∧ pSt u st
theorem pSt_w {u : TS} {i : Nat} {v : Int32} : ∀ st : List Int32, st.length ≤ i → pSt u st → pSt (uA u 3369 0 i v) st
  | [], _, _ => trivial
  | a :: st, h, hp => by
    have h' : st.length + 1 ≤ i := h
    refine ⟨?_, pSt_w st (by omega) hp.2⟩
    rw [A_uA, m1_s, m1_n (by omega)]
    exact hp.1
theorem both_eq (t : TS) (k a b : Int32) : F_X13_both t k a b = some (bothP k a b) := by
  unfold F_X13_both bothP B_X13_both_127 B_X13_both_190
  simp only [swl]
  have e4 : Int32.ofInt 4 = 4 := rfl
  have e37 : Int32.ofInt 37 = 37 := rfl
  have e42 : Int32.ofInt 42 = 42 := rfl
  have e43 : Int32.ofInt 43 = 43 := rfl
  have e45 : Int32.ofInt 45 = 45 := rfl
  have e47 : Int32.ofInt 47 = 47 := rfl
  have e60 : Int32.ofInt 60 = 60 := rfl
  have e61 : Int32.ofInt 61 = 61 := rfl
  have e62 : Int32.ofInt 62 = 62 := rfl
  rw [e4, e37, e42, e43, e45, e47, e60, e61, e62]
  by_cases c4 : k = 4
  · subst c4
    by_cases x : a = 0 <;> by_cases y : b = 0 <;> simp [x, y]
  by_cases c37 : k = 37
  · subst c37
    by_cases y : b = 0
    · simp [y]
    · by_cases z : b = -1
      · simp [z]
      · simp [y, z, gz]
  by_cases c42 : k = 42
  · subst c42; simp
  by_cases c43 : k = 43
  · subst c43; simp
  by_cases c45 : k = 45
  · subst c45; simp
  by_cases c47 : k = 47
  · subst c47
    by_cases y : b = 0
    · simp [y]
    · by_cases z : b = -1
      · simp [z]
      · simp [y, z, gz]
  by_cases c60 : k = 60
  · subst c60
    by_cases y : a < b
    · have : ¬ b ≤ a := Int32.not_le.mpr y
      simp [y, this]
    · have : b ≤ a := Int32.not_lt.mp y
      simp [y, this]
  by_cases c61 : k = 61
  · subst c61
    by_cases y : a = b <;> simp [y]
  by_cases c62 : k = 62
  · subst c62
    by_cases y : b < a
    · have : ¬ a ≤ b := Int32.not_le.mpr y
      simp [y, this]
    · have : a ≤ b := Int32.not_lt.mp y
      simp [y, this]
  by_cases x : a = 0 <;> by_cases y : b = 0 <;> simp [x, y, c4, c37, c42, c43, c45, c47, c60, c61, c62]
section
variable {R : Nat} {F : Nat → Int32}
theorem work_go (hR : R < 17) : ∀ c (u : TS) st base b fu e, Ilen u → tA u 3368 0 = F → pSt u st → dp c st.length = some e → st.length + c.length ≤ 200 → (∀ j, j < c.length → tA u 3361 0 (base + j) = (c.getD j (0, 0)).1 ∧ tA u 3362 0 (base + j) = (c.getD j (0, 0)).2) → base + c.length = 200 * R + b → base + c.length ≤ 3400 → c.length < fu → ∃ u', B_X13_worked_12 fu u (nt R) (nt b) (nt st.length) (nt base) = some (tA u' 3369 0 0, u') ∧ frm (ks [3369]) u u' ∧ pSt u' (ev (VV F) c st)
  | [], u, st, base, b, fu, e, hL, hF, hp, hd, hlen, hc, hb, h34, hfu => by
    obtain ⟨fu, rfl⟩ : ∃ k, fu = k + 1 := ⟨fu - 1, by have : 0 < fu := hfu; omega⟩
    have hb' : base = 200 * R + b := hb
    refine ⟨u, ?_, frm_rf, hp⟩
    show BB_X13_worked_12 (B_X13_worked_12 fu) u _ _ _ _ = _
    unfold BB_X13_worked_12
    have h3 : base ≤ 3400 := h34
    rw [show (200 : Int32) * nt R + nt b = nt (200 * R + b) by rw [show (200 : Int32) = nt 200 from rfl, nt_mul, nt_add], igE (by omega) (by omega), if_pos (by omega), (show tL _ 3369 0 = 200 from hL 3369 rfl)]
    show gd (nt 0) 200 (some (tA u 3369 0 0, u)) = _
    rw [gd_nt _ (by omega) (by omega)]
  | s :: c, u, st, base, b, fu, e, hL, hF, hp, hd, hlen, hc, hb, h34, hfu => by
    obtain ⟨fu, rfl⟩ : ∃ k, fu = k + 1 := ⟨fu - 1, by omega⟩
    have hlen' : st.length + (c.length + 1) ≤ 200 := hlen
    have hb' : base + (c.length + 1) = 200 * R + b := hb
    have h34' : base + (c.length + 1) ≤ 3400 := h34
    have hfu' : c.length + 1 < fu + 1 := hfu
    obtain ⟨k1, k2_⟩ := hc 0 (by show 0 < c.length + 1; omega)
    have k1' : tA u 3361 0 base = s.1 := k1
    have k2' : tA u 3362 0 base = s.2 := k2_
    have hcc : ∀ j, j < c.length → tA u 3361 0 (base + 1 + j) = (c.getD j (0, 0)).1 ∧ tA u 3362 0 (base + 1 + j) = (c.getD j (0, 0)).2 := fun j hj => by
      have := hc (j + 1) (by show j + 1 < c.length + 1; omega)
      rw [List.getD_cons_succ, show base + (j + 1) = base + 1 + j by omega] at this
      exact this
    -- what a write to the pile leaves
    have next : ∀ i v st', i < 200 → pSt (uA u 3369 0 i v) st' → dp c st'.length = some e → st'.length + c.length ≤ 200 → evS (VV F) s st = st' → ∃ u', B_X13_worked_12 fu (uA u 3369 0 i v) (nt R) (nt b) (nt st'.length) (nt (base + 1)) = some (tA u' 3369 0 0, u') ∧ frm (ks [3369]) u u' ∧ pSt u' (ev (VV F) (s :: c) st) := by
      intro i v st' _ hp' hd' hl' he
      have f1 : frm (ks [3369]) u (uA u 3369 0 i v) := frm_uA rfl
      obtain ⟨u', q1, q2, q3⟩ := work_go hR c (uA u 3369 0 i v) st' (base + 1) b fu e (Ilen_f f1 hL) (by rw [A_uA_n (by decide)]; exact hF) hp' hd' hl' (fun j hj => by rw [A_uA_n (by decide), A_uA_n (by decide)]; exact hcc j hj) (by omega) (by omega) (by omega)
      refine ⟨u', q1, frm_tr f1 q2, ?_⟩
      show pSt u' (ev (VV F) c (evS (VV F) s st))
      rw [he]
      exact q3
    have hun : B_X13_worked_12 (fu + 1) u (nt R) (nt b) (nt st.length) (nt base) = (if s.1 = 1 then (B_X13_worked_45 (B_X13_worked_12 fu) u (nt R) (nt b) (nt st.length) (nt base) s.1) else (if ¬ s.1 = 2 then (if ¬ s.1 = 3 then (gd ((nt st.length + (-1)) - 1) 200 (gd (nt st.length + (-1)) 200 (Option.bind (F_X13_both u s.1 (tA u 3369 0 ((nt st.length + (-1)) - 1).toNatClampNeg) (tA u 3369 0 (nt st.length + (-1)).toNatClampNeg)) (fun r21 => (gd ((nt st.length + (-1)) - 1) 200 (nxt (uA u 3369 0 ((nt st.length + (-1)) - 1).toNatClampNeg r21) (fun t22 => (B_X13_worked_154 (B_X13_worked_12 fu) t22 (nt R) (nt b) (nt st.length + (-1)) (nt base))))))))) else (gd (nt st.length - 1) 200 (if ¬ (tA u 3369 0 (nt st.length - 1).toNatClampNeg) = 0 then (B_X13_worked_117 (B_X13_worked_12 fu) u (nt R) (nt b) (nt st.length) (nt base) 0 (nt st.length - 1)) else (B_X13_worked_117 (B_X13_worked_12 fu) u (nt R) (nt b) (nt st.length) (nt base) 1 (nt st.length - 1))))) else (B_X13_worked_45 (B_X13_worked_12 fu) u (nt R) (nt b) (nt st.length) (nt base) s.1))) := by
      show BB_X13_worked_12 (B_X13_worked_12 fu) u _ _ _ _ = _
      unfold BB_X13_worked_12
      rw [show (200 : Int32) * nt R + nt b = nt (200 * R + b) by rw [show (200 : Int32) = nt 200 from rfl, nt_mul, nt_add], igE (by omega) (by omega), if_neg (by omega), (show tL _ 3361 0 = 3400 from hL 3361 rfl), (show tL _ 3369 0 = 200 from hL 3369 rfl), gd_nt _ (by omega) (by omega), nt_cl (by omega), k1']
    rw [hun]
    have hd0 : oel (dpS s st.length) none (dp c) = some e := hd
    unfold dpS at hd0
    have ends : ∀ i v, i < 200 → B_X13_worked_79 (B_X13_worked_12 fu) u (nt R) (nt b) (nt i) (nt base) v (nt i) = B_X13_worked_12 fu (uA u 3369 0 i v) (nt R) (nt b) (nt (i + 1)) (nt (base + 1)) := by
      intro i v hi
      unfold B_X13_worked_79 B_X13_worked_154
      rw [(show tL _ 3369 0 = 200 from hL 3369 rfl), gd_nt _ (by omega) (by omega), nxt_e, nt_cl (by omega), nt_succ, nt_succ]
    have push : ∀ v, evS (VV F) s st = v :: st → dp c (st.length + 1) = some e → ∃ u', B_X13_worked_12 fu (uA u 3369 0 st.length v) (nt R) (nt b) (nt (st.length + 1)) (nt (base + 1)) = some (tA u' 3369 0 0, u') ∧ frm (ks [3369]) u u' ∧ pSt u' (ev (VV F) (s :: c) st) := by
      intro v he hd'
      exact next st.length v (v :: st) (by omega) ⟨by rw [A_uA, m1_s, m1_s], pSt_w st (Nat.le_refl _) hp⟩ hd' (by show st.length + 1 + c.length ≤ 200; omega) he
    by_cases c1 : s.1 = 1
    · rw [if_pos c1] at hd0 ⊢
      rw [oel_s] at hd0
      unfold B_X13_worked_45
      rw [if_neg (fun q => q c1), (show tL _ 3362 0 = 3400 from hL 3362 rfl), gd_nt _ (by omega) (by omega), nt_cl (by omega), k2', ends _ _ (by omega)]
      exact push s.2 (if_pos c1) hd0
    rw [if_neg c1] at hd0 ⊢
    by_cases c2 : s.1 = 2
    · rw [if_pos c2] at hd0
      rw [if_neg (fun q => q c2)]
      cases hx : ix 12 s.2 with
      | none => rw [hx, if_neg (show ¬ (none : Option Nat).isSome = true by decide), oel_n] at hd0; cases hd0
      | some k =>
        obtain ⟨hk, hk2⟩ := ix_some hx
        rw [hx, if_pos (show (some k).isSome = true from rfl), oel_s] at hd0
        unfold B_X13_worked_45
        rw [if_pos c1, (show tL _ 3362 0 = 3400 from hL 3362 rfl), (show tL _ 3368 0 = 12 from hL 3368 rfl), gd_nt _ (by omega) (by omega), nt_cl (by omega), k2', hk2, gd_nt _ (by omega) (by omega), nt_cl (by omega), hF, ends _ _ (by omega)]
        refine push (F k) ?_ hd0
        unfold evS
        rw [if_neg c1, if_pos c2, hk2]
        unfold VV
        rw [nt_cl (by omega)]
    rw [if_neg c2] at hd0
    rw [if_pos c2]
    by_cases c3 : s.1 = 3
    · rw [if_pos c3] at hd0
      rw [if_neg (fun q => q c3)]
      cases st with
      | nil => rw [if_neg (show ¬ 1 ≤ ([] : List Int32).length by decide), oel_n] at hd0; cases hd0
      | cons a st =>
        obtain ⟨hp1, hp2⟩ := hp
        have hl2 : st.length + 1 + (c.length + 1) ≤ 200 := hlen'
        rw [if_pos (show 1 ≤ (a :: st).length from Nat.le_add_left 1 st.length), oel_s] at hd0
        have el : (nt (a :: st).length : Int32) - 1 = nt st.length := nt_pred st.length
        have e117 : ∀ v, B_X13_worked_117 (B_X13_worked_12 fu) u (nt R) (nt b) (nt (a :: st).length) (nt base) v (nt st.length) = B_X13_worked_12 fu (uA u 3369 0 st.length v) (nt R) (nt b) (nt (a :: st).length) (nt (base + 1)) := by
          intro v
          unfold B_X13_worked_117 B_X13_worked_154
          rw [(show tL _ 3369 0 = 200 from hL 3369 rfl), gd_nt _ (by omega) (by omega), nxt_e, nt_cl (by omega), nt_succ]
        have hev : evS (VV F) s (a :: st) = (if a = 0 then 1 else 0) :: st := by
          unfold evS
          rw [if_neg c1, if_neg c2, if_pos c3]
          rfl
        rw [el, gd_nt _ (by omega) (by omega), nt_cl (by omega), hp1, e117, e117]
        by_cases z : a = 0
        · rw [if_neg (fun q => q z)]
          exact next st.length 1 (1 :: st) (by omega) ⟨by rw [A_uA, m1_s, m1_s], pSt_w st (Nat.le_refl _) hp2⟩ hd0 (by show st.length + 1 + c.length ≤ 200; omega) (by rw [hev, if_pos z])
        · rw [if_pos z]
          exact next st.length 0 (0 :: st) (by omega) ⟨by rw [A_uA, m1_s, m1_s], pSt_w st (Nat.le_refl _) hp2⟩ hd0 (by show st.length + 1 + c.length ≤ 200; omega) (by rw [hev, if_neg z])
    rw [if_neg c3] at hd0
    rw [if_pos c3]
    cases st with
    | nil => rw [if_neg (show ¬ 2 ≤ ([] : List Int32).length by decide), oel_n] at hd0; cases hd0
    | cons y st =>
      cases st with
      | nil => rw [if_neg (show ¬ 2 ≤ [y].length by show ¬ 2 ≤ 1; omega), oel_n] at hd0; cases hd0
      | cons x st =>
        obtain ⟨hp1, hp2, hp3⟩ := hp
        have hp1' : tA u 3369 0 (st.length + 1) = y := hp1
        have hl2 : st.length + 1 + 1 + (c.length + 1) ≤ 200 := hlen'
        rw [if_pos (show 2 ≤ (y :: x :: st).length by show 2 ≤ st.length + 1 + 1; omega), oel_s] at hd0
        have el : (nt (y :: x :: st).length : Int32) + (-1) = nt (st.length + 1) := nt_predm (st.length + 1)
        have el2 : (nt (st.length + 1) : Int32) - 1 = nt st.length := nt_pred st.length
        have hev : evS (VV F) s (y :: x :: st) = bothP s.1 x y :: st := by
          unfold evS
          rw [if_neg c1, if_neg c2, if_neg c3]
          rfl
        rw [el, el2, gd_nt _ (by omega) (by omega), gd_nt _ (by omega) (by omega), nt_cl (by omega), nt_cl (by omega), hp1', hp2, both_eq, ob_s, gd_nt _ (by omega) (by omega), nxt_e]
        unfold B_X13_worked_154
        rw [nt_succ]
        exact next st.length (bothP s.1 x y) (bothP s.1 x y :: st) (by omega) ⟨by rw [A_uA, m1_s, m1_s], pSt_w st (Nat.le_refl _) hp3⟩ hd0 (by show st.length + 1 + c.length ≤ 200; omega) hev
/-- a whole line -/
theorem worked_eq (hR : R < 17) {c : List (Int32 × Int32)} {u : TS} {a b : Nat} (hL : Ilen u) (hF : tA u 3368 0 = F) (hw : wfc c) (hl : c.length ≤ 200) (hc : ∀ j, j < c.length → tA u 3361 0 (200 * R + a + j) = (c.getD j (0, 0)).1 ∧ tA u 3362 0 (200 * R + a + j) = (c.getD j (0, 0)).2) (hb : a + c.length = b) (h200 : b ≤ 200) {x : Int32} (hx : isV (VV F) c x) : ∃ u', F_X13_worked u (nt R) (nt a) (nt b) = some (x, u') ∧ frm (ks [3369]) u u' := by
  obtain ⟨N, hN⟩ : ∃ N : Nat, N = 10000 := ⟨_, rfl⟩
  obtain ⟨u', q1, q2, q3⟩ := work_go (F := F) hR c u [] (200 * R + a) b N 1 hL hF trivial (hw 0) (by show 0 + c.length ≤ 200; omega) hc (by omega) (by omega) (by omega)
  rw [hx []] at q3
  have hx0 : tA u' 3369 0 0 = x := q3.1
  rw [hx0] at q1
  refine ⟨u', ?_, q2⟩
  unfold F_X13_worked
  rw [show (200 : Int32) * nt R + nt a = nt (200 * R + a) by rw [show (200 : Int32) = nt 200 from rfl, nt_mul, nt_add], ← hN]
  exact q1
end
