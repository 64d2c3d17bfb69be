/-! PART 98: part, a rank by each, and the method. -/
def lfR (rk cf : Nat → Nat) (n a : Nat) : Nat → Nat
  | 0 => a
  | r + 1 => lfR rk cf n a r - min (lfR rk cf n a r) (sN (qR rk cf r) n)
theorem lfR_le {rk cf : Nat → Nat} {n a : Nat} : ∀ r, lfR rk cf n a r ≤ a
  | 0 => Nat.le_refl _
  | r + 1 => Nat.le_trans (Nat.sub_le _ _) (lfR_le r)
def gtR (rk cf : Nat → Nat) (n a r i : Nat) : Nat := if sN (qR rk cf r) n = 0 then 0 else prN n (min (lfR rk cf n a r) (sN (qR rk cf r) n)) (qR rk cf r) i
section
variable {t : TS} {n a : Nat} {rk cf : Nat → Nat}
theorem qR_sum (hn : n ≤ 12) (hq : ∀ i, i < n → cf i ≤ 999999) (r : Nat) : sN (qR rk cf r) n ≤ 12000000 ∧ ∀ i, i < n → qR rk cf r i ≤ 999999 := by
  have hqb : ∀ i, i < n → qR rk cf r i ≤ 999999 := fun i hi => by
    unfold qR
    split
    · exact hq i hi
    · exact Nat.zero_le _
  have hSb : sN (qR rk cf r) n ≤ 999999 * n := sN_bd n hqb
  have : 999999 * n ≤ 999999 * 12 := Nat.mul_le_mul_left _ hn
  exact ⟨by omega, hqb⟩
theorem mp_rank (k26 : TS → Int32 → Int64 → Int32 → Option (Int32 × TS)) (hL : Ilen t) (hn : n ≤ 12) (h86 : tI t 1386 0 = nt n) (hq : ∀ i, i < n → tA t 3387 0 i = nt (rk i) ∧ rk i < 4 ∧ tA t 3388 0 i = nt (cf i) ∧ 1 ≤ cf i ∧ cf i ≤ 999999) (x1 : Int32) (ha : a ≤ 9999999) {r : Nat} (hr : r < 4) : ∃ u, B_X13_part_38 k26 10000 t x1 (jn (lfR rk cf n a r)) (nt r) 0 0 = k26 u x1 (jn (lfR rk cf n a (r + 1))) (nt (r + 1)) ∧ oA 3389 0 t u ∧ ∀ j, tA u 3389 0 j = if j < n ∧ rk j = r then nt (gtR rk cf n a r j) else tA t 3389 0 j := by
  obtain ⟨hSb, hqb⟩ := qR_sum (rk := rk) hn (fun i hi => (hq i hi).2.2.2.2) r
  have hl := lfR_le (rk := rk) (cf := cf) (n := n) (a := a) r
  have hls : lfR rk cf n a (r + 1) = lfR rk cf n a r - min (lfR rk cf n a r) (sN (qR rk cf r) n) := rfl
  rw [mp_sum k26 hL hn h86 hq x1 _ hr]
  unfold B_X13_part_82
  have c0 : (¬ lg_cmp (jn (sN (qR rk cf r) n)) 0 = 0) = ¬ sN (qR rk cf r) n = 0 := congrArg Not (lj_eq (b := 0) (by omega) (by omega))
  have c1 : (0 ≤ lg_cmp (jn (lfR rk cf n a r)) (jn (sN (qR rk cf r) n))) = (sN (qR rk cf r) n ≤ lfR rk cf n a r) := lj_ge (by omega) (by omega)
  rw [ifP c0, ifP c1]
  by_cases e : sN (qR rk cf r) n = 0
  · rw [if_neg (fun q => q e)]
    refine ⟨t, ?_, oA_rf, fun j => ?_⟩
    · unfold B_X13_part_314
      rw [hls, e, Nat.min_zero, Nat.sub_zero, nt_succ]
    · rw [if_neg]
      rintro ⟨g1, g2⟩
      have h1 := sN_one (f := qR rk cf r) n j g1
      rw [e] at h1
      have h2 : qR rk cf r j = cf j := if_pos g2
      have := (hq j g1).2.2.2.1
      omega
  rw [if_pos e]
  have hS : 0 < sN (qR rk cf r) n := by omega
  obtain ⟨W, hW⟩ : ∃ W, W = min (lfR rk cf n a r) (sN (qR rk cf r) n) := ⟨_, rfl⟩
  have hWl : W ≤ lfR rk cf n a r := by rw [hW]; exact Nat.min_le_left _ _
  have hmin : (if sN (qR rk cf r) n ≤ lfR rk cf n a r then B_X13_part_105 k26 t x1 (jn (lfR rk cf n a r)) (nt r) (jn (sN (qR rk cf r) n)) (jn (sN (qR rk cf r) n)) else B_X13_part_105 k26 t x1 (jn (lfR rk cf n a r)) (nt r) (jn (sN (qR rk cf r) n)) (jn (lfR rk cf n a r))) = B_X13_part_105 k26 t x1 (jn (lfR rk cf n a r)) (nt r) (jn (sN (qR rk cf r) n)) (jn W) := by
    by_cases g : sN (qR rk cf r) n ≤ lfR rk cf n a r
    · rw [if_pos g, hW, Nat.min_eq_right g]
    · rw [if_neg g, hW, Nat.min_eq_left (by omega)]
  rw [hmin]
  obtain ⟨u1, a1, a2, a3⟩ := mp_base k26 hL hn h86 hq x1 (jn (lfR rk cf n a r)) (W := W) hr (by omega) hS
  have hL1 : Ilen u1 := Ilen_f (oA_f (D := ks [3389]) a2 rfl) hL
  have h87 : tA u1 3387 = tA t 3387 := a2.2.2.2.2.2.2.1 3387 (by decide)
  have h88 : tA u1 3388 = tA t 3388 := a2.2.2.2.2.2.2.1 3388 (by decide)
  obtain ⟨u2, b1_, b2, b3⟩ := mp_out (t := u1) k26 hL1 hn (by rw [a2.2.1]; exact h86) (fun i hi => by rw [h87, h88]; exact hq i hi) x1 (jn (lfR rk cf n a r)) (W := W) hr (by omega) hS rfl rfl (fun i hi hc => by rw [a3 i, if_pos ⟨hi, hc⟩])
  refine ⟨u2, ?_, oA_tr a2 b2, fun j => ?_⟩
  · rw [a1, b1_]
    unfold B_X13_part_309 B_X13_part_314
    rw [jn_sub hWl, nt_succ, hls, ← hW]
  · rw [b3 j, a3 j]
    by_cases c : j < n ∧ rk j = r
    · rw [if_pos c, if_pos c]
      unfold gtR
      rw [if_neg e, ← hW]
    · rw [if_neg c, if_neg c, if_neg c]
theorem cp_fill (k27 : TS → Int32 → Int32 → Int32 → Option (Int32 × TS)) (hL : Ilen t) (hn : n ≤ 12) (h302 : tI t 302 0 = nt n) (hq : ∀ i, i < n → tA t 2300 0 i = nt (rk i) ∧ rk i < 4 ∧ tA t 2301 0 i = nt (cf i) ∧ cf i ≤ 999999) (x1 x2 : Int32) {r : Nat} (hr : r < 4) : ∃ u, B_X3_pay_38 k27 10000 t x1 x2 (nt r) 0 0 = B_X3_pay_94 k27 u x1 x2 (nt r) (nt (sN (qR rk cf r) n)) ∧ oA 2305 0 t u ∧ ∀ j, j < n → tA u 2305 0 j = nt (qR rk cf r j) := by
  obtain ⟨N, hN⟩ : ∃ N : Nat, N = 10000 := ⟨_, rfl⟩
  rw [← hN]
  refine loop_wh (B := fun fu (x : Nat × TS) => B_X3_pay_38 k27 fu x.2 x1 x2 (nt r) (nt (sN (qR rk cf r) x.1)) (nt x.1)) (mu := fun x => n - x.1) (G := fun o => ∃ u, o = B_X3_pay_94 k27 u x1 x2 (nt r) (nt (sN (qR rk cf r) n)) ∧ oA 2305 0 t u ∧ ∀ j, j < n → tA u 2305 0 j = nt (qR rk cf r j)) (P := fun x => x.1 ≤ n ∧ oA 2305 0 t x.2 ∧ ∀ j, j < x.1 → tA x.2 2305 0 j = nt (qR rk cf r j)) ?_ N (0, t) ⟨Nat.zero_le _, oA_rf, fun j hj => absurd hj (Nat.not_lt_zero j)⟩ (by show n - 0 < N; omega)
  intro fu x hx
  obtain ⟨i, u⟩ := x
  have hi : i ≤ n := hx.1
  have h : oA 2305 0 t u := hx.2.1
  have hz : ∀ j, j < i → tA u 2305 0 j = nt (qR rk cf r j) := hx.2.2
  show (∃ u', BB_X3_pay_38 k27 (B_X3_pay_38 k27 fu) u x1 x2 (nt r) (nt (sN (qR rk cf r) i)) (nt i) = _ ∧ _) ∨ ∃ a', BB_X3_pay_38 k27 (B_X3_pay_38 k27 fu) u x1 x2 (nt r) (nt (sN (qR rk cf r) i)) (nt i) = _ ∧ _
  have hLu : Ilen u := Ilen_f (oA_f (D := ks [2305]) h rfl) hL
  have h0 : tA u 2300 = tA t 2300 := h.2.2.2.2.2.2.1 2300 (by decide)
  have h1 : tA u 2301 = tA t 2301 := h.2.2.2.2.2.2.1 2301 (by decide)
  have h302u : tI u 302 0 = nt n := by rw [h.2.1]; exact h302
  unfold BB_X3_pay_38
  rw [h302u, igE (by omega) (by omega)]
  by_cases e : i = n
  · left
    rw [if_pos (by omega)]
    rw [e] at hz
    exact ⟨u, by rw [e], h, hz⟩
  right
  have hi2 : i < n := by omega
  obtain ⟨q1, q2, q3, q4⟩ := hq i hi2
  refine ⟨(i + 1, uA u 2305 0 i (nt (qR rk cf r i))), ?_, ⟨hi2, oA_uA h, fun j hj => ?_⟩, by show n - (i + 1) < n - i; omega⟩
  · rw [if_neg (by omega), (show tL _ 2300 0 = 12 from hLu 2300 rfl), (show tL _ 2301 0 = 12 from hLu 2301 rfl), gd_nt _ (by omega) (by omega), gd_nt _ (by omega) (by omega), nt_cl (by omega), h0, h1, q1, q3]
    have h75 : ∀ v, B_X3_pay_75 k27 (B_X3_pay_38 k27 fu) u x1 x2 (nt r) (nt (sN (qR rk cf r) i)) (nt i) v (nt i) = B_X3_pay_38 k27 fu (uA u 2305 0 i v) x1 x2 (nt r) (nt (sN (qR rk cf r) i) + v) (nt (i + 1)) := by
      intro v
      unfold B_X3_pay_75
      rw [(show tL _ 2305 0 = 12 from hLu 2305 rfl), gd_nt _ (by omega) (by omega), nxt_e, nt_cl (by omega), show tL (uA u 2305 0 i v) 2305 0 = 12 from hLu 2305 rfl, gd_nt _ (by omega) (by omega), A_uA, m1_s, m1_s, nt_succ]
    rw [h75, h75]
    have e3 : sN (qR rk cf r) (i + 1) = sN (qR rk cf r) i + qR rk cf r i := rfl
    show _ = B_X3_pay_38 k27 fu (uA u 2305 0 i (nt (qR rk cf r i))) x1 x2 (nt r) (nt (sN (qR rk cf r) (i + 1))) (nt (i + 1))
    rw [e3]
    unfold qR
    by_cases c : rk i = r
    · rw [if_neg (fun q => q (by rw [c])), if_pos c, nt_add]
    · rw [if_pos (by rw [eq_nt (by omega) (by omega)]; exact c), if_neg c, Int32.add_zero]
      rfl
  · show tA (uA u 2305 0 i (nt (qR rk cf r i))) 2305 0 j = _
    rw [A_uA, m1_s]
    by_cases c : j = i
    · subst c; rw [m1_s]
    · have : j < i + 1 := hj
      rw [m1_n c, hz j (by omega)]
theorem cp_rank (k27 : TS → Int32 → Int32 → Int32 → Option (Int32 × TS)) (hL : Ilen t) (hn : n ≤ 12) (h302 : tI t 302 0 = nt n) (hq : ∀ i, i < n → tA t 2300 0 i = nt (rk i) ∧ rk i < 4 ∧ tA t 2301 0 i = nt (cf i) ∧ cf i ≤ 999999) (x1 : Int32) (ha : a ≤ 9999999) {r : Nat} (hr : r < 4) : ∃ u, B_X3_pay_38 k27 10000 t x1 (nt (lfR rk cf n a r)) (nt r) 0 0 = k27 u x1 (nt (lfR rk cf n a (r + 1))) (nt (r + 1)) ∧ frm (ks [2303, 2305]) t u ∧ ∀ j, j < n → tA u 2303 0 j = tA t 2303 0 j + nt (gtR rk cf n a r j) := by
  obtain ⟨hSb, hqb⟩ := qR_sum (rk := rk) hn (fun i hi => (hq i hi).2.2.2) r
  have hl := lfR_le (rk := rk) (cf := cf) (n := n) (a := a) r
  have hls : lfR rk cf n a (r + 1) = lfR rk cf n a r - min (lfR rk cf n a r) (sN (qR rk cf r) n) := rfl
  obtain ⟨u1, a1, a2, a3⟩ := cp_fill k27 hL hn h302 hq x1 (nt (lfR rk cf n a r)) hr
  have f1 : frm (ks [2303, 2305]) t u1 := oA_f a2 rfl
  have hL1 : Ilen u1 := Ilen_f f1 hL
  have h302u : tI u1 302 0 = nt n := by rw [a2.2.1]; exact h302
  have e03 : tA u1 2303 = tA t 2303 := a2.2.2.2.2.2.2.1 2303 (by decide)
  rw [a1]
  unfold B_X3_pay_94
  obtain ⟨W, hW⟩ : ∃ W, W = min (lfR rk cf n a r) (sN (qR rk cf r) n) := ⟨_, rfl⟩
  have hWl : W ≤ lfR rk cf n a r := by rw [hW]; exact Nat.min_le_left _ _
  have hmin : (if nt (sN (qR rk cf r) n) < nt (lfR rk cf n a r) then nt (sN (qR rk cf r) n) else nt (lfR rk cf n a r)) = nt W := by
    rw [ilT (by omega) (by omega)]
    by_cases g : sN (qR rk cf r) n < lfR rk cf n a r
    · rw [if_pos g, hW, Nat.min_eq_right (by omega)]
    · rw [if_neg g, hW, Nat.min_eq_left (by omega)]
  rw [hmin, h302u]
  by_cases e : sN (qR rk cf r) n = 0
  · have hW0 : W = 0 := by rw [hW, e, Nat.min_zero]
    rw [addParts_0 (kw := 2305) (iw := 0) (by rw [hL1 2305 rfl]; show n ≤ 12; omega) (by omega) (fun i hi => ⟨a3 i hi, Nat.le_trans (hqb i hi) (by omega)⟩) e (nt W), ob_s, nt_sub hWl, nt_succ]
    refine ⟨u1, by rw [hls, ← hW], f1, fun j hj => ?_⟩
    unfold gtR
    rw [e03, if_pos e, show nt 0 = 0 from rfl, Int32.add_zero]
  · obtain ⟨u2, b1_, b2, b3⟩ := addParts_eq (t := u1) (kw := 2305) (iw := 0) (kp := 2303) (ip := 0) (n := n) (W := W) (q := qR rk cf r) (by decide) (by rw [hL1 2305 rfl]; show n ≤ 12; omega) (by rw [hL1 2303 rfl]; show n ≤ 12; omega) (by omega) (by omega) (fun i hi => ⟨a3 i hi, Nat.le_trans (hqb i hi) (by omega)⟩) (by omega)
    rw [b1_, ob_s, nt_sub hWl, nt_succ]
    refine ⟨u2, by rw [hls, ← hW], frm_tr f1 (oA_f b2 rfl), fun j hj => ?_⟩
    rw [b3 j, if_pos hj, e03]
    unfold gtR
    rw [if_neg e, ← hW]
end
