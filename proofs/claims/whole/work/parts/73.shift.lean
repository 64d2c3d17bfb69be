/-! PART 73: shift. -/
section
variable {t : TS} {nB : Nat}
theorem sub_le1 {a b n : Nat} (ha : a < 2147483648) (hb : b < 2147483648) (hn : n ≤ 60) : (nt b ≤ nt n - nt a) = (a + b ≤ n) := by
  rw [← it_nt, ← it_nt, ← it_nt, it_sub, it_le (by omega) (by omega) (by omega) (by omega)]
  exact propext ⟨fun q => by omega, fun q => by omega⟩
theorem sub_lt1 {a b n : Nat} (ha : a < 2147483648) (hb : b < 2147483648) (hn : n ≤ 60) : (nt n - nt a < nt b) = ¬ (a + b ≤ n) := by
  rw [← sub_le1 ha hb hn]
  exact propext ⟨fun h h2 => Int32.not_lt.mpr h2 h, fun h => Int32.not_le.mp h⟩
theorem has2 {a b n : Nat} (ha : a < 2147483648) (hb : b < 2147483648) (hn : n ≤ 60) : decide (0 ≤ nt b ∧ 0 ≤ nt a ∧ nt b ≤ nt n ∧ nt a ≤ nt n - nt b) = decide (a + b ≤ n) := by
  rw [decide_eq_decide, sub_le1 hb ha hn, ge_nt (by omega) (by omega)]
  exact ⟨fun q => by have := q.2.2.2; omega, fun q => ⟨nt_nn hb, nt_nn ha, by omega, by omega⟩⟩
theorem shift1 {s i o j n : Nat} (hL : Ilen t) (hs : s < 6) (hi : n + i ≤ 60) : ∃ u, B_X13_shift_113 10000 t (nt s) (nt i) (nt o) (nt j) (nt n) 0 = B_X13_shift_150 10000 u (nt o) (nt j) (nt n) 0 ∧ frm (ks [3396]) t u ∧ ∀ k, k < n → tJ u 3396 0 k = tJ t 3395 0 (60 * s + i + k) := by
  have hst : ∀ u : TS, B_X13_shift_147 u (nt o) (nt j) (nt n) = B_X13_shift_150 10000 u (nt o) (nt j) (nt n) 0 := fun u => rfl
  obtain ⟨N, hN⟩ : ∃ N : Nat, N = 10000 := ⟨_, rfl⟩
  rw [← hN] at hst ⊢
  refine loop_wh (B := fun fu (x : Nat × TS) => B_X13_shift_113 fu x.2 (nt s) (nt i) (nt o) (nt j) (nt n) (nt x.1)) (mu := fun x => n - x.1) (G := fun r => ∃ u, r = B_X13_shift_150 N u (nt o) (nt j) (nt n) 0 ∧ frm (ks [3396]) t u ∧ ∀ k, k < n → tJ u 3396 0 k = tJ t 3395 0 (60 * s + i + k)) (P := fun x => x.1 ≤ n ∧ frm (ks [3396]) t x.2 ∧ ∀ k, k < x.1 → tJ x.2 3396 0 k = tJ t 3395 0 (60 * s + i + k)) ?_ N (0, t) ⟨Nat.zero_le _, frm_rf, fun k hk => absurd hk (Nat.not_lt_zero k)⟩ (by show n - 0 < N; omega)
  intro fu x hx
  obtain ⟨k, u⟩ := x
  have hk : k ≤ n := hx.1
  have h : frm (ks [3396]) t u := hx.2.1
  have hz : ∀ q, q < k → tJ u 3396 0 q = tJ t 3395 0 (60 * s + i + q) := hx.2.2
  show (∃ u', BB_X13_shift_113 (B_X13_shift_113 fu) u (nt s) (nt i) (nt o) (nt j) (nt n) (nt k) = _ ∧ _) ∨ ∃ a', BB_X13_shift_113 (B_X13_shift_113 fu) u (nt s) (nt i) (nt o) (nt j) (nt n) (nt k) = _ ∧ _
  have hL1 : Ilen u := Ilen_f h hL
  have e0 : (60 : Int32) * nt s + nt i + nt k = nt (60 * s + i + k) := by rw [show (60 : Int32) = nt 60 from rfl, nt_mul, nt_add, nt_add]
  unfold BB_X13_shift_113
  rw [igE (by omega) (by omega)]
  by_cases e : k = n
  · left
    subst e
    exact ⟨u, by rw [if_pos (Nat.le_refl _), hst], h, hz⟩
  · right
    refine ⟨(k + 1, uJ u 3396 0 k (tJ t 3395 0 (60 * s + i + k))), ?_, ⟨by show k + 1 ≤ n; omega, frm_tr h (frm_uJ rfl), fun q hq => ?_⟩, by show n - (k + 1) < n - k; omega⟩
    · rw [if_neg (by omega), e0, (show tL _ 3395 0 = 360 from hL1 3395 rfl), (show tL _ 3396 0 = 60 from hL1 3396 rfl)]
      simp (disch := omega) only [gd_nt, nt_cl, nxt_e, nt_succ, (h.1 3395 rfl).2.2.2.2.2.1]
    · show tJ (uJ u 3396 0 k (tJ t 3395 0 (60 * s + i + k))) 3396 0 q = _
      rw [J_uJ, m1_s]
      by_cases e2 : q = k
      · subst e2; rw [m1_s]
      · have hq' : q < k + 1 := hq
        rw [m1_n e2, hz q (by omega)]
theorem shift2 {o j n : Nat} (hL : Ilen t) (ho : o < 6) (hj : n + j ≤ 60) : ∃ u, B_X13_shift_150 10000 t (nt o) (nt j) (nt n) 0 = some (nt n, u) ∧ frm (ks [3395]) t u ∧ ∀ q, tJ u 3395 0 q = if 60 * o + j ≤ q ∧ q < 60 * o + j + n then tJ t 3396 0 (q - (60 * o + j)) else tJ t 3395 0 q := by
  obtain ⟨N, hN⟩ : ∃ N : Nat, N = 10000 := ⟨_, rfl⟩
  rw [← hN]
  refine loop_wh (B := fun fu (x : Nat × TS) => B_X13_shift_150 fu x.2 (nt o) (nt j) (nt n) (nt x.1)) (mu := fun x => n - x.1) (G := fun r => ∃ u, r = some (nt n, u) ∧ frm (ks [3395]) t u ∧ ∀ q, tJ u 3395 0 q = if 60 * o + j ≤ q ∧ q < 60 * o + j + n then tJ t 3396 0 (q - (60 * o + j)) else tJ t 3395 0 q) (P := fun x => x.1 ≤ n ∧ frm (ks [3395]) t x.2 ∧ ∀ q, tJ x.2 3395 0 q = if 60 * o + j ≤ q ∧ q < 60 * o + j + x.1 then tJ t 3396 0 (q - (60 * o + j)) else tJ t 3395 0 q) ?_ N (0, t) ⟨Nat.zero_le _, frm_rf, fun q => (if_neg (fun (g : 60 * o + j ≤ q ∧ q < 60 * o + j + 0) => by omega)).symm⟩ (by show n - 0 < N; omega)
  intro fu x hx
  obtain ⟨k, u⟩ := x
  have hk : k ≤ n := hx.1
  have h : frm (ks [3395]) t u := hx.2.1
  have hz : ∀ q, tJ u 3395 0 q = if 60 * o + j ≤ q ∧ q < 60 * o + j + k then tJ t 3396 0 (q - (60 * o + j)) else tJ t 3395 0 q := hx.2.2
  show (∃ u', BB_X13_shift_150 (B_X13_shift_150 fu) u (nt o) (nt j) (nt n) (nt k) = _ ∧ _) ∨ ∃ a', BB_X13_shift_150 (B_X13_shift_150 fu) u (nt o) (nt j) (nt n) (nt k) = _ ∧ _
  have hL1 : Ilen u := Ilen_f h hL
  have e0 : (60 : Int32) * nt o + nt j + nt k = nt (60 * o + j + k) := by rw [show (60 : Int32) = nt 60 from rfl, nt_mul, nt_add, nt_add]
  unfold BB_X13_shift_150
  rw [igE (by omega) (by omega)]
  by_cases e : k = n
  · left
    subst e
    exact ⟨u, if_pos (Nat.le_refl _), h, hz⟩
  · right
    refine ⟨(k + 1, uJ u 3395 0 (60 * o + j + k) (tJ t 3396 0 k)), ?_, ⟨by show k + 1 ≤ n; omega, frm_tr h (frm_uJ rfl), fun q => ?_⟩, by show n - (k + 1) < n - k; omega⟩
    · rw [if_neg (by omega), e0, (show tL _ 3395 0 = 360 from hL1 3395 rfl), (show tL _ 3396 0 = 60 from hL1 3396 rfl)]
      simp (disch := omega) only [gd_nt, nt_cl, nxt_e, nt_succ, (h.1 3396 rfl).2.2.2.2.2.1]
    · show tJ (uJ u 3395 0 (60 * o + j + k) (tJ t 3396 0 k)) 3395 0 q = if 60 * o + j ≤ q ∧ q < 60 * o + j + (k + 1) then _ else _
      rw [J_uJ, m1_s]
      by_cases e2 : q = 60 * o + j + k
      · subst e2; rw [m1_s, if_pos (by omega), Nat.add_sub_cancel_left]
      · rw [m1_n e2, hz q]
        by_cases g : 60 * o + j ≤ q ∧ q < 60 * o + j + k
        · rw [if_pos g, if_pos (by omega)]
        · rw [if_neg g, if_neg (by omega)]
theorem m_shift (x1 x2 x3 x4 x5 : Int32) (hL : Ilen t) (h150 : nB ≤ 150) (hI : Ishelf nB t) : Eqm (F_X12_shift t x1 x2 x3 x4 x5) (fun t => F_X13_shift t x1 x2 x3 x4 x5) (fun t2 => Ishelf nB t2 ∧ frm (ks [3004, 3395, 3396]) t t2) := by
  have hbad : ∀ r, F_X12_shift t x1 x2 x3 x4 x5 = some (r, t) → F_X13_shift t x1 x2 x3 x4 x5 = some (r, t) → Eqm (F_X12_shift t x1 x2 x3 x4 x5) (fun t => F_X13_shift t x1 x2 x3 x4 x5) (fun t2 => Ishelf nB t2 ∧ frm (ks [3004, 3395, 3396]) t t2) := fun r h1 h2 => ⟨r, t, t, h1, h2, hI, frm_rf⟩
  cases hx : ix 6 x1 with
  | none => exact hbad (-1) (by simp only [F_X12_shift, shelfAt_eq hL hI, hx, nxt_e, oc_s, oc_n, ob_s, ob2_s, gb_b1, gb_0, gb_1, gw0, gw1]) (by simp only [F_X13_shift, isShelf_eq, hx, isS_n, nxt_e, oc_s, oc_n, ob_s, ob2_s, gb_b1, gb_0, gb_1, gw0, gw1, Bool.false_eq_true, Bool.true_eq_false, if_true, if_false, not_true_eq_false, not_false_eq_true])
  | some s =>
  obtain ⟨hs, rfl⟩ := ix_some hx
  cases hy : ix 6 x3 with
  | none => exact hbad (-1) (by simp only [F_X12_shift, shelfAt_eq hL hI, hx, hy, nxt_e, oc_s, oc_n, ob_s, ob2_s, gb_b1, gb_0, gb_1, gw0, gw1]) (by simp only [F_X13_shift, isShelf_eq, hx, hy, isS_s, isS_n, nxt_e, oc_s, oc_n, ob_s, ob2_s, gb_b1, gb_0, gb_1, gw0, gw1, Bool.false_eq_true, Bool.true_eq_false, if_true, if_false, not_true_eq_false, not_false_eq_true])
  | some o =>
  obtain ⟨ho, rfl⟩ := ix_some hy
  have hc : F_X12_shift t (nt s) x2 (nt o) x4 x5 = if tI t 1000 s = 0 then some (-11, t) else if ¬ tI t 1000 o = 0 then (if ¬ tI t 1000 s = 2 then some (-12, t) else (Option.bind (F_X10_isRowOf t o (tI t 1002 s)) (fun r25 => (if ¬ r25 = 0 then (Option.bind (F_X10_has t s x2 x5) (fun r26 => (if r26 = 0 then (some ((-13), t)) else (Option.bind (F_X10_has t o x4 x5) (fun r27 => (if ¬ r27 = 0 then (gc x5 x2 x4 (tL t 3004 s) (tL t 3004 o) (nxt (uCJ t 3004 s x2.toNatClampNeg 3004 o x4.toNatClampNeg x5.toNatClampNeg) (fun t28 => (some (x5, t28))))) else (some ((-13), t)))))))) else (some ((-12), t)))))) else some (-11, t) := by
    simp only [F_X12_shift, shelfAt_eq hL hI, hx, hy, nxt_e, oc_s, oc_n, ob_s, ob2_s, gb_b1, gb_0, gb_1, gw0, gw1]
  have hm : ∀ v, Ilen v → F_X13_shift v (nt s) x2 (nt o) x4 x5 = if tA v 3393 0 s = -1 then some (-11, v) else if ¬ tA v 3393 0 o = -1 then (if 0 ≤ tA v 3393 0 s then some (-12, v) else if tA v 3393 0 s = tA v 3393 0 o then (if x5 < 0 then some (-13, v) else if x2 < 0 then some (-13, v) else if x4 < 0 then some (-13, v) else if tA v 3394 0 s - x5 < x2 then some (-13, v) else if x4 ≤ tA v 3394 0 o - x5 then B_X13_shift_113 10000 v (nt s) x2 (nt o) x4 x5 0 else some (-13, v)) else some (-12, v)) else some (-11, v) := by
    intro v hv
    simp only [F_X13_shift, isShelf_eq, hx, hy, isS_s, nxt_e, oc_s, oc_n, ob_s, ob2_s, gb_b1, gb_0, gb_1, gw0, gw1, Bool.false_eq_true, Bool.true_eq_false, if_true, if_false, not_true_eq_false, not_false_eq_true, (show tL _ 3393 0 = 6 from hv 3393 rfl), (show tL _ 3394 0 = 6 from hv 3394 rfl)]
    simp (disch := omega) only [gd_nt, nt_cl]
  rcases (hI s hs).2.2 with ⟨g1, g2, g3⟩ | ⟨b, hb, g1, g2, g3⟩ | ⟨so, n, hso, hn, g1, g2, g3, g4, g5, g6, g7⟩
  · exact hbad (-11) (by rw [hc, if_pos g1]) (by rw [hm t hL, if_pos g3])
  · rcases (hI o ho).2.2 with ⟨d1, d2, d3⟩ | ⟨b', hb', d1, d2, d3⟩ | ⟨so', n', hso', hn', d1, d2, d3, d4, d5, d6, d7⟩
    · exact hbad (-11) (by rw [hc, g1, if_neg (by decide), d1, if_neg (fun q => q rfl)]) (by rw [hm t hL, g3, if_neg (nneg (by omega)), d3, if_neg (fun q => q rfl)])
    · exact hbad (-12) (by rw [hc, g1, if_neg (by decide), d1, if_pos (by decide), if_pos (by decide)]) (by rw [hm t hL, g3, if_neg (nneg (by omega)), d3, if_pos (nneg (by omega)), if_pos (nt_nn (by omega))])
    · obtain ⟨n1, n2, n3, n4⟩ := sneg so' hso'
      exact hbad (-12) (by rw [hc, g1, if_neg (by decide), d1, if_pos (by decide), if_pos (by decide)]) (by rw [hm t hL, g3, if_neg (nneg (by omega)), d5, if_pos n2, if_pos (nt_nn (by omega))])
  · obtain ⟨n1, n2, n3, n4⟩ := sneg so hso
    have hr : isRow t s so n := ⟨hso, hn, g1, g2, g3, g4, g5, g6, g7⟩
    rcases (hI o ho).2.2 with ⟨d1, d2, d3⟩ | ⟨b', hb', d1, d2, d3⟩ | ⟨so', n', hso', hn', d1, d2, d3, d4, d5, d6, d7⟩
    · exact hbad (-11) (by rw [hc, g1, if_neg (by decide), d1, if_neg (fun q => q rfl)]) (by rw [hm t hL, g5, if_neg n2, d3, if_neg (fun q => q rfl)])
    · refine hbad (-12) (by rw [hc, g1, if_neg (by decide), d1, if_pos (by decide), if_neg (fun q => q rfl)]; unfold F_X10_isRowOf; rw [d1, if_pos (by decide), ob_s, if_neg (fun q => q rfl)]) (by
        rw [hm t hL, g5, if_neg n2, d3, if_pos (nneg (by omega)), if_neg n4, if_neg (fun q => n4 (by rw [q]; exact nt_nn (by omega)))])
    · obtain ⟨m1_, m2, m3, m4⟩ := sneg so' hso'
      have hr' : isRow t o so' n' := ⟨hso', hn', d1, d2, d3, d4, d5, d6, d7⟩
      have hro : F_X10_isRowOf t o (tI t 1002 s) = some (b1 (decide (so' = so))) := by
        unfold F_X10_isRowOf
        rw [d1, if_neg (fun q => q rfl), d3, g3]
        by_cases e : so' = so
        · rw [e, if_neg (fun q => q rfl), decide_eq_true rfl]; rfl
        · rw [if_pos (fun q => e (by rw [eq_nt (by omega) (by omega)] at q; exact q)), decide_eq_false e]; rfl
      have hso2 : (-2 - nt so = -2 - nt so') = (so' = so) := propext ⟨fun q => by
        have h1 : nt so = nt so' := by rw [← n3, ← m3, q]
        rw [eq_nt (by omega) (by omega)] at h1; exact h1.symm, fun q => by rw [q]⟩
      have hc2 : F_X12_shift t (nt s) x2 (nt o) x4 x5 = if so' = so then (if decide (0 ≤ x2 ∧ 0 ≤ x5 ∧ x2 ≤ nt n ∧ x5 ≤ nt n - x2) = true then (if decide (0 ≤ x4 ∧ 0 ≤ x5 ∧ x4 ≤ nt n' ∧ x5 ≤ nt n' - x4) = true then (gc x5 x2 x4 (tL t 3004 s) (tL t 3004 o) (nxt (uCJ t 3004 s x2.toNatClampNeg 3004 o x4.toNatClampNeg x5.toNatClampNeg) (fun t28 => (some (x5, t28))))) else some (-13, t)) else some (-13, t)) else some (-12, t) := by
        rw [hc, hro, has_eq hr, has_eq hr', g1, d1, if_neg (by decide), if_pos (by decide), if_neg (fun q => q rfl), ob_s, ob_s, ob_s, gw1, gw0, gw1]
        simp only [decide_eq_true_eq]
      have hm2 : ∀ v, Ilen v → tA v 3393 = tA t 3393 → tA v 3394 = tA t 3394 → F_X13_shift v (nt s) x2 (nt o) x4 x5 = if so' = so then (if x5 < 0 then some (-13, v) else if x2 < 0 then some (-13, v) else if x4 < 0 then some (-13, v) else if nt n - x5 < x2 then some (-13, v) else if x4 ≤ nt n' - x5 then B_X13_shift_113 10000 v (nt s) x2 (nt o) x4 x5 0 else some (-13, v)) else some (-12, v) := by
        intro v hv h1 h2
        rw [hm v hv, h1, h2, g5, d5, g6, d6, if_neg n2, if_pos m2, if_neg n4]
        simp only [hso2]
      by_cases e : so' = so
      case neg => exact hbad (-12) (by rw [hc2, if_neg e]) (by rw [hm2 t hL rfl rfl, if_neg e])
      by_cases h5 : x5 < 0
      · exact hbad (-13) (by rw [hc2, if_pos e, decide_eq_false (fun q => Int32.not_lt.mpr q.2.1 h5), if_neg (by decide)]) (by rw [hm2 t hL rfl rfl, if_pos e, if_pos h5])
      by_cases h2 : x2 < 0
      · exact hbad (-13) (by rw [hc2, if_pos e, decide_eq_false (fun q => Int32.not_lt.mpr q.1 h2), if_neg (by decide)]) (by rw [hm2 t hL rfl rfl, if_pos e, if_neg h5, if_pos h2])
      by_cases h4 : x4 < 0
      · refine hbad (-13) ?_ (by rw [hm2 t hL rfl rfl, if_pos e, if_neg h5, if_neg h2, if_pos h4])
        rw [hc2, if_pos e, decide_eq_false (p := 0 ≤ x4 ∧ _) (fun q => Int32.not_lt.mpr q.1 h4)]
        simp
      obtain ⟨a, ha, rfl⟩ := nt_ex (Int32.not_lt.mp h5)
      obtain ⟨i, hi, rfl⟩ := nt_ex (Int32.not_lt.mp h2)
      obtain ⟨j, hj, rfl⟩ := nt_ex (Int32.not_lt.mp h4)
      rw [has2 ha hi hn, has2 ha hj hn', if_pos e] at hc2
      simp only [h5, h2, h4, if_false, e, if_true, sub_lt1 ha hi hn, sub_le1 ha hj hn', decide_eq_true_eq] at hc2 hm2
      by_cases f1 : a + i ≤ n
      case neg => exact hbad (-13) (by rw [hc2, if_neg f1]) (by rw [hm2 t hL rfl rfl, if_pos f1])
      by_cases f2 : a + j ≤ n'
      case neg => exact hbad (-13) (by rw [hc2, if_pos f1, if_neg f2]) (by rw [hm2 t hL rfl rfl, if_neg (fun q => q f1), if_neg f2])
      have hgc : F_X12_shift t (nt s) (nt i) (nt o) (nt j) (nt a) = some (nt a, uCJ t 3004 s i 3004 o j a) := by
        rw [hc2, if_pos f1, if_pos f2, (hI s hs).2.1, (hI o ho).2.1]
        unfold gc
        rw [nt_cl ha, nt_cl hi, nt_cl hj, if_neg (fun q => by
          rcases q with q | q | q | q | q
          · exact h5 q
          · exact h2 q
          · exact h4 q
          · omega
          · omega), nxt_e]
      have k1 : frm (ks [3004]) t (uCJ t 3004 s i 3004 o j a) := frm_uCJ rfl
      have hL1 := Ilen_f k1 hL
      obtain ⟨u, p1, p2, p3⟩ := shift1 (t := uCJ t 3004 s i 3004 o j a) (s := s) (i := i) (o := o) (j := j) (n := a) hL1 hs (by omega)
      obtain ⟨w, q1, q2, q3⟩ := shift2 (t := u) (o := o) (j := j) (n := a) (Ilen_f p2 hL1) ho (by omega)
      have kk : frm (ks [3004, 3395, 3396]) t w := frm_tr (frm_sb k1 (ks_sb rfl)) (frm_tr (frm_sb p2 (ks_sb rfl)) (frm_sb q2 (ks_sb rfl)))
      refine ⟨nt a, uCJ t 3004 s i 3004 o j a, w, hgc, ?_, Ishelf_J kk (by rw [(q2.1 3004 rfl).2.2.2.1, (p2.1 3004 rfl).2.2.2.1]; rfl) hI (fun s' hs' hk k hk2 => ?_), kk⟩
      · show F_X13_shift (uCJ t 3004 s i 3004 o j a) (nt s) (nt i) (nt o) (nt j) (nt a) = _
        rw [hm2 _ hL1 rfl rfl, if_neg (fun q => q f1), if_pos f2, p1, q1]
      · rw [(q2.1 3004 rfl).2.2.2.2.2.1, (p2.1 3004 rfl).2.2.2.2.2.1, J_uCJ, q3, (p2.1 3395 rfl).2.2.2.2.2.1, J_uCJ_n (by decide)]
        by_cases e2 : s' = o
        · subst e2
          rw [m1_s]
          unfold va_cpy
          by_cases g : j ≤ k ∧ k < j + a
          · rw [if_pos g, if_pos (by omega), p3 _ (by omega), J_uCJ_n (by decide), g7 _ (by omega), show 60 * s + i + (60 * s' + k - (60 * s' + j)) = 60 * s + (i + (k - j)) by omega]
          · rw [if_neg g, if_neg (by omega), hk k hk2]
        · rw [m1_n e2, if_neg (by omega), hk k hk2]
end
