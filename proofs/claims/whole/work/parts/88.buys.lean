/-! PART 88: buys, the model's side and the method. -/
section
variable {t : TS} {n v : Nat}
def fitP (pr gr pl : Nat → Int32) (v n : Nat) (x1 x2 : Int32) (a : Nat) : Prop := sb pr v n ≤ x1 ∧ nt (pcB v) ≤ x2 / 10 ∧ irm x2 10 ≤ sb gr v n ∧ plB pl v n a
theorem dig_eq {a p : Nat} (ha : a ≤ 9999) (hp : p < 4) : F_X13_digitOf t (nt a) (nt p) = some (nt (dgN a p)) := by
  unfold F_X13_digitOf dgN
  rw [show (10 : Int32) = nt 10 from rfl, show (100 : Int32) = nt 100 from rfl, show (1000 : Int32) = nt 1000 from rfl, nt_div (by omega) (by omega), nt_div (by omega) (by omega), nt_div (by omega) (by omega), nt_irm (by omega) (by omega), nt_irm (by omega) (by omega), nt_irm (by omega) (by omega)]
  have hp' : p = 0 ∨ p = 1 ∨ p = 2 ∨ p = 3 := by omega
  rcases hp' with rfl | rfl | rfl | rfl <;> rfl
theorem mf_in (k91 : TS → Int32 → Int32 → Int32 → Option Int32) (hL : Ilen t) (hv : v < 1024) (hn : n ≤ 10) (h : tI t 1381 0 = nt n) {a : Nat} (ha : a ≤ 9999) {p : Nat} (hp : p < 4) : B_X13_fits_103 k91 10000 t (nt v) (nt a) (nt p) 0 0 = if dgN a p ≤ cpl (tA t 3384 0) v p n then k91 t (nt v) (nt a) (nt (p + 1)) else some 0 := by
  obtain ⟨N, hN⟩ : ∃ N : Nat, N = 10000 := ⟨_, rfl⟩
  rw [← hN]
  refine loop_wh (B := fun fu (i : Nat) => B_X13_fits_103 k91 fu t (nt v) (nt a) (nt p) (nt (cpl (tA t 3384 0) v p i)) (nt i)) (mu := fun i => n - i) (G := fun o => o = if dgN a p ≤ cpl (tA t 3384 0) v p n then k91 t (nt v) (nt a) (nt (p + 1)) else some 0) (P := fun i => i ≤ n) ?_ N 0 (Nat.zero_le _) (by omega)
  intro fu i hi
  show BB_X13_fits_103 k91 (B_X13_fits_103 k91 fu) t _ _ _ _ _ = _ ∨ ∃ a', BB_X13_fits_103 k91 (B_X13_fits_103 k91 fu) t _ _ _ _ _ = _ ∧ _
  unfold BB_X13_fits_103
  rw [h, igE (by omega) (by omega)]
  by_cases e : i = n
  · left
    subst e
    have hc : cpl (tA t 3384 0) v p i ≤ 10 := Nat.le_trans (cntP_le i) hn
    have hd : dgN a p ≤ 9 := by
      have hp' : p = 0 ∨ p = 1 ∨ p = 2 ∨ p = 3 := by omega
      rcases hp' with rfl | rfl | rfl | rfl
      · show a / 1000 ≤ 9
        omega
      · show a / 100 % 10 ≤ 9
        omega
      · show a / 10 % 10 ≤ 9
        omega
      · show a % 10 ≤ 9
        omega
    rw [if_pos (Nat.le_refl _)]
    unfold B_X13_fits_150
    rw [dig_eq ha hp, ob_s, igE (by omega) (by omega), nt_succ]
  · right
    refine ⟨i + 1, ?_, by omega, by omega⟩
    rw [if_neg (by omega), bit_bb hv (by omega)]
    unfold B_X13_fits_140 B_X13_fits_141
    have e2 : cpl (tA t 3384 0) v p (i + 1) = cpl (tA t 3384 0) v p i + (if (v.testBit i && decide (tA t 3384 0 i = nt p)) = true then 1 else 0) := rfl
    rw [e2, nt_succ]
    cases g : v.testBit i with
    | false => rw [if_pos (by decide), if_neg (by simp), Int32.add_zero, Nat.add_zero (cpl (tA t 3384 0) v p i)]
    | true =>
      rw [if_neg (by decide), (show tL _ 3384 0 = 10 from hL 3384 rfl), gd_nt _ (by omega) (by omega), nt_cl (by omega)]
      by_cases g2 : tA t 3384 0 i = nt p
      · rw [if_neg (fun q => q g2), if_pos (by simp [g2]), nt_succ]
      · rw [if_pos g2, if_neg (by simp [g2]), Int32.add_zero, Nat.add_zero (cpl (tA t 3384 0) v p i)]
theorem mfits_eq (hL : Ilen t) (hv : v < 1024) (hn : n ≤ 10) (h : tI t 1381 0 = nt n) {a : Nat} (ha : a ≤ 9999) (x1 x2 : Int32) : ∃ r, F_X13_fits t (nt v) x1 x2 (nt a) = some r ∧ (r = 0 ↔ ¬ fitP (tA t 3382 0) (tA t 3383 0) (tA t 3384 0) v n x1 x2 a) := by
  have h9 : F_X13_fits t (nt v) x1 x2 (nt a) = B_X13_fits_60 t (nt v) x1 x2 (nt a) (sb (tA t 3382 0) v n) (sb (tA t 3383 0) v n) := by
    unfold F_X13_fits
    obtain ⟨N, hN⟩ : ∃ N : Nat, N = 10000 := ⟨_, rfl⟩
    rw [← hN]
    refine loop_wh (B := fun fu (i : Nat) => B_X13_fits_9 fu t (nt v) x1 x2 (nt a) (sb (tA t 3382 0) v i) (sb (tA t 3383 0) v i) (nt i)) (mu := fun i => n - i) (G := fun o => o = B_X13_fits_60 t (nt v) x1 x2 (nt a) (sb (tA t 3382 0) v n) (sb (tA t 3383 0) v n)) (P := fun i => i ≤ n) ?_ N 0 (Nat.zero_le _) (by omega)
    intro fu i hi
    show BB_X13_fits_9 (B_X13_fits_9 fu) t _ _ _ _ _ _ _ = _ ∨ ∃ a', BB_X13_fits_9 (B_X13_fits_9 fu) t _ _ _ _ _ _ _ = _ ∧ _
    unfold BB_X13_fits_9 B_X13_fits_54
    rw [h, igE (by omega) (by omega)]
    by_cases e : i = n
    · left
      subst e
      rw [if_pos (Nat.le_refl _)]
    · right
      refine ⟨i + 1, ?_, by omega, by omega⟩
      rw [if_neg (by omega), bit_bb hv (by omega), gw1, nt_succ]
      show _ = B_X13_fits_9 fu t (nt v) x1 x2 (nt a) (sb (tA t 3382 0) v i + if v.testBit i then tA t 3382 0 i else 0) (sb (tA t 3383 0) v i + if v.testBit i then tA t 3383 0 i else 0) (nt (i + 1))
      cases g : v.testBit i with
      | false => simp only [Bool.false_eq_true, if_false, Int32.add_zero]
      | true =>
        simp only [if_true]
        rw [(show tL _ 3382 0 = 10 from hL 3382 rfl), (show tL _ 3383 0 = 10 from hL 3383 rfl), gd_nt _ (by omega) (by omega), gd_nt _ (by omega) (by omega), nt_cl (by omega)]
  rw [h9]
  unfold B_X13_fits_60 fitP
  by_cases c1 : sb (tA t 3382 0) v n ≤ x1
  case neg => exact ⟨0, if_pos (Int32.not_le.mp c1), iff_of_true rfl (fun q => c1 q.1)⟩
  rw [if_neg (Int32.not_lt.mpr c1), bitsOf_eq hv, ob_s]
  by_cases c2 : nt (pcB v) ≤ x2 / 10
  case neg => exact ⟨0, if_pos (Int32.not_le.mp c2), iff_of_true rfl (fun q => c2 q.2.1)⟩
  rw [if_neg (Int32.not_lt.mpr c2)]
  by_cases c3 : irm x2 10 ≤ sb (tA t 3383 0) v n
  case neg => exact ⟨0, if_neg c3, iff_of_true rfl (fun q => c3 q.2.2.1)⟩
  rw [if_pos c3]
  obtain ⟨N, hN⟩ : ∃ N : Nat, 10000 = N + 5 := ⟨9995, rfl⟩
  rw [hN]
  have st : ∀ M p, p < 4 → B_X13_fits_91 (M + 1) t (nt v) (nt a) (nt p) = if dgN a p ≤ cpl (tA t 3384 0) v p n then B_X13_fits_91 M t (nt v) (nt a) (nt (p + 1)) else some 0 := by
    intro M p hp
    show BB_X13_fits_91 (B_X13_fits_91 M) t _ _ _ = _
    unfold BB_X13_fits_91
    rw [if_neg (by rw [show ((4 : Int32) ≤ nt p) = (4 ≤ p) from ge_nt (n := 4) (by omega) (by omega)]; omega), mf_in _ hL hv hn h ha hp]
  have s9 : B_X13_fits_91 (N + 1) t (nt v) (nt a) (nt 4) = some 1 := by
    show BB_X13_fits_91 (B_X13_fits_91 N) t _ _ _ = _
    unfold BB_X13_fits_91
    rw [if_pos (by decide)]
  rw [show (0 : Int32) = nt 0 from rfl, st (N + 4) 0 (by omega)]
  unfold plB
  by_cases p0 : dgN a 0 ≤ cpl (tA t 3384 0) v 0 n
  case neg => exact ⟨nt 0, if_neg p0, iff_of_true rfl (fun q => p0 q.2.2.2.2.2.2)⟩
  rw [if_pos p0, st (N + 3) 1 (by omega)]
  by_cases p1 : dgN a 1 ≤ cpl (tA t 3384 0) v 1 n
  case neg => exact ⟨nt 0, if_neg p1, iff_of_true rfl (fun q => p1 q.2.2.2.2.2.1)⟩
  rw [if_pos p1, st (N + 2) 2 (by omega)]
  by_cases p2 : dgN a 2 ≤ cpl (tA t 3384 0) v 2 n
  case neg => exact ⟨nt 0, if_neg p2, iff_of_true rfl (fun q => p2 q.2.2.2.2.1)⟩
  rw [if_pos p2, st (N + 1) 3 (by omega)]
  by_cases p3 : dgN a 3 ≤ cpl (tA t 3384 0) v 3 n
  case neg => exact ⟨nt 0, if_neg p3, iff_of_true rfl (fun q => p3 q.2.2.2.1)⟩
  rw [if_pos p3, s9]
  exact ⟨1, rfl, iff_of_false (by decide) (fun q => q ⟨c1, c2, c3, p3, p2, p1, p0⟩)⟩
def btr (w p bw bp : Int32) : Prop := bw < w ∨ (w = bw ∧ p < bp)
theorem cturn (k : TS → Int32 → Int32 → Int32 → Int32 → Int32 → Int32 → Int32 → Option (Int32 × TS)) (hL : Ilen t) (hn : n ≤ 10) (h : tI t 204 0 = nt n) (hv : v < 2 ^ n) {a : Nat} (ha : a ≤ 9999) (x1 x2 b bw bp : Int32) : (fitP (tA t 2200 0) (tA t 2202 0) (tA t 2203 0) v n x1 x2 a ∧ btr (sb (tA t 2201 0) v n) (sb (tA t 2200 0) v n) bw bp → BB_X2_takeBest_13 k t x1 x2 (nt a) b bw bp (nt v) = k t x1 x2 (nt a) (nt v) (sb (tA t 2201 0) v n) (sb (tA t 2200 0) v n) (nt (v + 1))) ∧ (¬ (fitP (tA t 2200 0) (tA t 2202 0) (tA t 2203 0) v n x1 x2 a ∧ btr (sb (tA t 2201 0) v n) (sb (tA t 2200 0) v n) bw bp) → BB_X2_takeBest_13 k t x1 x2 (nt a) b bw bp (nt v) = k t x1 x2 (nt a) b bw bp (nt (v + 1))) := by
  have hp := pow_le n hn
  have hv2 : v < 1024 := by omega
  obtain ⟨r, hr, hr2⟩ := fills_eq hL hv2 hn h ha
  unfold BB_X2_takeBest_13
  rw [h, pow_b n hn, igE (by omega) (by omega), if_neg (by omega), sumOf2_eq hv2 hn h 2200 (hL 2200 rfl), sumOf2_eq hv2 hn h 2201 (hL 2201 rfl), ob_s, ob_s]
  have e73 : B_X2_takeBest_73 k t x1 x2 (nt a) b bw bp (nt v) (sb (tA t 2200 0) v n) (sb (tA t 2201 0) v n) = k t x1 x2 (nt a) b bw bp (nt (v + 1)) := by
    unfold B_X2_takeBest_73 B_X2_takeBest_74 B_X2_takeBest_115 B_X2_takeBest_116 B_X2_takeBest_150
    rw [bcJ hv2, ob_s, sumOf2_eq hv2 hn h 2202 (hL 2202 rfl), ob_s, nt_succ]
    simp only [if_true, ite_self]
  have e69 : (fitP (tA t 2200 0) (tA t 2202 0) (tA t 2203 0) v n x1 x2 a → B_X2_takeBest_69 k t x1 x2 (nt a) b bw bp (nt v) (sb (tA t 2200 0) v n) (sb (tA t 2201 0) v n) = k t x1 x2 (nt a) (nt v) (sb (tA t 2201 0) v n) (sb (tA t 2200 0) v n) (nt (v + 1))) ∧ (¬ fitP (tA t 2200 0) (tA t 2202 0) (tA t 2203 0) v n x1 x2 a → B_X2_takeBest_69 k t x1 x2 (nt a) b bw bp (nt v) (sb (tA t 2200 0) v n) (sb (tA t 2201 0) v n) = k t x1 x2 (nt a) b bw bp (nt (v + 1))) := by
    have n10 : ¬ (1 : Int32) = 0 := by decide
    unfold B_X2_takeBest_69 B_X2_takeBest_74 B_X2_takeBest_115 B_X2_takeBest_116 B_X2_takeBest_150 fitP
    rw [bcJ hv2, ob_s, sumOf2_eq hv2 hn h 2202 (hL 2202 rfl), ob_s, nt_succ, hr, ob_s, if_neg n10, if_pos rfl, if_neg n10]
    by_cases c1 : sb (tA t 2200 0) v n ≤ x1
    case neg => exact ⟨fun q => absurd q.1 c1, fun _ => if_pos (Int32.not_le.mp c1)⟩
    rw [if_neg (Int32.not_lt.mpr c1)]
    by_cases c2 : nt (pcB v) ≤ x2 / 10
    case neg => exact ⟨fun q => absurd q.2.1 c2, fun _ => if_pos (Int32.not_le.mp c2)⟩
    rw [if_neg (Int32.not_lt.mpr c2)]
    by_cases c3 : irm x2 10 ≤ sb (tA t 2202 0) v n
    case neg => exact ⟨fun q => absurd q.2.2.1 c3, fun _ => if_pos (Int32.not_le.mp c3)⟩
    rw [if_neg (Int32.not_lt.mpr c3)]
    by_cases c4 : plB (tA t 2203 0) v n a
    · have hr0 : ¬ r = 0 := fun q => hr2.mp q c4
      exact ⟨fun _ => if_neg hr0, fun q => absurd ⟨c1, c2, c3, c4⟩ q⟩
    · have hr0 : r = 0 := hr2.mpr c4
      exact ⟨fun q => absurd q.2.2.2 c4, fun _ => if_pos hr0⟩
  by_cases b1_ : bw < sb (tA t 2201 0) v n
  · rw [if_pos b1_]
    exact ⟨fun q => e69.1 q.1, fun q => e69.2 (fun q2 => q ⟨q2, Or.inl b1_⟩)⟩
  rw [if_neg b1_]
  by_cases b2 : sb (tA t 2201 0) v n = bw
  case neg =>
    rw [if_pos b2]
    exact ⟨fun q => absurd q.2 (fun q2 => q2.elim b1_ (fun q3 => b2 q3.1)), fun _ => e73⟩
  rw [if_neg (fun q => q b2)]
  by_cases b3 : sb (tA t 2200 0) v n < bp
  · rw [if_neg (Int32.not_le.mpr b3)]
    exact ⟨fun q => e69.1 q.1, fun q => e69.2 (fun q2 => q ⟨q2, Or.inr ⟨b2, b3⟩⟩)⟩
  · rw [if_pos (Int32.not_lt.mp b3)]
    exact ⟨fun q => absurd q.2 (fun q2 => q2.elim b1_ (fun q3 => b3 q3.2)), fun _ => e73⟩
end
