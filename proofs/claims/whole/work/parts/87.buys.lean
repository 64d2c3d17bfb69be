/-! PART 87: buys. -/
section
variable {t : TS} {n v : Nat}
theorem sumOf2_eq (hv : v < 1024) (hn : n ≤ 10) (h : tI t 204 0 = nt n) (k : Nat) (hl : tL t k 0 = 10) : F_X2_sumOf t (nt v) (k, 0) = some (sb (tA t k 0) v n) := by
  unfold F_X2_sumOf
  obtain ⟨N, hN⟩ : ∃ N : Nat, N = 10000 := ⟨_, rfl⟩
  rw [← hN]
  refine loop_wh (B := fun fu (i : Nat) => B_X2_sumOf_5 fu t (nt v) (k, 0) (sb (tA t k 0) v i) (nt i)) (mu := fun i => n - i) (G := fun o => o = some (sb (tA t k 0) v n)) (P := fun i => i ≤ n) ?_ N 0 (Nat.zero_le _) (by omega)
  intro fu i hi
  show BB_X2_sumOf_5 (B_X2_sumOf_5 fu) t _ _ _ _ = _ ∨ ∃ a', BB_X2_sumOf_5 (B_X2_sumOf_5 fu) t _ _ _ _ = _ ∧ _
  unfold BB_X2_sumOf_5
  rw [h, igE (by omega) (by omega)]
  by_cases e : i = n
  · left
    subst e
    rw [if_pos (Nat.le_refl _)]
  · right
    refine ⟨i + 1, ?_, by omega, by omega⟩
    rw [if_neg (by omega)]
    show gd (nt i) (tL t k 0) _ = _
    rw [hl, gd_nt _ (by omega) (by omega), bit_bb hv (by omega), nt_cl (by omega), b1_mul, nt_succ]
    rfl
def cpl (f : Nat → Int32) (v p n : Nat) : Nat := cntP (fun i => v.testBit i && decide (f i = nt p)) n
theorem dc_le : ∀ d, d ≤ 9 → ∀ c, c ≤ 10 → (nt d - nt c ≤ 0 ↔ d ≤ c) := by decide +kernel
theorem sub1 (a : Int32) (c : Nat) : a - nt c - 1 = a - nt (c + 1) := by
  rw [← nt_succ, Int32.sub_eq_add_neg, Int32.sub_eq_add_neg, Int32.sub_eq_add_neg, Int32.neg_add, Int32.sub_eq_add_neg, Int32.add_assoc]
theorem fp_in (k5 : TS → Int32 → Int32 → Int32 → Option Int32) (hL : Ilen t) (hv : v < 1024) (hn : n ≤ 10) (h : tI t 204 0 = nt n) (v3 : Int32) (p d : Nat) (hd : d ≤ 9) : B_X2_fillsPlaces_24 k5 10000 t (nt v) v3 (nt p) (nt d) 0 = if d ≤ cpl (tA t 2203 0) v p n then k5 t (nt v) v3 (nt p + (-1)) else some 0 := by
  obtain ⟨N, hN⟩ : ∃ N : Nat, N = 10000 := ⟨_, rfl⟩
  rw [← hN]
  have h0 : nt d - nt (cpl (tA t 2203 0) v p 0) = nt d := Int32.sub_zero _
  conv => lhs; rw [← h0]
  refine loop_wh (B := fun fu (i : Nat) => B_X2_fillsPlaces_24 k5 fu t (nt v) v3 (nt p) (nt d - nt (cpl (tA t 2203 0) v p i)) (nt i)) (mu := fun i => n - i) (G := fun o => o = if d ≤ cpl (tA t 2203 0) v p n then k5 t (nt v) v3 (nt p + (-1)) else some 0) (P := fun i => i ≤ n) ?_ N 0 (Nat.zero_le _) (by omega)
  intro fu i hi
  show BB_X2_fillsPlaces_24 k5 (B_X2_fillsPlaces_24 k5 fu) t _ _ _ _ _ = _ ∨ ∃ a', BB_X2_fillsPlaces_24 k5 (B_X2_fillsPlaces_24 k5 fu) t _ _ _ _ _ = _ ∧ _
  unfold BB_X2_fillsPlaces_24
  rw [h, igE (by omega) (by omega)]
  by_cases e : i = n
  · left
    subst e
    rw [if_pos (Nat.le_refl _)]
    unfold B_X2_fillsPlaces_70
    have hc : cpl (tA t 2203 0) v p i ≤ 10 := Nat.le_trans (cntP_le i) hn
    rw [ifP (propext (dc_le d hd _ hc))]
  · right
    refine ⟨i + 1, ?_, by omega, by omega⟩
    rw [if_neg (by omega), bit_bb hv (by omega), gw0]
    unfold B_X2_fillsPlaces_60 B_X2_fillsPlaces_61
    have e2 : cpl (tA t 2203 0) v p (i + 1) = cpl (tA t 2203 0) v p i + (if (v.testBit i && decide (tA t 2203 0 i = nt p)) = true then 1 else 0) := rfl
    rw [e2, nt_succ]
    cases g : v.testBit i with
    | false => rw [if_neg (by decide), if_neg (by simp), Int32.sub_zero, Nat.add_zero (cpl (tA t 2203 0) v p i)]
    | true =>
      rw [if_pos rfl, (show tL _ 2203 0 = 10 from hL 2203 rfl), gd_nt _ (by omega) (by omega), nt_cl (by omega)]
      by_cases g2 : tA t 2203 0 i = nt p
      · rw [if_neg (fun q => q g2), if_pos (by simp [g2]), sub1]
      · rw [if_pos g2, if_neg (by simp [g2]), Int32.sub_zero, Nat.add_zero (cpl (tA t 2203 0) v p i)]
def dgN (a p : Nat) : Nat := if p = 0 then a / 1000 else if p = 1 then a / 100 % 10 else if p = 2 then a / 10 % 10 else a % 10
def plB (f : Nat → Int32) (v n a : Nat) : Prop := dgN a 3 ≤ cpl f v 3 n ∧ dgN a 2 ≤ cpl f v 2 n ∧ dgN a 1 ≤ cpl f v 1 n ∧ dgN a 0 ≤ cpl f v 0 n
theorem fills_eq (hL : Ilen t) (hv : v < 1024) (hn : n ≤ 10) (h : tI t 204 0 = nt n) {a : Nat} (ha : a ≤ 9999) : ∃ r, F_X2_fillsPlaces t (nt v) (nt a) = some r ∧ (r = 0 ↔ ¬ plB (tA t 2203 0) v n a) := by
  unfold F_X2_fillsPlaces
  obtain ⟨N, hN⟩ : ∃ N : Nat, 10000 = N + 5 := ⟨9995, rfl⟩
  rw [hN]
  have st : ∀ M b p, b ≤ 9999 → p < 4 → B_X2_fillsPlaces_5 (M + 1) t (nt v) (nt b) (nt p) = if b % 10 ≤ cpl (tA t 2203 0) v p n then B_X2_fillsPlaces_5 M t (nt v) (nt (b / 10)) (nt p + (-1)) else some 0 := by
    intro M b p hb hp
    show BB_X2_fillsPlaces_5 (B_X2_fillsPlaces_5 M) t _ _ _ = _
    unfold BB_X2_fillsPlaces_5
    rw [if_neg (nt_neg (by omega)), show (10 : Int32) = nt 10 from rfl, nt_div (by omega) (by omega), nt_irm (by omega) (by omega), fp_in _ hL hv hn h _ p (b % 10) (by omega)]
  have d1 : a / 10 / 10 = a / 100 := Nat.div_div_eq_div_mul a 10 10
  have d2 : a / 100 / 10 = a / 1000 := Nat.div_div_eq_div_mul a 100 10
  have d3 : a / 1000 % 10 = a / 1000 := Nat.mod_eq_of_lt (by omega)
  have s3 := st (N + 4) a 3 ha (by omega)
  have s2 := st (N + 3) (a / 10) 2 (by omega) (by omega)
  have s1 := st (N + 2) (a / 100) 1 (by omega) (by omega)
  have s0 := st (N + 1) (a / 1000) 0 (by omega) (by omega)
  rw [show nt 3 + (-1) = nt 2 from rfl] at s3
  rw [show nt 2 + (-1) = nt 1 from rfl, d1] at s2
  rw [show nt 1 + (-1) = nt 0 from rfl, d2] at s1
  rw [show nt 0 + (-1) = -1 from rfl, d3] at s0
  have s9 : B_X2_fillsPlaces_5 (N + 1) t (nt v) (nt (a / 1000 / 10)) (-1) = some 1 := by
    show BB_X2_fillsPlaces_5 (B_X2_fillsPlaces_5 N) t _ _ _ = _
    unfold BB_X2_fillsPlaces_5
    rw [if_pos (by decide)]
  rw [show (3 : Int32) = nt 3 from rfl, s3]
  have hp : plB (tA t 2203 0) v n a = (a % 10 ≤ cpl (tA t 2203 0) v 3 n ∧ a / 10 % 10 ≤ cpl (tA t 2203 0) v 2 n ∧ a / 100 % 10 ≤ cpl (tA t 2203 0) v 1 n ∧ a / 1000 ≤ cpl (tA t 2203 0) v 0 n) := rfl
  rw [hp]
  by_cases c3 : a % 10 ≤ cpl (tA t 2203 0) v 3 n
  case neg => exact ⟨0, if_neg c3, iff_of_true rfl (fun q => c3 q.1)⟩
  rw [if_pos c3, s2]
  by_cases c2 : a / 10 % 10 ≤ cpl (tA t 2203 0) v 2 n
  case neg => exact ⟨0, if_neg c2, iff_of_true rfl (fun q => c2 q.2.1)⟩
  rw [if_pos c2, s1]
  by_cases c1 : a / 100 % 10 ≤ cpl (tA t 2203 0) v 1 n
  case neg => exact ⟨0, if_neg c1, iff_of_true rfl (fun q => c1 q.2.2.1)⟩
  rw [if_pos c1, s0]
  by_cases c0 : a / 1000 ≤ cpl (tA t 2203 0) v 0 n
  case neg => exact ⟨0, if_neg c0, iff_of_true rfl (fun q => c0 q.2.2.2)⟩
  rw [if_pos c0, s9]
  exact ⟨1, rfl, iff_of_false (by decide) (fun q => q ⟨c3, c2, c1, c0⟩)⟩
end
