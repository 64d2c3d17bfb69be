/-! PART e8: the model's shares: sums and whole parts. -/
section
variable {t : TS} {n m co : Nat} {q : Nat → Nat}
/-- the weights: the seller's days don't count -/
def wq (co : Nat) (q : Nat → Nat) (i : Nat) : Nat := if i = co then 0 else q i
def elq (co : Nat) (q : Nat → Nat) (i : Nat) : Bool := decide (¬ i = co ∧ ¬ q i = 0)
theorem wq_el {i : Nat} (h : elq co q i = true) : ¬ i = co ∧ ¬ q i = 0 ∧ wq co q i = q i := by
  obtain ⟨h1, h2⟩ := of_decide_eq_true h
  exact ⟨h1, h2, if_neg h1⟩
theorem wq_no {i : Nat} (h : elq co q i = false) : wq co q i = 0 := by
  have h1 := of_decide_eq_false h
  unfold wq
  by_cases e : i = co
  · rw [if_pos e]
  · rw [if_neg e]
    by_cases g : q i = 0
    · exact g
    · exact absurd ⟨e, g⟩ h1
theorem j150 (i : Nat) : (150 : Int32) * nt m + nt i = nt (150 * m + i) := by
  rw [show (150 : Int32) = nt 150 from rfl, nt_mul, nt_add]
theorem wq_le (hq : ∀ i, i < n → q i ≤ 4000) : ∀ i, i < n → wq co q i ≤ 4000 := fun i hi => by
  unfold wq
  split
  · omega
  · exact hq i hi
theorem wq_sum (hn : n ≤ 150) (hq : ∀ i, i < n → q i ≤ 4000) : sN (wq co q) n ≤ 600000 := by
  have h1 := sN_bd n (wq_le (co := co) hq)
  have h2 : 4000 * n ≤ 4000 * 150 := Nat.mul_le_mul_left _ hn
  omega
theorem ps_sum (hL : Ilen t) (hn : n ≤ 150) (hm : m < 200) (hco : co < n) (h07 : tI t 1307 0 = nt n) (h29 : tA t 3329 0 m = nt co) (h25 : ∀ i, i < n → tA t 3325 0 i = nt (q i)) (hq : ∀ i, i < n → q i ≤ 4000) : B_X13_payShares_17 10000 t (nt m) 0 0 = B_X13_payShares_58 t (nt m) (jn (sN (wq co q) n)) := by
  obtain ⟨N, hN⟩ : ∃ N : Nat, N = 10000 := ⟨_, rfl⟩
  rw [← hN]
  refine loop_wh (B := fun fu (i : Nat) => B_X13_payShares_17 fu t (nt m) (jn (sN (wq co q) i)) (nt i)) (mu := fun i => n - i) (G := fun o => o = B_X13_payShares_58 t (nt m) (jn (sN (wq co q) n))) (P := fun i => i ≤ n) ?_ N 0 (Nat.zero_le _) (by omega)
  intro fu i hi
  show BB_X13_payShares_17 (B_X13_payShares_17 fu) t _ _ _ = _ ∨ ∃ a', BB_X13_payShares_17 (B_X13_payShares_17 fu) t _ _ _ = _ ∧ _
  unfold BB_X13_payShares_17
  rw [h07, igE (by omega) (by omega)]
  by_cases e : i = n
  · left
    subst e
    rw [if_pos (Nat.le_refl _)]
  · right
    have hqi := hq i (by omega)
    refine ⟨i + 1, ?_, by omega, by omega⟩
    rw [if_neg (by omega), (show tL _ 3329 0 = 200 from hL 3329 rfl), (show tL _ 3325 0 = 150 from hL 3325 rfl), gd_nt _ (by omega) (by omega), gd_nt _ (by omega) (by omega), nt_cl (by omega), nt_cl (by omega), h29, h25 i (by omega)]
    unfold B_X13_payShares_50
    have e3 : sN (wq co q) (i + 1) = sN (wq co q) i + wq co q i := rfl
    rw [e3, nt_succ, nt_jn (by omega), jn_add]
    unfold wq
    by_cases c : i = co
    · rw [if_neg (fun g => g (by rw [c])), if_pos c, show (0 : Int64) = jn 0 from rfl, jn_add]
    · rw [if_pos (by rw [eq_nt (by omega) (by omega)]; exact c), if_neg c]
theorem ps_base (hL : Ilen t) (hn : n ≤ 150) (hm : m < 200) (hco : co < n) (h07 : tI t 1307 0 = nt n) (h29 : tA t 3329 0 m = nt co) (h25 : ∀ i, i < n → tA t 3325 0 i = nt (q i)) (hq : ∀ i, i < n → q i ≤ 4000) (hz : ∀ i, i < n → tA t 3347 0 (150 * m + i) = 0) {W : Nat} (hW : W ≤ 10000000) (hS : 0 < sN (wq co q) n) : ∃ u, B_X13_payShares_84 10000 t (nt m) (jn (sN (wq co q) n)) (nt W) (nt W) 0 = B_X13_payShares_169 10000 u (nt m) (jn (sN (wq co q) n)) (nt W) (nt (W - sN (fun i => W * wq co q i / sN (wq co q) n) n)) ∧ oA 3347 0 t u ∧ ∀ j, tA u 3347 0 j = if 150 * m ≤ j ∧ j < 150 * m + n then nt (W * wq co q (j - 150 * m) / sN (wq co q) n) else tA t 3347 0 j := by
  have hSb2 := wq_sum (co := co) hn hq
  have hB := base_le (W := W) hS
  obtain ⟨S, hSd⟩ : ∃ S, S = sN (wq co q) n := ⟨_, rfl⟩
  rw [← hSd] at hS hSb2 hB ⊢
  have hWq : ∀ i, i < n → W * q i ≤ 100000000000000 := fun i hi => by
    have := Nat.mul_le_mul hW (hq i hi)
    omega
  have hb : ∀ i, i ≤ n → sN (fun i => W * wq co q i / S) i ≤ sN (fun i => W * wq co q i / S) n := by
    intro i hi
    have : ∀ d, sN (fun i => W * wq co q i / S) i ≤ sN (fun i => W * wq co q i / S) (i + d) := by
      intro d
      induction d with
      | zero => exact Nat.le_refl _
      | succ d ih => exact Nat.le_trans ih (Nat.le_add_right _ _)
    have h2 := this (n - i)
    rw [show i + (n - i) = n by omega] at h2
    exact h2
  obtain ⟨N, hN⟩ : ∃ N : Nat, N = 10000 := ⟨_, rfl⟩
  rw [← hN]
  refine loop_wh (B := fun fu (x : Nat × TS) => B_X13_payShares_84 fu x.2 (nt m) (jn S) (nt W) (nt (W - sN (fun i => W * wq co q i / S) x.1)) (nt x.1)) (mu := fun x => n - x.1) (G := fun o => ∃ u, o = B_X13_payShares_169 N u (nt m) (jn S) (nt W) (nt (W - sN (fun i => W * wq co q i / S) n)) ∧ oA 3347 0 t u ∧ ∀ j, tA u 3347 0 j = if 150 * m ≤ j ∧ j < 150 * m + n then nt (W * wq co q (j - 150 * m) / S) else tA t 3347 0 j) (P := fun x => x.1 ≤ n ∧ oA 3347 0 t x.2 ∧ ∀ j, tA x.2 3347 0 j = if 150 * m ≤ j ∧ j < 150 * m + x.1 then nt (W * wq co q (j - 150 * m) / S) else tA t 3347 0 j) ?_ N (0, t) ⟨Nat.zero_le _, oA_rf, fun j => (if_neg (fun g => by omega)).symm⟩ (by show n - 0 < N; omega)
  intro fu x hx
  obtain ⟨i, u⟩ := x
  have hi : i ≤ n := hx.1
  have h : oA 3347 0 t u := hx.2.1
  have hz2 : ∀ j, tA u 3347 0 j = if 150 * m ≤ j ∧ j < 150 * m + i then nt (W * wq co q (j - 150 * m) / S) else tA t 3347 0 j := hx.2.2
  show (∃ u', BB_X13_payShares_84 (B_X13_payShares_84 fu) u (nt m) (jn S) (nt W) (nt (W - sN (fun i => W * wq co q i / S) i)) (nt i) = _ ∧ _) ∨ ∃ a', BB_X13_payShares_84 (B_X13_payShares_84 fu) u (nt m) (jn S) (nt W) (nt (W - sN (fun i => W * wq co q i / S) i)) (nt i) = _ ∧ _
  have hLu : Ilen u := Ilen_f (oA_f (D := ks [3347]) h rfl) hL
  have h29u : tA u 3329 = tA t 3329 := h.2.2.2.2.2.2.1 3329 (by decide)
  have h25u : tA u 3325 = tA t 3325 := h.2.2.2.2.2.2.1 3325 (by decide)
  have h07u : tI u 1307 0 = nt n := by rw [h.2.1]; exact h07
  unfold BB_X13_payShares_84
  rw [h07u, igE (by omega) (by omega)]
  by_cases e : i = n
  · left
    rw [if_pos (by omega)]
    refine ⟨u, ?_, h, by rw [e] at hz2; exact hz2⟩
    rw [e, hN]
  right
  have hi2 : i < n := by omega
  have hqi := hq i hi2
  have h1 := hWq i hi2
  have h2 := hb (i + 1) (by omega)
  have h3 : sN (fun i => W * wq co q i / S) (i + 1) = sN (fun i => W * wq co q i / S) i + W * wq co q i / S := rfl
  have hskip : elq co q i = false → (∃ a' : Nat × TS, B_X13_payShares_84 fu u (nt m) (jn S) (nt W) (nt (W - sN (fun i => W * wq co q i / S) i)) (nt (i + 1)) = B_X13_payShares_84 fu a'.2 (nt m) (jn S) (nt W) (nt (W - sN (fun i => W * wq co q i / S) a'.1)) (nt a'.1) ∧ (a'.1 ≤ n ∧ oA 3347 0 t a'.2 ∧ ∀ j, tA a'.2 3347 0 j = if 150 * m ≤ j ∧ j < 150 * m + a'.1 then nt (W * wq co q (j - 150 * m) / S) else tA t 3347 0 j) ∧ n - a'.1 < n - i) := fun hel => by
    have e4 := wq_no hel
    rw [e4, Nat.mul_zero, Nat.zero_div] at h3
    refine ⟨(i + 1, u), ?_, ⟨hi2, h, fun j => ?_⟩, by show n - (i + 1) < n - i; omega⟩
    · show _ = B_X13_payShares_84 fu u _ _ _ (nt (W - sN (fun i => W * wq co q i / S) (i + 1))) _
      rw [h3]; rfl
    · show tA u 3347 0 j = if 150 * m ≤ j ∧ j < 150 * m + (i + 1) then _ else _
      rw [hz2 j]
      by_cases e5 : j = 150 * m + i
      · rw [if_neg (by omega), if_pos (by omega), e5, hz i hi2, show 150 * m + i - 150 * m = i by omega, e4, Nat.mul_zero, Nat.zero_div]; rfl
      · by_cases e6 : 150 * m ≤ j ∧ j < 150 * m + i
        · rw [if_pos e6, if_pos (by omega)]
        · rw [if_neg e6, if_neg (by omega)]
  have hpos : elq co q i = true → (∃ a' : Nat × TS, gd (nt i) 150 (gzJ (jn S) (gd (nt (150 * m + i)) 30000 (nxt (uA u 3347 0 (nt (150 * m + i)).toNatClampNeg (((nt W).toInt64 * (nt (q i)).toInt64 / jn S).toInt32)) (fun t21 => (gd (nt (150 * m + i)) (tL t21 3347 0) (B_X13_payShares_84 fu t21 (nt m) (jn S) (nt W) (nt (W - sN (fun i => W * wq co q i / S) i) - tA t21 3347 0 (nt (150 * m + i)).toNatClampNeg) (nt i + 1))))))) = B_X13_payShares_84 fu a'.2 (nt m) (jn S) (nt W) (nt (W - sN (fun i => W * wq co q i / S) a'.1)) (nt a'.1) ∧ (a'.1 ≤ n ∧ oA 3347 0 t a'.2 ∧ ∀ j, tA a'.2 3347 0 j = if 150 * m ≤ j ∧ j < 150 * m + a'.1 then nt (W * wq co q (j - 150 * m) / S) else tA t 3347 0 j) ∧ n - a'.1 < n - i) := fun hel => by
    obtain ⟨e1, e2, e4⟩ := wq_el hel
    rw [e4] at h3
    have hdl : W * q i / S ≤ W * q i := Nat.div_le_self _ _
    have hsm : W * q i / S < 2147483648 := by omega
    refine ⟨(i + 1, uA u 3347 0 (150 * m + i) (nt (W * q i / S))), ?_, ⟨hi2, oA_uA h, fun j => ?_⟩, by show n - (i + 1) < n - i; omega⟩
    · rw [gd_nt _ (by omega) (by omega), gzJ_jn (by omega) (by omega), gd_nt _ (by omega) (by omega), nt_jn (a := W) (by omega), nt_jn (a := q i) (by omega), jn_mul, jn_div (by omega) (by omega), jn_nt, nxt_e, nt_cl (by omega), show tL (uA u 3347 0 (150 * m + i) (nt (W * q i / S))) 3347 0 = 30000 from hLu 3347 rfl, gd_nt _ (by omega) (by omega), A_uA, m1_s, m1_s, nt_sub (by omega), nt_succ]
      show _ = B_X13_payShares_84 fu _ _ _ _ (nt (W - sN (fun i => W * wq co q i / S) (i + 1))) _
      rw [h3, Nat.sub_add_eq]
    · show tA (uA u 3347 0 (150 * m + i) (nt (W * q i / S))) 3347 0 j = if 150 * m ≤ j ∧ j < 150 * m + (i + 1) then _ else _
      rw [A_uA, m1_s]
      by_cases e5 : j = 150 * m + i
      · subst e5
        rw [m1_s, if_pos (by omega), show 150 * m + i - 150 * m = i by omega, e4]
      · rw [m1_n e5, hz2 j]
        by_cases e6 : 150 * m ≤ j ∧ j < 150 * m + i
        · rw [if_pos e6, if_pos (by omega)]
        · rw [if_neg e6, if_neg (by omega)]
  rw [if_neg (by omega), (show tL _ 3329 0 = 200 from hLu 3329 rfl), (show tL _ 3325 0 = 150 from hLu 3325 rfl), (show tL _ 3347 0 = 30000 from hLu 3347 rfl), gd_nt _ (by omega) (by omega), gd_nt _ (by omega) (by omega), nt_cl (by omega), nt_cl (by omega), h29u, h25u, h29, h25 i hi2, j150]
  unfold B_X13_payShares_163
  by_cases c : i = co
  · rw [if_pos (by rw [c]), nt_succ]
    exact hskip (decide_eq_false (fun g => g.1 c))
  rw [if_neg (by rw [eq_nt (by omega) (by omega)]; exact c)]
  by_cases c2 : q i = 0
  · rw [if_neg (fun g => g (by rw [c2]; rfl)), nt_succ]
    exact hskip (decide_eq_false (fun g => g.2 c2))
  · rw [if_pos (by rw [show (0 : Int32) = nt 0 from rfl, eq_nt (by omega) (by omega)]; exact c2)]
    exact hpos (decide_eq_true ⟨c, c2⟩)
end
