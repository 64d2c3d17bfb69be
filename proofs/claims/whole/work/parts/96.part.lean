/-! PART 96: part, the model's side. -/
def qR (rk cf : Nat → Nat) (r i : Nat) : Nat := if rk i = r then cf i else 0
theorem mk_pos {n W : Nat} {q : Nat → Nat} (hS : 0 < sN q n) : ∀ j, j ≤ W - sN (fun i => W * q i / sN q n) n → ∀ i, mkM n (fun i => W * q i % sN q n) j i = true → 0 < W * q i % sN q n
  | 0, _, i, h => by
    exact absurd (show false = true from h) (by decide)
  | j + 1, hj, i, h => by
    have h' : (mkM n (fun i => W * q i % sN q n) j i || decide (bsF (fun i => W * q i % sN q n) (mkM n (fun i => W * q i % sN q n) j) n = some i)) = true := h
    rw [Bool.or_eq_true, decide_eq_true_eq] at h'
    rcases h' with h' | h'
    · exact mk_pos hS j (by omega) i h'
    · obtain ⟨i0, e1, e2, e3⟩ := mk_ex (W := W) hS (j := j) (by omega)
      have := (bsF_s n i h').2.2.1 i0 e1 e2
      exact Nat.lt_of_lt_of_le e3 this
theorem pr_0 {n W : Nat} {q : Nat → Nat} {i : Nat} (hS : 0 < sN q n) (h : q i = 0) : prN n W q i = 0 := by
  unfold prN
  have e : mkM n (fun i => W * q i % sN q n) (W - sN (fun i => W * q i / sN q n) n) i = false := by
    cases g : mkM n (fun i => W * q i % sN q n) (W - sN (fun i => W * q i / sN q n) n) i with
    | false => rfl
    | true =>
      have := mk_pos hS _ (Nat.le_refl _) i g
      rw [h, Nat.mul_zero, Nat.zero_mod] at this
      omega
  rw [e, h, Nat.mul_zero, Nat.zero_div, if_neg (by decide)]
/-- among those that count alone the next one is the same -/
theorem bsF_el {n : Nat} {rs : Nat → Nat} {m el : Nat → Bool} (hz : ∀ i, i < n → el i = false → rs i = 0) (hx : ∃ i, i < n ∧ m i = false ∧ 0 < rs i) : ∃ b, bsF rs (fun i => m i || !el i) n = some b ∧ bsF rs m n = some b ∧ el b = true ∧ isB n rs m b := by
  obtain ⟨i0, e1, e2, e3⟩ := hx
  have hel : el i0 = true := by
    cases g : el i0 with
    | true => rfl
    | false => rw [hz i0 e1 g] at e3; omega
  cases g : bsF rs (fun i => m i || !el i) n with
  | none =>
    have := bsF_n n g i0 e1
    simp only [e2, hel, Bool.false_or, Bool.not_true] at this
    cases this
  | some b =>
    obtain ⟨a1, a2, a3, a4⟩ := bsF_s n b g
    simp only [Bool.or_eq_false_iff, Bool.not_eq_false'] at a2 a3 a4
    have hb := a3 i0 e1 ⟨e2, hel⟩
    have hB : isB n rs m b := by
      refine ⟨a1, a2.1, fun i hi hm => ?_, fun i hi hm => ?_⟩
      · cases h : el i with
        | true => exact a3 i hi ⟨hm, h⟩
        | false => rw [hz i hi h]; exact Nat.zero_le _
      · cases h : el i with
        | true => exact a4 i hi ⟨hm, h⟩
        | false => rw [hz i (by omega) h]; omega
    exact ⟨b, rfl, bsF_eq hB, a2.2, hB⟩
section
variable {t : TS} {n : Nat} {rk cf : Nat → Nat}
theorem mp_sum (k26 : TS → Int32 → Int64 → Int32 → Option (Int32 × TS)) (hL : Ilen t) (hn : n ≤ 12) (h86 : tI t 1386 0 = nt n) (hq : ∀ i, i < n → tA t 3387 0 i = nt (rk i) ∧ rk i < 4 ∧ tA t 3388 0 i = nt (cf i) ∧ 1 ≤ cf i ∧ cf i ≤ 999999) (x1 : Int32) (l : Int64) {r : Nat} (hr : r < 4) : B_X13_part_38 k26 10000 t x1 l (nt r) 0 0 = B_X13_part_82 k26 t x1 l (nt r) (jn (sN (qR rk cf r) n)) := by
  obtain ⟨N, hN⟩ : ∃ N : Nat, N = 10000 := ⟨_, rfl⟩
  rw [← hN]
  refine loop_wh (B := fun fu (i : Nat) => B_X13_part_38 k26 fu t x1 l (nt r) (jn (sN (qR rk cf r) i)) (nt i)) (mu := fun i => n - i) (G := fun o => o = B_X13_part_82 k26 t x1 l (nt r) (jn (sN (qR rk cf r) n))) (P := fun i => i ≤ n) ?_ N 0 (Nat.zero_le _) (by omega)
  intro fu i hi
  show BB_X13_part_38 k26 (B_X13_part_38 k26 fu) t _ _ _ _ _ = _ ∨ ∃ a', BB_X13_part_38 k26 (B_X13_part_38 k26 fu) t _ _ _ _ _ = _ ∧ _
  unfold BB_X13_part_38
  rw [h86, igE (by omega) (by omega)]
  by_cases e : i = n
  · left
    subst e
    rw [if_pos (Nat.le_refl _)]
  · right
    obtain ⟨q1, q2, q3, q4, q5⟩ := hq i (by omega)
    refine ⟨i + 1, ?_, by omega, by omega⟩
    rw [if_neg (by omega), (show tL _ 3387 0 = 12 from hL 3387 rfl), (show tL _ 3388 0 = 12 from hL 3388 rfl), gd_nt _ (by omega) (by omega), gd_nt _ (by omega) (by omega), nt_cl (by omega), q1, q3]
    unfold B_X13_part_73
    have e3 : sN (qR rk cf r) (i + 1) = sN (qR rk cf r) i + qR rk cf r i := rfl
    rw [e3, nt_succ, nt_jn (by omega), jn_add]
    unfold qR
    by_cases c : rk i = r
    · rw [if_neg (fun q => q (by rw [c])), if_pos c]
    · rw [if_pos (by rw [eq_nt (by omega) (by omega)]; exact c), if_neg c, show (0 : Int64) = jn 0 from rfl, jn_add]
theorem mp_base (k26 : TS → Int32 → Int64 → Int32 → Option (Int32 × TS)) (hL : Ilen t) (hn : n ≤ 12) (h86 : tI t 1386 0 = nt n) (hq : ∀ i, i < n → tA t 3387 0 i = nt (rk i) ∧ rk i < 4 ∧ tA t 3388 0 i = nt (cf i) ∧ 1 ≤ cf i ∧ cf i ≤ 999999) (x1 : Int32) (l : Int64) {r W : Nat} (hr : r < 4) (hW : W ≤ 10000000) (hS : 0 < sN (qR rk cf r) n) : ∃ u, B_X13_part_105 k26 t x1 l (nt r) (jn (sN (qR rk cf r) n)) (jn W) = B_X13_part_179 k26 10000 u x1 l (nt r) (jn (sN (qR rk cf r) n)) (jn W) (jn (W - sN (fun i => W * qR rk cf r i / sN (qR rk cf r) n) n)) ∧ oA 3389 0 t u ∧ ∀ j, tA u 3389 0 j = if j < n ∧ rk j = r then nt (W * cf j / sN (qR rk cf r) n) else tA t 3389 0 j := by
  have hqb : ∀ i, i < n → qR rk cf r i ≤ 999999 := fun i hi => by
    unfold qR
    split
    · exact (hq i hi).2.2.2.2
    · exact Nat.zero_le _
  have hSb : sN (qR rk cf r) n ≤ 999999 * n := sN_bd n hqb
  have hSb2 : sN (qR rk cf r) n ≤ 12000000 := by
    have : 999999 * n ≤ 999999 * 12 := Nat.mul_le_mul_left _ hn
    omega
  have hB := base_le (W := W) hS
  obtain ⟨S, hSd⟩ : ∃ S, S = sN (qR rk cf r) n := ⟨_, rfl⟩
  rw [← hSd] at hS hSb2 hB ⊢
  have hWq : ∀ i, i < n → W * cf i ≤ 100000000000000 := fun i hi => by
    have := Nat.mul_le_mul hW (hq i hi).2.2.2.2
    omega
  have hb : ∀ i, i ≤ n → sN (fun i => W * qR rk cf r i / S) i ≤ sN (fun i => W * qR rk cf r i / S) n := by
    intro i hi
    have : ∀ d, sN (fun i => W * qR rk cf r i / S) i ≤ sN (fun i => W * qR rk cf r i / S) (i + d) := by
      intro d
      induction d with
      | zero => exact Nat.le_refl _
      | succ d ih => exact Nat.le_trans ih (Nat.le_add_right _ _)
    have h2 := this (n - i)
    rw [show i + (n - i) = n by omega] at h2
    exact h2
  unfold B_X13_part_105
  obtain ⟨N, hN⟩ : ∃ N : Nat, N = 10000 := ⟨_, rfl⟩
  rw [← hN]
  have hst : ∀ (u : TS) (w : Int64), (if True then B_X13_part_179 k26 10000 u x1 l (nt r) (jn S) (jn W) w else none) = B_X13_part_179 k26 N u x1 l (nt r) (jn S) (jn W) w := fun u w => by rw [if_pos trivial, hN]
  refine loop_wh (B := fun fu (x : Nat × TS) => B_X13_part_114 k26 fu x.2 x1 l (nt r) (jn S) (jn W) (jn (W - sN (fun i => W * qR rk cf r i / S) x.1)) (nt x.1)) (mu := fun x => n - x.1) (G := fun o => ∃ u, o = B_X13_part_179 k26 N u x1 l (nt r) (jn S) (jn W) (jn (W - sN (fun i => W * qR rk cf r i / S) n)) ∧ oA 3389 0 t u ∧ ∀ j, tA u 3389 0 j = if j < n ∧ rk j = r then nt (W * cf j / S) else tA t 3389 0 j) (P := fun x => x.1 ≤ n ∧ oA 3389 0 t x.2 ∧ ∀ j, tA x.2 3389 0 j = if j < x.1 ∧ rk j = r then nt (W * cf j / S) else tA t 3389 0 j) ?_ N (0, t) ⟨Nat.zero_le _, oA_rf, fun j => (if_neg (fun q => Nat.not_lt_zero j q.1)).symm⟩ (by show n - 0 < N; omega)
  intro fu x hx
  obtain ⟨i, u⟩ := x
  have hi : i ≤ n := hx.1
  have h : oA 3389 0 t u := hx.2.1
  have hz : ∀ j, tA u 3389 0 j = if j < i ∧ rk j = r then nt (W * cf j / S) else tA t 3389 0 j := hx.2.2
  show (∃ u', BB_X13_part_114 k26 (B_X13_part_114 k26 fu) u x1 l (nt r) (jn S) (jn W) (jn (W - sN (fun i => W * qR rk cf r i / S) i)) (nt i) = _ ∧ _) ∨ ∃ a', BB_X13_part_114 k26 (B_X13_part_114 k26 fu) u x1 l (nt r) (jn S) (jn W) (jn (W - sN (fun i => W * qR rk cf r i / S) i)) (nt i) = _ ∧ _
  have hLu : Ilen u := Ilen_f (oA_f (D := ks [3389]) h rfl) hL
  have h87 : tA u 3387 = tA t 3387 := h.2.2.2.2.2.2.1 3387 (by decide)
  have h88 : tA u 3388 = tA t 3388 := h.2.2.2.2.2.2.1 3388 (by decide)
  have h86u : tI u 1386 0 = nt n := by rw [h.2.1]; exact h86
  unfold BB_X13_part_114
  rw [h86u, igE (by omega) (by omega)]
  by_cases e : i = n
  · left
    rw [if_pos (by omega)]
    refine ⟨u, ?_, h, by rw [e] at hz; exact hz⟩
    rw [e, hN]
  right
  have hi2 : i < n := by omega
  obtain ⟨q1, q2, q3, q4, q5⟩ := hq i hi2
  have h1 := hWq i hi2
  have h2 := hb (i + 1) (by omega)
  have h3 : sN (fun i => W * qR rk cf r i / S) (i + 1) = sN (fun i => W * qR rk cf r i / S) i + W * qR rk cf r i / S := rfl
  rw [if_neg (by omega), (show tL _ 3387 0 = 12 from hLu 3387 rfl), (show tL _ 3388 0 = 12 from hLu 3388 rfl), (show tL _ 3389 0 = 12 from hLu 3389 rfl), gd_nt _ (by omega) (by omega), nt_cl (by omega), h87, h88, q1, q3]
  unfold B_X13_part_173
  by_cases c : rk i = r
  · have e4 : qR rk cf r i = cf i := if_pos c
    rw [e4] at h3
    have hdl : W * cf i / S ≤ W * cf i := Nat.div_le_self _ _
    have hsm : W * cf i / S < 2147483648 := by omega
    refine ⟨(i + 1, uA u 3389 0 i (nt (W * cf i / S))), ?_, ⟨hi2, oA_uA h, fun j => ?_⟩, by show n - (i + 1) < n - i; omega⟩
    · rw [if_pos (by rw [c]), gd_nt _ (by omega) (by omega), gzJ_jn (by omega) (by omega), gd_nt _ (by omega) (by omega), nt_jn (a := cf i) (by omega), jn_mul, jn_div (by omega) (by omega), jn_nt, nxt_e, show tL (uA u 3389 0 i (nt (W * cf i / S))) 3389 0 = 12 from hLu 3389 rfl, gd_nt _ (by omega) (by omega), A_uA, m1_s, m1_s, nt_jn (by omega), jn_sub (by omega), nt_succ]
      show _ = B_X13_part_114 k26 fu _ _ _ _ _ _ (jn (W - sN (fun i => W * qR rk cf r i / S) (i + 1))) _
      rw [h3, Nat.sub_add_eq]
    · show tA (uA u 3389 0 i (nt (W * cf i / S))) 3389 0 j = if j < i + 1 ∧ rk j = r then _ else _
      rw [A_uA, m1_s]
      by_cases e2 : j = i
      · subst e2
        rw [m1_s, if_pos ⟨Nat.lt_succ_self j, c⟩]
      · rw [m1_n e2, hz j]
        by_cases e3 : j < i ∧ rk j = r
        · rw [if_pos e3, if_pos ⟨by omega, e3.2⟩]
        · rw [if_neg e3, if_neg (fun q => e3 ⟨by omega, q.2⟩)]
  · have e4 : qR rk cf r i = 0 := if_neg c
    rw [e4, Nat.mul_zero, Nat.zero_div] at h3
    have h3' : sN (fun i => W * qR rk cf r i / S) (i + 1) = sN (fun i => W * qR rk cf r i / S) i := h3
    refine ⟨(i + 1, u), ?_, ⟨hi2, h, fun j => ?_⟩, by show n - (i + 1) < n - i; omega⟩
    · rw [if_neg (by rw [eq_nt (by omega) (by omega)]; exact c), nt_succ]
      show _ = B_X13_part_114 k26 fu _ _ _ _ _ _ (jn (W - sN (fun i => W * qR rk cf r i / S) (i + 1))) _
      rw [h3']
    · show tA u 3389 0 j = if j < i + 1 ∧ rk j = r then _ else _
      rw [hz j]
      by_cases e3 : j < i ∧ rk j = r
      · rw [if_pos e3, if_pos ⟨by omega, e3.2⟩]
      · rw [if_neg e3, if_neg (fun q => e3 ⟨by
          by_cases e5 : j = i
          · subst e5; exact absurd q.2 c
          · omega, q.2⟩)]
end
