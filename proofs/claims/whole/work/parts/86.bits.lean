/-! PART 86: bits. -/
def tz : TS := (fun _ _ => false, fun _ _ => 0, fun _ _ => none, fun _ _ => 0, fun _ _ _ => 0, fun _ _ _ => 0, fun _ _ _ => none)
theorem bit_b : ∀ v, v < 1024 → ∀ k, k < 10 → bitAt (nt v) k = b1 (v.testBit k) := by decide +kernel
theorem pow_b : ∀ n, n ≤ 10 → (1 : Int32) <<< (nt n &&& 31) = nt (2 ^ n) := by decide +kernel
theorem pow_le : ∀ n, n ≤ 10 → 2 ^ n ≤ 1024 := by decide
def pcB (v : Nat) : Nat := cntP (fun k => v.testBit k) 10
theorem bits_step : ∀ v, v < 1024 → ¬ v = 0 → nt v &&& (nt v - 1) = nt (v &&& (v - 1)) ∧ (v &&& (v - 1)) < v ∧ pcB (v &&& (v - 1)) + 1 = pcB v := by decide +kernel
theorem pcB_0 : pcB 0 = 0 := by decide +kernel
theorem bcJ0 : ∀ v, v < 1024 → F_J6_bitCount_0f7a4 tz (nt v) = some (nt (pcB v)) := by decide +kernel
theorem bcJ {t : TS} {v : Nat} (h : v < 1024) : F_J6_bitCount_0f7a4 t (nt v) = some (nt (pcB v)) := bcJ0 v h
theorem bitsOf_eq {t : TS} {v0 : Nat} (h : v0 < 1024) : F_X13_bitsOf t (nt v0) = some (nt (pcB v0)) := by
  unfold F_X13_bitsOf
  obtain ⟨N, hN⟩ : ∃ N : Nat, N = 10000 := ⟨_, rfl⟩
  rw [← hN]
  refine loop_wh (B := fun fu (x : Nat × Nat) => B_X13_bitsOf_4 fu t (nt x.1) (nt x.2)) (mu := fun x => x.2) (G := fun o => o = some (nt (pcB v0))) (P := fun x => x.2 < 1024 ∧ x.1 + pcB x.2 = pcB v0) ?_ N (0, v0) ⟨h, Nat.zero_add _⟩ (by show v0 < N; omega)
  intro fu x hx
  obtain ⟨c, v⟩ := x
  have hv : v < 1024 := hx.1
  have hc : c + pcB v = pcB v0 := hx.2
  show BB_X13_bitsOf_4 (B_X13_bitsOf_4 fu) t (nt c) (nt v) = _ ∨ ∃ a', BB_X13_bitsOf_4 (B_X13_bitsOf_4 fu) t (nt c) (nt v) = _ ∧ _
  unfold BB_X13_bitsOf_4
  by_cases e : v = 0
  · left
    subst e
    rw [pcB_0] at hc
    rw [if_pos (show nt 0 = 0 from rfl), ← hc]
    rfl
  · right
    obtain ⟨s1, s2, s3⟩ := bits_step v hv e
    refine ⟨(c + 1, v &&& (v - 1)), ?_, ⟨by show (v &&& (v - 1)) < 1024; omega, by show c + 1 + pcB (v &&& (v - 1)) = pcB v0; omega⟩, s2⟩
    rw [if_neg (fun (q : nt v = 0) => e ((nt_inj (b := 0) (by omega) (by omega)).mp q)), s1, nt_succ]
def sb (f : Nat → Int32) (v : Nat) : Nat → Int32
  | 0 => 0
  | n + 1 => sb f v n + (if v.testBit n then f n else 0)
theorem sb_cong {f g : Nat → Int32} {v : Nat} : ∀ n, (∀ k, k < n → f k = g k) → sb f v n = sb g v n
  | 0, _ => rfl
  | n + 1, h => by
    unfold sb
    rw [sb_cong n (fun k hk => h k (by omega)), h n (by omega)]
theorem b1_mul (b : Bool) (y : Int32) : b1 b * y = if b then y else 0 := by
  cases b
  · show (0 : Int32) * y = 0
    exact Int32.zero_mul
  · show (1 : Int32) * y = y
    exact Int32.one_mul y
theorem bit_bb {v k : Nat} (hv : v < 1024) (hk : k < 10) : (nt v >>> (nt k &&& 31)) &&& 1 = b1 (v.testBit k) := bit_b v hv k hk
