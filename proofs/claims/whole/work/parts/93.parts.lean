/-! PART 93: longs that are naturals; parting by weights, told abstractly. -/
def jn (n : Nat) : Int64 := Int64.ofNat n
theorem nt_jn {a : Nat} (h : a < 2147483648) : (nt a).toInt64 = jn a := Int64.toInt_inj.mp (by rw [Int32.toInt_toInt64, nt_int h]; exact (Int64.toInt_ofNat_of_lt (by omega)).symm)
theorem jn_nt (a : Nat) : (jn a).toInt32 = nt a := Int64.toInt32_ofNat'
theorem jn_add (a b : Nat) : jn a + jn b = jn (a + b) := (Int64.ofNat_add a b).symm
theorem jn_sub {a b : Nat} (h : b ≤ a) : jn a - jn b = jn (a - b) := (Int64.ofNat_sub a b h).symm
theorem jn_mul (a b : Nat) : jn a * jn b = jn (a * b) := (Int64.ofNat_mul a b).symm
theorem jn_div {a b : Nat} (ha : a < 9223372036854775808) (hb : b < 9223372036854775808) : jn a / jn b = jn (a / b) := (Int64.ofNat_div ha hb).symm
theorem jn_jrm {a b : Nat} (ha : a < 9223372036854775808) (hb : b < 9223372036854775808) : jrm (jn a) (jn b) = jn (a % b) := by
  show jn a - jn a / jn b * jn b = _
  have h1 : a / b * b ≤ a := Nat.div_mul_le_self a b
  rw [jn_div ha hb, jn_mul, jn_sub h1]
  congr 1
  have h2 := Nat.div_add_mod a b
  rw [Nat.mul_comm] at h2
  omega
theorem jn_int {a : Nat} (h : a < 9223372036854775808) : (jn a).toInt = a := Int64.toInt_ofNat_of_lt h
theorem jn_0 : jn 0 = 0 := rfl
theorem jn_inj {a b : Nat} (ha : a < 9223372036854775808) (hb : b < 9223372036854775808) : jn a = jn b ↔ a = b := ⟨fun h => by
  have := congrArg Int64.toInt h
  rw [jn_int ha, jn_int hb] at this
  omega, fun h => by rw [h]⟩
theorem jn_nz {a : Nat} (ha : a < 9223372036854775808) (h : ¬ a = 0) : ¬ jn a = 0 := fun q => h ((jn_inj ha (b := 0) (by omega)).mp q)
theorem gzJ_jn {α : Type} {a : Nat} {k : Option α} (ha : a < 9223372036854775808) (h : ¬ a = 0) : gzJ (jn a) k = k := gzJ_ok k (jn_nz ha h)
theorem lj_lt {a b : Nat} (ha : a < 9223372036854775808) (hb : b < 9223372036854775808) : (lg_cmp (jn a) (jn b) < 0) = (a < b) := by
  rw [lc_lt, jn_int ha, jn_int hb]
  exact propext ⟨fun q => by omega, fun q => by omega⟩
theorem lj_ge {a b : Nat} (ha : a < 9223372036854775808) (hb : b < 9223372036854775808) : (0 ≤ lg_cmp (jn a) (jn b)) = (b ≤ a) := by
  rw [lc_ge, jn_int ha, jn_int hb]
  exact propext ⟨fun q => by omega, fun q => by omega⟩
theorem lc_gt (x y : Int64) : (0 < lg_cmp x y) = (y.toInt < x.toInt) := by
  unfold lg_cmp
  by_cases h : x > y
  · have h' := Int64.lt_iff_toInt_lt.mp h
    rw [if_pos h]; exact propext ⟨fun _ => h', fun _ => by decide⟩
  · have h' : ¬ y.toInt < x.toInt := fun q => h (Int64.lt_iff_toInt_lt.mpr q)
    rw [if_neg h]
    by_cases e : x = y
    · rw [if_pos e]; exact propext ⟨fun q => absurd q (by decide), fun q => absurd q h'⟩
    · rw [if_neg e]; exact propext ⟨fun q => absurd q (by decide), fun q => absurd q h'⟩
theorem lc_le (x y : Int64) : (lg_cmp x y ≤ 0) = (x.toInt ≤ y.toInt) := by
  have h := lc_gt x y
  exact propext ⟨fun q => by
    have h2 : ¬ y.toInt < x.toInt := by rw [← h]; exact Int32.not_lt.mpr q
    omega, fun q => by
    have h2 : ¬ 0 < lg_cmp x y := by rw [h]; omega
    exact Int32.not_lt.mp h2⟩
theorem lc_eq (x y : Int64) : (lg_cmp x y = 0) = (x = y) := by
  unfold lg_cmp
  by_cases h : x > y
  · have h' := Int64.lt_iff_toInt_lt.mp h
    rw [if_pos h]; exact propext ⟨fun q => absurd q (by decide), fun q => by rw [q] at h'; omega⟩
  · rw [if_neg h]
    by_cases e : x = y
    · rw [if_pos e]; exact propext ⟨fun _ => e, fun _ => rfl⟩
    · rw [if_neg e]; exact propext ⟨fun q => absurd q (by decide), fun q => absurd q e⟩
theorem lj_gt {a b : Nat} (ha : a < 9223372036854775808) (hb : b < 9223372036854775808) : (0 < lg_cmp (jn a) (jn b)) = (b < a) := by
  rw [lc_gt, jn_int ha, jn_int hb]
  exact propext ⟨fun q => by omega, fun q => by omega⟩
theorem lj_le {a b : Nat} (ha : a < 9223372036854775808) (hb : b < 9223372036854775808) : (lg_cmp (jn a) (jn b) ≤ 0) = (a ≤ b) := by
  rw [lc_le, jn_int ha, jn_int hb]
  exact propext ⟨fun q => by omega, fun q => by omega⟩
theorem lj_eq {a b : Nat} (ha : a < 9223372036854775808) (hb : b < 9223372036854775808) : (lg_cmp (jn a) (jn b) = 0) = (a = b) := by
  rw [lc_eq]
  exact propext (jn_inj ha hb)
/-! sums -/
def sN (f : Nat → Nat) : Nat → Nat
  | 0 => 0
  | n + 1 => sN f n + f n
theorem sN_cong {f g : Nat → Nat} : ∀ n, (∀ i, i < n → f i = g i) → sN f n = sN g n
  | 0, _ => rfl
  | n + 1, h => by
    unfold sN
    rw [sN_cong n (fun i hi => h i (by omega)), h n (by omega)]
theorem sN_add (f g : Nat → Nat) : ∀ n, sN (fun i => f i + g i) n = sN f n + sN g n
  | 0 => rfl
  | n + 1 => by
    unfold sN
    rw [sN_add f g n]
    omega
theorem sN_mul (c : Nat) (f : Nat → Nat) : ∀ n, sN (fun i => c * f i) n = c * sN f n
  | 0 => rfl
  | n + 1 => by
    unfold sN
    rw [sN_mul c f n, Nat.mul_add]
theorem sN_le {f g : Nat → Nat} : ∀ n, (∀ i, i < n → f i ≤ g i) → sN f n ≤ sN g n
  | 0, _ => Nat.le_refl _
  | n + 1, h => by
    have h1 := sN_le n (fun i hi => h i (by omega))
    have h2 := h n (by omega)
    unfold sN
    omega
theorem sN_one {f : Nat → Nat} : ∀ n i, i < n → f i ≤ sN f n
  | n + 1, i, h => by
    unfold sN
    by_cases e : i = n
    · subst e; omega
    · have := sN_one (f := f) n i (by omega); omega
theorem sN_bd {f : Nat → Nat} {B : Nat} : ∀ n, (∀ i, i < n → f i ≤ B) → sN f n ≤ B * n
  | 0, _ => Nat.le_refl _
  | n + 1, h => by
    have h1 := sN_bd n (fun i hi => h i (by omega))
    have h2 := h n (by omega)
    unfold sN
    rw [Nat.mul_succ]
    omega
/-! one by one to those with the greatest rests -/
def isB (n : Nat) (rs : Nat → Nat) (m : Nat → Bool) (b : Nat) : Prop := b < n ∧ m b = false ∧ (∀ i, i < n → m i = false → rs i ≤ rs b) ∧ ∀ i, i < b → m i = false → rs i < rs b
theorem isB_u {n : Nat} {rs : Nat → Nat} {m : Nat → Bool} {b b' : Nat} (h : isB n rs m b) (h' : isB n rs m b') : b = b' := by
  obtain ⟨a1, a2, a3, a4⟩ := h
  obtain ⟨c1, c2, c3, c4⟩ := h'
  by_cases e : b < b'
  · have := c4 b e a2; have := a3 b' c1 c2; omega
  · by_cases e2 : b' < b
    · have := a4 b' e2 c2; have := c3 b a1 a2; omega
    · omega
def bsF (rs : Nat → Nat) (m : Nat → Bool) : Nat → Option Nat
  | 0 => none
  | i + 1 => if m i then bsF rs m i else oel (bsF rs m i) (some i) (fun b => if rs b < rs i then some i else some b)
theorem bsF_n {rs : Nat → Nat} {m : Nat → Bool} : ∀ n, bsF rs m n = none → ∀ i, i < n → m i = true
  | 0, _, i, hi => absurd hi (Nat.not_lt_zero i)
  | n + 1, h, i, hi => by
    unfold bsF at h
    by_cases e : m n = true
    · rw [if_pos e] at h
      by_cases e2 : i = n
      · rw [e2]; exact e
      · exact bsF_n n h i (by omega)
    · rw [if_neg e] at h
      cases g : bsF rs m n with
      | none => rw [g, oel_n] at h; cases h
      | some b =>
        rw [g, oel_s] at h
        split at h <;> cases h
theorem bsF_s {rs : Nat → Nat} {m : Nat → Bool} : ∀ n b, bsF rs m n = some b → isB n rs m b
  | 0, b, h => by cases h
  | n + 1, b, h => by
    unfold bsF at h
    by_cases e : m n = true
    · rw [if_pos e] at h
      obtain ⟨a1, a2, a3, a4⟩ := bsF_s n b h
      refine ⟨by omega, a2, fun i hi hm => ?_, a4⟩
      by_cases e2 : i = n
      · rw [e2, e] at hm; cases hm
      · exact a3 i (by omega) hm
    · have ef : m n = false := by simpa using e
      rw [if_neg e] at h
      cases g : bsF rs m n with
      | none =>
        rw [g, oel_n] at h
        cases h
        have hn := bsF_n n g
        refine ⟨Nat.lt_succ_self n, ef, fun i hi hm => ?_, fun i hi hm => ?_⟩
        · by_cases e2 : i = n
          · rw [e2]; exact Nat.le_refl _
          · rw [hn i (by omega)] at hm; cases hm
        · rw [hn i hi] at hm; cases hm
      | some c =>
        obtain ⟨a1, a2, a3, a4⟩ := bsF_s n c g
        rw [g, oel_s] at h
        by_cases e2 : rs c < rs n
        · rw [if_pos e2] at h
          cases h
          refine ⟨Nat.lt_succ_self n, ef, fun i hi hm => ?_, fun i hi hm => ?_⟩
          · by_cases e3 : i = n
            · rw [e3]; exact Nat.le_refl _
            · have := a3 i (by omega) hm; omega
          · have := a3 i hi hm; omega
        · rw [if_neg e2] at h
          cases h
          refine ⟨by omega, a2, fun i hi hm => ?_, a4⟩
          by_cases e3 : i = n
          · rw [e3]; omega
          · exact a3 i (by omega) hm
theorem bsF_eq {n : Nat} {rs : Nat → Nat} {m : Nat → Bool} {b : Nat} (h : isB n rs m b) : bsF rs m n = some b := by
  cases g : bsF rs m n with
  | none => exact absurd (bsF_n n g b h.1) (by rw [h.2.1]; decide)
  | some c => rw [isB_u (bsF_s n c g) h]
/-- the marks after so many -/
def mkM (n : Nat) (rs : Nat → Nat) : Nat → Nat → Bool
  | 0, _ => false
  | j + 1, i => mkM n rs j i || decide (bsF rs (mkM n rs j) n = some i)
/-- what each gets -/
def prN (n W : Nat) (q : Nat → Nat) (i : Nat) : Nat := W * q i / sN q n + (if mkM n (fun i => W * q i % sN q n) (W - sN (fun i => W * q i / sN q n) n) i then 1 else 0)
theorem mk_cnt {n : Nat} {rs : Nat → Nat} : ∀ j, sN (fun i => if mkM n rs j i then 1 else 0) n ≤ j
  | 0 => by
    have : ∀ k, sN (fun i => if mkM n rs 0 i then 1 else 0) k = 0 := by
      intro k
      induction k with
      | zero => rfl
      | succ k ih =>
        unfold sN
        rw [ih]
        rfl
    rw [this]; exact Nat.le_refl _
  | j + 1 => by
    have ih := mk_cnt (n := n) (rs := rs) j
    have h1 : ∀ b k, sN (fun i => if mkM n rs j i || decide (b = some i) then 1 else 0) k ≤ sN (fun i => if mkM n rs j i then 1 else 0) k + oel b 0 (fun c => if c < k then 1 else 0) := by
      intro b k
      induction k with
      | zero => exact Nat.zero_le _
      | succ k ih2 =>
        unfold sN
        cases b with
        | none =>
          have e : decide ((none : Option Nat) = some k) = false := rfl
          rw [e, Bool.or_false]
          have ih3 : sN (fun i => if mkM n rs j i || decide ((none : Option Nat) = some i) then 1 else 0) k ≤ sN (fun i => if mkM n rs j i then 1 else 0) k + 0 := ih2
          show _ ≤ _ + 0
          omega
        | some c =>
          have ih3 : sN (fun i => if mkM n rs j i || decide (some c = some i) then 1 else 0) k ≤ sN (fun i => if mkM n rs j i then 1 else 0) k + (if c < k then 1 else 0) := ih2
          show _ ≤ _ + (if c < k + 1 then 1 else 0)
          by_cases e : c = k
          · subst e
            rw [if_neg (Nat.lt_irrefl c)] at ih3
            rw [if_pos (show c < c + 1 from Nat.lt_succ_self c)]
            have : (if (mkM n rs j c || decide (some c = some c)) = true then 1 else 0) ≤ 1 := by split <;> omega
            omega
          · have e2 : decide (some c = some k) = false := decide_eq_false (fun q => e (Option.some.inj q))
            rw [e2, Bool.or_false]
            by_cases e3 : c < k
            · rw [if_pos e3] at ih3
              rw [if_pos (show c < k + 1 by omega)]
              omega
            · rw [if_neg e3] at ih3
              rw [if_neg (show ¬ c < k + 1 by omega)]
              omega
    have h2 := h1 (bsF rs (mkM n rs j) n) n
    have h3 : oel (bsF rs (mkM n rs j) n) 0 (fun c => if c < n then 1 else 0) ≤ 1 := by
      cases bsF rs (mkM n rs j) n with
      | none => exact Nat.zero_le _
      | some c =>
        show (if c < n then 1 else 0) ≤ 1
        split <;> omega
    show sN (fun i => if mkM n rs j i || decide (bsF rs (mkM n rs j) n = some i) then 1 else 0) n ≤ j + 1
    omega
/-- as long as something is left, one with a rest is left -/
theorem mk_ex {n W : Nat} {q : Nat → Nat} (hS : 0 < sN q n) {j : Nat} (hj : j < W - sN (fun i => W * q i / sN q n) n) : ∃ i, i < n ∧ mkM n (fun i => W * q i % sN q n) j i = false ∧ 0 < W * q i % sN q n := by
  obtain ⟨S, hSd⟩ : ∃ S, S = sN q n := ⟨_, rfl⟩
  rw [← hSd] at hS hj ⊢
  by_cases h : ∃ i, i < n ∧ mkM n (fun i => W * q i % S) j i = false ∧ 0 < W * q i % S
  · exact h
  have hno : ∀ i, i < n → mkM n (fun i => W * q i % S) j i = false → W * q i % S = 0 := fun i hi hm => by
    by_cases e : W * q i % S = 0
    · exact e
    · exact absurd ⟨i, hi, hm, by omega⟩ h
  have h1 : sN (fun i => W * q i % S) n ≤ sN (fun i => S * (if mkM n (fun i => W * q i % S) j i then 1 else 0)) n := sN_le n (fun i hi => by
    show W * q i % S ≤ S * (if mkM n (fun i => W * q i % S) j i then 1 else 0)
    cases e : mkM n (fun i => W * q i % S) j i with
    | true => rw [if_pos rfl, Nat.mul_one]; exact Nat.le_of_lt (Nat.mod_lt _ hS)
    | false => rw [hno i hi e]; exact Nat.zero_le _)
  rw [sN_mul] at h1
  have h2 := mk_cnt (n := n) (rs := fun i => W * q i % S) j
  have h3 : sN (fun i => W * q i) n = S * sN (fun i => W * q i / S) n + sN (fun i => W * q i % S) n := by
    rw [← sN_mul, ← sN_add]
    exact sN_cong n (fun i _ => (Nat.div_add_mod (W * q i) S).symm)
  rw [sN_mul, ← hSd] at h3
  have h4 : S * sN (fun i => if mkM n (fun i => W * q i % S) j i then 1 else 0) n ≤ S * j := Nat.mul_le_mul_left S h2
  have h5 : W * S ≤ S * (sN (fun i => W * q i / S) n + j) := by rw [Nat.mul_add]; omega
  rw [Nat.mul_comm W S] at h5
  have h6 := Nat.le_of_mul_le_mul_left h5 hS
  omega
theorem base_le {n W : Nat} {q : Nat → Nat} (hS : 0 < sN q n) : sN (fun i => W * q i / sN q n) n ≤ W := by
  obtain ⟨S, hSd⟩ : ∃ S, S = sN q n := ⟨_, rfl⟩
  rw [← hSd] at hS ⊢
  have h3 : sN (fun i => W * q i) n = S * sN (fun i => W * q i / S) n + sN (fun i => W * q i % S) n := by
    rw [← sN_mul, ← sN_add]
    exact sN_cong n (fun i _ => (Nat.div_add_mod (W * q i) S).symm)
  rw [sN_mul, ← hSd, Nat.mul_comm W S] at h3
  exact Nat.le_of_mul_le_mul_left (show S * sN (fun i => W * q i / S) n ≤ S * W by omega) hS
theorem left_lt {n W : Nat} {q : Nat → Nat} (hS : 0 < sN q n) : W - sN (fun i => W * q i / sN q n) n ≤ n := by
  by_cases h : W - sN (fun i => W * q i / sN q n) n ≤ n
  · exact h
  obtain ⟨S, hSd⟩ : ∃ S, S = sN q n := ⟨_, rfl⟩
  rw [← hSd] at hS h ⊢
  have h3 : sN (fun i => W * q i) n = S * sN (fun i => W * q i / S) n + sN (fun i => W * q i % S) n := by
    rw [← sN_mul, ← sN_add]
    exact sN_cong n (fun i _ => (Nat.div_add_mod (W * q i) S).symm)
  have h4 : sN (fun i => W * q i % S) n ≤ S * n := sN_bd n (fun i _ => Nat.le_of_lt (Nat.mod_lt _ hS))
  rw [sN_mul, ← hSd, Nat.mul_comm W S] at h3
  have h5 : S * W ≤ S * (sN (fun i => W * q i / S) n + n) := by rw [Nat.mul_add]; omega
  have h6 := Nat.le_of_mul_le_mul_left h5 hS
  omega
