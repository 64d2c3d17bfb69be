/-! PART 33: words for the functions: numbers, reads behind writes, frames, loops. -/
def nt (n : Nat) : Int32 := Int32.ofNat n
theorem nt_lt {a b : Nat} (ha : a < 2147483648) (hb : b < 2147483648) : nt a < nt b ↔ a < b := Int32.ofNat_lt_iff_lt ha hb
theorem nt_le {a b : Nat} (ha : a < 2147483648) (hb : b < 2147483648) : nt a ≤ nt b ↔ a ≤ b := Int32.ofNat_le_iff_le ha hb
theorem nt_cl {a : Nat} (ha : a < 2147483648) : (nt a).toNatClampNeg = a := Int32.toNatClampNeg_ofNat_of_lt ha
theorem nt_inj {a b : Nat} (ha : a < 2147483648) (hb : b < 2147483648) : nt a = nt b ↔ a = b := ⟨fun h => by
  have := congrArg Int32.toNatClampNeg h
  rwa [nt_cl ha, nt_cl hb] at this, fun h => by rw [h]⟩
theorem nt_nn {a : Nat} (ha : a < 2147483648) : (0 : Int32) ≤ nt a := Int32.zero_le_ofNat_of_lt ha
theorem nt_neg {a : Nat} (ha : a < 2147483648) : ¬ nt a < 0 := Int32.not_lt.mpr (nt_nn ha)
theorem nt_add (a b : Nat) : nt a + nt b = nt (a + b) := (Int32.ofNat_add a b).symm
theorem nt_succ (a : Nat) : nt a + 1 = nt (a + 1) := nt_add a 1
theorem nt_sub {a b : Nat} (h : b ≤ a) : nt a - nt b = nt (a - b) := (Int32.ofNat_sub a b h).symm
theorem nt_pred (a : Nat) : nt (a + 1) - 1 = nt a := nt_sub (b := 1) (Nat.le_add_left 1 a)
theorem nt_predm (a : Nat) : nt (a + 1) + (-1) = nt a := by rw [← Int32.sub_eq_add_neg]; exact nt_pred a
theorem nt_mul (a b : Nat) : nt a * nt b = nt (a * b) := (Int32.ofNat_mul a b).symm
theorem nt_lit (n : Nat) : (OfNat.ofNat n : Int32) = nt n := rfl
theorem nt_of {x : Int32} (h : 0 ≤ x) : x = nt x.toNatClampNeg := (Int32.ofNat_toNatClampNeg x h).symm
theorem nt_int {a : Nat} (ha : a < 2147483648) : (nt a).toInt = a := Int32.toInt_ofNat_of_lt ha
theorem ni_le {x y : Int32} : x ≤ y ↔ x.toInt ≤ y.toInt := Int32.le_iff_toInt_le
theorem ni_lt {x y : Int32} : x < y ↔ x.toInt < y.toInt := Int32.lt_iff_toInt_lt
theorem ni_eq {x y : Int32} : x = y ↔ x.toInt = y.toInt := Int32.toInt_inj.symm
theorem ni_bd (x : Int32) : -2147483648 ≤ x.toInt ∧ x.toInt < 2147483648 := ⟨Int32.le_toInt x, Int32.toInt_lt x⟩
theorem bm_id {a : Int} (h1 : -2147483648 ≤ a) (h2 : a < 2147483648) : a.bmod (2 ^ 32) = a := by
  unfold Int.bmod
  have h3 : ((2 ^ 32 : Nat) : Int) = 4294967296 := by decide
  rw [h3]
  by_cases h : 0 ≤ a
  · rw [Int.emod_eq_of_lt h (by omega), if_pos (by omega)]
  · have h4 : a % 4294967296 = a + 4294967296 := by omega
    rw [h4, if_neg (by omega)]
    omega
theorem ni_add {x y : Int32} (h1 : -2147483648 ≤ x.toInt + y.toInt) (h2 : x.toInt + y.toInt < 2147483648) : (x + y).toInt = x.toInt + y.toInt := by rw [Int32.toInt_add]; exact bm_id h1 h2
theorem ni_sub {x y : Int32} (h1 : -2147483648 ≤ x.toInt - y.toInt) (h2 : x.toInt - y.toInt < 2147483648) : (x - y).toInt = x.toInt - y.toInt := by rw [Int32.toInt_sub]; exact bm_id h1 h2
theorem ni_lit {n : Nat} (h : n < 2147483648) : (OfNat.ofNat n : Int32).toInt = n := Int32.toInt_ofNat_of_lt h
/-- places -/
def ix (n : Nat) (x : Int32) : Option Nat := if 0 ≤ x ∧ x.toNatClampNeg < n then some x.toNatClampNeg else none
theorem ix_nt {n i : Nat} (hi : i < n) (hn : n < 2147483648) : ix n (nt i) = some i := by
  unfold ix
  rw [nt_cl (by omega), if_pos ⟨nt_nn (by omega), hi⟩]
theorem ix_some {n i : Nat} {x : Int32} (h : ix n x = some i) : i < n ∧ x = nt i := by
  unfold ix at h
  by_cases e : 0 ≤ x ∧ x.toNatClampNeg < n
  · rw [if_pos e] at h
    cases h
    exact ⟨e.2, nt_of e.1⟩
  · rw [if_neg e] at h; cases h
theorem ix_no {n : Nat} {x : Int32} (h : ix n x = none) : ¬ (0 ≤ x ∧ x.toNatClampNeg < n) := fun e => by
  unfold ix at h
  rw [if_pos e] at h; cases h
theorem ix_iff {n : Nat} {x : Int32} (hn : n < 2147483648) : (0 ≤ x ∧ x ≤ nt n - 1) ↔ (0 ≤ x ∧ x.toNatClampNeg < n) := by
  constructor
  · rintro ⟨h0, h1⟩
    refine ⟨h0, ?_⟩
    rw [nt_of h0] at h1
    cases n with
    | zero =>
      have : nt 0 - 1 = -1 := by decide
      rw [this] at h1
      have h2 := Int32.not_le.mpr (show (-1 : Int32) < 0 by decide)
      exact absurd (Int32.le_trans (nt_nn (Int32.toNatClampNeg_lt x)) h1) h2
    | succ n =>
      rw [nt_pred, nt_le (Int32.toNatClampNeg_lt x) (by omega)] at h1
      omega
  · rintro ⟨h0, h1⟩
    refine ⟨h0, ?_⟩
    rw [nt_of h0]
    cases n with
    | zero => omega
    | succ n =>
      rw [nt_pred, nt_le (Int32.toNatClampNeg_lt x) (by omega)]
      omega
def b1 (b : Bool) : Int32 := if b then 1 else 0
theorem b1_0 {b : Bool} : (b1 b = 0) = (b = false) := by cases b <;> simp [b1]
theorem b1_t : b1 true = 1 := rfl
theorem b1_f : b1 false = 0 := rfl
theorem b1_or (b : Bool) : b1 b = 0 ∨ b1 b = 1 := by cases b <;> simp [b1]
theorem gb_b1 {α : Type} (b : Bool) (k : Option α) : gb (b1 b) k = k := by unfold gb; rw [if_pos (b1_or b)]
theorem gb_0 {α : Type} (k : Option α) : gb 0 k = k := rfl
theorem gb_1 {α : Type} (k : Option α) : gb 1 k = k := rfl
theorem nxt_e {α β : Type} (v : α) (k : α → Option β) : nxt v k = k v := rfl
theorem oc_s {α : Type} (i : Nat) (a : Option α) (b : Nat → Option α) : oc (some i) a b = b i := rfl
theorem oc_n {α : Type} (a : Option α) (b : Nat → Option α) : oc none a b = a := rfl
theorem ob_s {α β : Type} (a : α) (k : α → Option β) : Option.bind (some a) k = k a := rfl
theorem ob2_s {α β : Type} (a : α) (t : TS) (k : α → TS → Option β) : ob2 (some (a, t)) k = k a t := rfl
theorem gd_nt {α : Type} {i n : Nat} (k : Option α) (hi : i < n) (hn : i < 2147483648) : gd (nt i) n k = k := by
  unfold gd
  rw [nt_cl hn, if_neg (fun g => by
    rcases g with g | g
    · exact nt_neg hn g
    · omega)]
theorem gd_ok {α : Type} {x : Int32} {n : Nat} (k : Option α) (h0 : 0 ≤ x) (hi : x.toNatClampNeg < n) : gd x n k = k := by
  unfold gd
  rw [if_neg (fun g => by
    rcases g with g | g
    · exact Int32.not_lt.mpr h0 g
    · omega)]
theorem gE_f {α : Type} {e : Bool} (k : Option α) (h : e = false) : gE e k = k := by rw [h]; rfl
theorem gz_ok {α : Type} {y : Int32} (k : Option α) (h : ¬ y = 0) : gz y k = k := if_neg h
theorem gzJ_ok {α : Type} {y : Int64} (k : Option α) (h : ¬ y = 0) : gzJ y k = k := if_neg h
theorem gn_nt {α : Type} {n cap : Nat} (k : Option α) (h : n ≤ cap) (hn : n < 2147483648) : gn (nt n) cap k = k := by
  unfold gn
  rw [nt_cl hn, if_neg (fun g => by
    rcases g with g | g
    · exact nt_neg hn g
    · omega)]
theorem win_eq (t : TS) (v a b : Int32) : F_X12_within t v a b = some (b1 (decide (a ≤ v ∧ v ≤ b))) := by
  unfold F_X12_within
  by_cases h1 : v < a
  · rw [if_pos h1, decide_eq_false (fun g => Int32.not_lt.mpr g.1 h1)]; rfl
  · by_cases h2 : b < v
    · rw [if_neg h1, if_pos h2, decide_eq_false (fun g => Int32.not_lt.mpr g.2 h2)]; rfl
    · rw [if_neg h1, if_neg h2, decide_eq_true (And.intro (Int32.not_lt.mp h1) (Int32.not_lt.mp h2))]; rfl
theorem in_eq (t : TS) (v a b : Int32) : F_X13_in t v a b = some (b1 (decide (a ≤ v ∧ v ≤ b))) := by
  unfold F_X13_in
  by_cases h1 : v < a
  · rw [if_pos h1, decide_eq_false (fun g => Int32.not_lt.mpr g.1 h1)]; rfl
  · by_cases h2 : b < v
    · rw [if_neg h1, if_pos h2, decide_eq_false (fun g => Int32.not_lt.mpr g.2 h2)]; rfl
    · rw [if_neg h1, if_neg h2, decide_eq_true (And.intro (Int32.not_lt.mp h1) (Int32.not_lt.mp h2))]; rfl
theorem bit_eq (t : TS) (b : Bool) : F_X12_bit t (b1 b) = some (b1 b) := by cases b <;> rfl
/-! reads behind writes, by key -/
theorem m1_s {α : Type} {f : Nat → α} {a : Nat} {v : α} : mm_u1 f a v a = v := if_pos rfl
theorem m1_n {α : Type} {f : Nat → α} {a b : Nat} {v : α} (h : ¬ b = a) : mm_u1 f a v b = f b := if_neg h
section
variable {t : TS} {f f' i j : Nat}
theorem I_uI {v : Int32} : tI (uI t f i v) f = mm_u1 (tI t f) i v := by funext y; show mm_u2 (tI t) f i v f y = _; simp [mm_u2, mm_u1]
theorem I_uI_n {v : Int32} (h : ¬ f' = f) : tI (uI t f i v) f' = tI t f' := by funext y; show mm_u2 (tI t) f i v f' y = _; simp [mm_u2, h]
theorem R_uR {v : Option Nat} : tR (uR t f i v) f = mm_u1 (tR t f) i v := by funext y; show mm_u2 (tR t) f i v f y = _; simp [mm_u2, mm_u1]
theorem R_uR_n {v : Option Nat} (h : ¬ f' = f) : tR (uR t f i v) f' = tR t f' := by funext y; show mm_u2 (tR t) f i v f' y = _; simp [mm_u2, h]
theorem A_uA {v : Int32} : tA (uA t f i j v) f = mm_u1 (tA t f) i (mm_u1 (tA t f i) j v) := by
  funext y w; show mm_u3 (tA t) f i j v f y w = _; unfold mm_u3 mm_u1; by_cases h : y = i <;> simp [h]
theorem A_uA_n {v : Int32} (h : ¬ f' = f) : tA (uA t f i j v) f' = tA t f' := by funext y w; show mm_u3 (tA t) f i j v f' y w = _; simp [mm_u3, h]
theorem J_uJ {v : Int64} : tJ (uJ t f i j v) f = mm_u1 (tJ t f) i (mm_u1 (tJ t f i) j v) := by
  funext y w; show mm_u3 (tJ t) f i j v f y w = _; unfold mm_u3 mm_u1; by_cases h : y = i <;> simp [h]
theorem J_uJ_n {v : Int64} (h : ¬ f' = f) : tJ (uJ t f i j v) f' = tJ t f' := by funext y w; show mm_u3 (tJ t) f i j v f' y w = _; simp [mm_u3, h]
theorem Q_uQ {v : Option Nat} : tQ (uQ t f i j v) f = mm_u1 (tQ t f) i (mm_u1 (tQ t f i) j v) := by
  funext y w; show mm_u3 (tQ t) f i j v f y w = _; unfold mm_u3 mm_u1; by_cases h : y = i <;> simp [h]
theorem Q_uQ_n {v : Option Nat} (h : ¬ f' = f) : tQ (uQ t f i j v) f' = tQ t f' := by funext y w; show mm_u3 (tQ t) f i j v f' y w = _; simp [mm_u3, h]
theorem E_uO : tE (uO t f i) f = mm_u1 (tE t f) i true := by funext y; show mm_u2 (tE t) f i true f y = _; simp [mm_u2, mm_u1]
theorem E_uO_n (h : ¬ f' = f) : tE (uO t f i) f' = tE t f' := by funext y; show mm_u2 (tE t) f i true f' y = _; simp [mm_u2, h]
theorem I_uO (h : f' / 100 = f) : tI (uO t f i) f' = mm_u1 (tI t f') i 0 := by funext y; show (if f' / 100 = f ∧ y = i then (0 : Int32) else tI t f' y) = _; unfold mm_u1; simp [h]
theorem I_uO_n (h : ¬ f' / 100 = f) : tI (uO t f i) f' = tI t f' := by funext y; show (if f' / 100 = f ∧ y = i then (0 : Int32) else tI t f' y) = _; simp [h]
theorem R_uO (h : f' / 100 = f) : tR (uO t f i) f' = mm_u1 (tR t f') i none := by funext y; show (if f' / 100 = f ∧ y = i then none else tR t f' y) = _; unfold mm_u1; simp [h]
theorem R_uO_n (h : ¬ f' / 100 = f) : tR (uO t f i) f' = tR t f' := by funext y; show (if f' / 100 = f ∧ y = i then none else tR t f' y) = _; simp [h]
theorem E_uN {n : Nat} : tE (uN t f i n) f = mm_u1 (tE t f) i true := by funext y; show mm_u2 (tE t) f i true f y = _; simp [mm_u2, mm_u1]
theorem E_uN_n {n : Nat} (h : ¬ f' = f) : tE (uN t f i n) f' = tE t f' := by funext y; show mm_u2 (tE t) f i true f' y = _; simp [mm_u2, h]
theorem L_uN {n : Nat} : tL (uN t f i n) f = mm_u1 (tL t f) i n := by funext y; show mm_u2 (tL t) f i n f y = _; simp [mm_u2, mm_u1]
theorem L_uN_n {n : Nat} (h : ¬ f' = f) : tL (uN t f i n) f' = tL t f' := by funext y; show mm_u2 (tL t) f i n f' y = _; simp [mm_u2, h]
theorem A_uN {n : Nat} : tA (uN t f i n) f = mm_u1 (tA t f) i (fun _ => 0) := by funext y w; show (if f = f ∧ y = i then (0 : Int32) else tA t f y w) = _; unfold mm_u1; by_cases h : y = i <;> simp [h]
theorem A_uN_n {n : Nat} (h : ¬ f' = f) : tA (uN t f i n) f' = tA t f' := by funext y w; show (if f' = f ∧ y = i then (0 : Int32) else tA t f' y w) = _; simp [h]
theorem J_uN {n : Nat} : tJ (uN t f i n) f = mm_u1 (tJ t f) i (fun _ => 0) := by funext y w; show (if f = f ∧ y = i then (0 : Int64) else tJ t f y w) = _; unfold mm_u1; by_cases h : y = i <;> simp [h]
theorem J_uN_n {n : Nat} (h : ¬ f' = f) : tJ (uN t f i n) f' = tJ t f' := by funext y w; show (if f' = f ∧ y = i then (0 : Int64) else tJ t f' y w) = _; simp [h]
theorem Q_uN {n : Nat} : tQ (uN t f i n) f = mm_u1 (tQ t f) i (fun _ => none) := by funext y w; show (if f = f ∧ y = i then none else tQ t f y w) = _; unfold mm_u1; by_cases h : y = i <;> simp [h]
theorem Q_uN_n {n : Nat} (h : ¬ f' = f) : tQ (uN t f i n) f' = tQ t f' := by funext y w; show (if f' = f ∧ y = i then none else tQ t f' y w) = _; simp [h]
theorem A_uCA {k i2 si di n : Nat} : tA (uCA t f i si k i2 di n) k = mm_u1 (tA t k) i2 (va_cpy (tA t f i) (tA t k i2) si di n) := by funext y w; show (if k = k ∧ y = i2 then va_cpy (tA t f i) (tA t k i2) si di n else tA t k y) w = _; unfold mm_u1; by_cases h : y = i2 <;> simp [h]
theorem A_uCA_n {k i2 si di n : Nat} (h : ¬ f' = k) : tA (uCA t f i si k i2 di n) f' = tA t f' := by funext y w; show (if f' = k ∧ y = i2 then va_cpy (tA t f i) (tA t k i2) si di n else tA t f' y) w = _; simp [h]
theorem J_uCJ {k i2 si di n : Nat} : tJ (uCJ t f i si k i2 di n) k = mm_u1 (tJ t k) i2 (va_cpy (tJ t f i) (tJ t k i2) si di n) := by funext y w; show (if k = k ∧ y = i2 then va_cpy (tJ t f i) (tJ t k i2) si di n else tJ t k y) w = _; unfold mm_u1; by_cases h : y = i2 <;> simp [h]
theorem J_uCJ_n {k i2 si di n : Nat} (h : ¬ f' = k) : tJ (uCJ t f i si k i2 di n) f' = tJ t f' := by funext y w; show (if f' = k ∧ y = i2 then va_cpy (tJ t f i) (tJ t k i2) si di n else tJ t f' y) w = _; simp [h]
theorem E_uI {v : Int32} : tE (uI t f i v) = tE t := rfl
theorem R_uI {v : Int32} : tR (uI t f i v) = tR t := rfl
theorem L_uI {v : Int32} : tL (uI t f i v) = tL t := rfl
theorem A_uI {v : Int32} : tA (uI t f i v) = tA t := rfl
theorem J_uI {v : Int32} : tJ (uI t f i v) = tJ t := rfl
theorem Q_uI {v : Int32} : tQ (uI t f i v) = tQ t := rfl
theorem E_uR {v : Option Nat} : tE (uR t f i v) = tE t := rfl
theorem I_uR {v : Option Nat} : tI (uR t f i v) = tI t := rfl
theorem L_uR {v : Option Nat} : tL (uR t f i v) = tL t := rfl
theorem A_uR {v : Option Nat} : tA (uR t f i v) = tA t := rfl
theorem J_uR {v : Option Nat} : tJ (uR t f i v) = tJ t := rfl
theorem Q_uR {v : Option Nat} : tQ (uR t f i v) = tQ t := rfl
theorem E_uA {v : Int32} : tE (uA t f i j v) = tE t := rfl
theorem I_uA {v : Int32} : tI (uA t f i j v) = tI t := rfl
theorem R_uA {v : Int32} : tR (uA t f i j v) = tR t := rfl
theorem L_uA {v : Int32} : tL (uA t f i j v) = tL t := rfl
theorem J_uA {v : Int32} : tJ (uA t f i j v) = tJ t := rfl
theorem Q_uA {v : Int32} : tQ (uA t f i j v) = tQ t := rfl
theorem E_uJ {v : Int64} : tE (uJ t f i j v) = tE t := rfl
theorem I_uJ {v : Int64} : tI (uJ t f i j v) = tI t := rfl
theorem R_uJ {v : Int64} : tR (uJ t f i j v) = tR t := rfl
theorem L_uJ {v : Int64} : tL (uJ t f i j v) = tL t := rfl
theorem A_uJ {v : Int64} : tA (uJ t f i j v) = tA t := rfl
theorem Q_uJ {v : Int64} : tQ (uJ t f i j v) = tQ t := rfl
theorem E_uQ {v : Option Nat} : tE (uQ t f i j v) = tE t := rfl
theorem I_uQ {v : Option Nat} : tI (uQ t f i j v) = tI t := rfl
theorem R_uQ {v : Option Nat} : tR (uQ t f i j v) = tR t := rfl
theorem L_uQ {v : Option Nat} : tL (uQ t f i j v) = tL t := rfl
theorem A_uQ {v : Option Nat} : tA (uQ t f i j v) = tA t := rfl
theorem J_uQ {v : Option Nat} : tJ (uQ t f i j v) = tJ t := rfl
theorem L_uO  : tL (uO t f i) = tL t := rfl
theorem A_uO  : tA (uO t f i) = tA t := rfl
theorem J_uO  : tJ (uO t f i) = tJ t := rfl
theorem Q_uO  : tQ (uO t f i) = tQ t := rfl
theorem I_uN {n : Nat} : tI (uN t f i n) = tI t := rfl
theorem R_uN {n : Nat} : tR (uN t f i n) = tR t := rfl
theorem E_uCA {k i2 si di n : Nat} : tE (uCA t f i si k i2 di n) = tE t := rfl
theorem I_uCA {k i2 si di n : Nat} : tI (uCA t f i si k i2 di n) = tI t := rfl
theorem R_uCA {k i2 si di n : Nat} : tR (uCA t f i si k i2 di n) = tR t := rfl
theorem L_uCA {k i2 si di n : Nat} : tL (uCA t f i si k i2 di n) = tL t := rfl
theorem J_uCA {k i2 si di n : Nat} : tJ (uCA t f i si k i2 di n) = tJ t := rfl
theorem Q_uCA {k i2 si di n : Nat} : tQ (uCA t f i si k i2 di n) = tQ t := rfl
theorem E_uCJ {k i2 si di n : Nat} : tE (uCJ t f i si k i2 di n) = tE t := rfl
theorem I_uCJ {k i2 si di n : Nat} : tI (uCJ t f i si k i2 di n) = tI t := rfl
theorem R_uCJ {k i2 si di n : Nat} : tR (uCJ t f i si k i2 di n) = tR t := rfl
theorem L_uCJ {k i2 si di n : Nat} : tL (uCJ t f i si k i2 di n) = tL t := rfl
theorem A_uCJ {k i2 si di n : Nat} : tA (uCJ t f i si k i2 di n) = tA t := rfl
theorem Q_uCJ {k i2 si di n : Nat} : tQ (uCJ t f i si k i2 di n) = tQ t := rfl
end
/-! frames -/
/-- lengths of the arrays that never change -/
def ln (k : Nat) : Nat := match k with
  | 2000 => 24
  | 2200 => 10
  | 2201 => 10
  | 2202 => 10
  | 2203 => 10
  | 2300 => 12
  | 2301 => 12
  | 2303 => 12
  | 2305 => 12
  | 2400 => 6
  | 2401 => 6
  | 2402 => 6
  | 2403 => 6
  | 2404 => 6
  | 2700 => 160
  | 2702 => 12
  | 2800 => 8
  | 2802 => 8
  | 2804 => 256
  | 3202 => 4
  | 3203 => 150
  | 3206 => 200
  | 3208 => 9
  | 3209 => 150
  | 3210 => 4
  | 3211 => 16
  | 3219 => 6
  | 3303 => 4
  | 3304 => 24
  | 3305 => 24
  | 3306 => 4
  | 3308 => 150
  | 3309 => 150
  | 3310 => 150
  | 3311 => 1500
  | 3312 => 150
  | 3313 => 150
  | 3314 => 150
  | 3315 => 150
  | 3317 => 600
  | 3318 => 600
  | 3319 => 600
  | 3320 => 600
  | 3321 => 600
  | 3322 => 600
  | 3323 => 600
  | 3324 => 600
  | 3325 => 150
  | 3326 => 600
  | 3328 => 200
  | 3329 => 200
  | 3330 => 200
  | 3331 => 200
  | 3332 => 200
  | 3333 => 200
  | 3334 => 200
  | 3335 => 200
  | 3336 => 200
  | 3337 => 200
  | 3338 => 200
  | 3339 => 200
  | 3340 => 200
  | 3341 => 200
  | 3342 => 200
  | 3343 => 200
  | 3344 => 200
  | 3345 => 200
  | 3346 => 200
  | 3347 => 30000
  | 3348 => 22500
  | 3349 => 9
  | 3353 => 160
  | 3356 => 16
  | 3357 => 16
  | 3358 => 16
  | 3359 => 17
  | 3360 => 1530
  | 3361 => 3400
  | 3362 => 3400
  | 3368 => 12
  | 3369 => 200
  | 3371 => 6
  | 3372 => 6
  | 3373 => 6
  | 3374 => 6
  | 3376 => 8
  | 3377 => 8
  | 3378 => 8
  | 3382 => 10
  | 3383 => 10
  | 3384 => 10
  | 3385 => 10
  | 3387 => 12
  | 3388 => 12
  | 3389 => 12
  | 3392 => 24
  | 3393 => 6
  | 3394 => 6
  | 3395 => 360
  | 3396 => 60
  | _ => 0
def Ilen (t : TS) : Prop := ∀ k, Nat.blt 0 (ln k) = true → tL t k 0 = ln k
def frm (D : Nat → Bool) (t t' : TS) : Prop := (∀ k, D k = false → tE t' k = tE t k ∧ tI t' k = tI t k ∧ tR t' k = tR t k ∧ tL t' k = tL t k ∧ tA t' k = tA t k ∧ tJ t' k = tJ t k ∧ tQ t' k = tQ t k) ∧ ∀ k, Nat.blt 0 (ln k) = true → tL t' k 0 = tL t k 0
theorem Ilen_f {D : Nat → Bool} {t t' : TS} (h : frm D t t') (hI : Ilen t) : Ilen t' := fun k hk => (h.2 k hk).trans (hI k hk)
def ks (l : List Nat) : Nat → Bool := fun k => l.contains k
def ko (c : Nat) : Nat → Bool := fun k => k == c || k / 100 == c
def k2 (a b : Nat → Bool) : Nat → Bool := fun k => a k || b k
theorem frm_rf {D : Nat → Bool} {t : TS} : frm D t t := ⟨fun _ _ => ⟨rfl, rfl, rfl, rfl, rfl, rfl, rfl⟩, fun _ _ => rfl⟩
theorem frm_tr {D : Nat → Bool} {t t' t'' : TS} (h1 : frm D t t') (h2 : frm D t' t'') : frm D t t'' := ⟨fun k hk => by
  obtain ⟨a1, a2, a3, a4, a5, a6, a7⟩ := h1.1 k hk
  obtain ⟨b1, b2, b3, b4, b5, b6, b7⟩ := h2.1 k hk
  exact ⟨b1.trans a1, b2.trans a2, b3.trans a3, b4.trans a4, b5.trans a5, b6.trans a6, b7.trans a7⟩, fun k hk => (h2.2 k hk).trans (h1.2 k hk)⟩
theorem frm_sb {D D' : Nat → Bool} {t t' : TS} (h : frm D t t') (hs : ∀ k, D' k = false → D k = false) : frm D' t t' := ⟨fun k hk => h.1 k (hs k hk), h.2⟩
theorem kne {D : Nat → Bool} {k f : Nat} (hf : D f = true) (hk : D k = false) : ¬ k = f := fun e => by rw [e, hf] at hk; cases hk
theorem frm_uI {D : Nat → Bool} {t : TS} {f i : Nat} {v : Int32} (hf : D f = true) : frm D t (uI t f i v) := ⟨fun _ hk => ⟨rfl, I_uI_n (kne hf hk), rfl, rfl, rfl, rfl, rfl⟩, fun _ _ => rfl⟩
theorem frm_uR {D : Nat → Bool} {t : TS} {f i : Nat} {v : Option Nat} (hf : D f = true) : frm D t (uR t f i v) := ⟨fun _ hk => ⟨rfl, rfl, R_uR_n (kne hf hk), rfl, rfl, rfl, rfl⟩, fun _ _ => rfl⟩
theorem frm_uA {D : Nat → Bool} {t : TS} {f i j : Nat} {v : Int32} (hf : D f = true) : frm D t (uA t f i j v) := ⟨fun _ hk => ⟨rfl, rfl, rfl, rfl, A_uA_n (kne hf hk), rfl, rfl⟩, fun _ _ => rfl⟩
theorem frm_uJ {D : Nat → Bool} {t : TS} {f i j : Nat} {v : Int64} (hf : D f = true) : frm D t (uJ t f i j v) := ⟨fun _ hk => ⟨rfl, rfl, rfl, rfl, rfl, J_uJ_n (kne hf hk), rfl⟩, fun _ _ => rfl⟩
theorem frm_uQ {D : Nat → Bool} {t : TS} {f i j : Nat} {v : Option Nat} (hf : D f = true) : frm D t (uQ t f i j v) := ⟨fun _ hk => ⟨rfl, rfl, rfl, rfl, rfl, rfl, Q_uQ_n (kne hf hk)⟩, fun _ _ => rfl⟩
theorem frm_uN {D : Nat → Bool} {t : TS} {f i n : Nat} (hf : D f = true) (hi : Nat.blt 0 (ln f) = false ∨ ¬ 0 = i) : frm D t (uN t f i n) := ⟨fun _ hk => ⟨E_uN_n (kne hf hk), rfl, rfl, L_uN_n (kne hf hk), A_uN_n (kne hf hk), J_uN_n (kne hf hk), Q_uN_n (kne hf hk)⟩, fun k hk => by
  by_cases e : k = f
  · rcases hi with g | g
    · rw [e, g] at hk; cases hk
    · rw [e, L_uN, m1_n g]
  · rw [L_uN_n e]⟩
theorem frm_uCA {D : Nat → Bool} {t : TS} {f i k i2 si di n : Nat} (hf : D k = true) : frm D t (uCA t f i si k i2 di n) := ⟨fun _ hk => ⟨rfl, rfl, rfl, rfl, A_uCA_n (kne hf hk), rfl, rfl⟩, fun _ _ => rfl⟩
theorem frm_uCJ {D : Nat → Bool} {t : TS} {f i k i2 si di n : Nat} (hf : D k = true) : frm D t (uCJ t f i si k i2 di n) := ⟨fun _ hk => ⟨rfl, rfl, rfl, rfl, rfl, J_uCJ_n (kne hf hk), rfl⟩, fun _ _ => rfl⟩
theorem frm_uO {D : Nat → Bool} {t : TS} {c i : Nat} (hf : ∀ k, D k = false → ko c k = false) : frm D t (uO t c i) := ⟨fun k hk => by
  have h := hf k hk
  unfold ko at h
  simp only [Bool.or_eq_false_iff, beq_eq_false_iff_ne, ne_eq] at h
  exact ⟨E_uO_n h.1, I_uO_n h.2, R_uO_n h.2, rfl, rfl, rfl, rfl⟩, fun _ _ => rfl⟩
/-! loops -/
def itr {α : Type} (f : Nat → α → α) : Nat → Nat → α → α
  | 0, _, a => a
  | m + 1, k, a => itr f m (k + 1) (f k a)
theorem itr_last {α : Type} {f : Nat → α → α} : ∀ (m k : Nat) (a : α), itr f (m + 1) k a = f (k + m) (itr f m k a)
  | 0, k, a => rfl
  | m + 1, k, a => by
    show itr f (m + 1) (k + 1) (f k a) = f (k + (m + 1)) (itr f m (k + 1) (f k a))
    rw [itr_last m (k + 1) (f k a), show k + 1 + m = k + (m + 1) by omega]
theorem itr_congr {α : Type} {f g : Nat → α → α} : ∀ (m k : Nat) (a : α), (∀ j, k ≤ j → j < k + m → ∀ a, f j a = g j a) → itr f m k a = itr g m k a
  | 0, _, _, _ => rfl
  | m + 1, k, a, h => by
    show itr f m (k + 1) (f k a) = itr g m (k + 1) (g k a)
    rw [h k (Nat.le_refl k) (by omega) a]
    exact itr_congr m (k + 1) _ (fun j h1 h2 => h j (by omega) (by omega))
theorem loop_up {α β : Type} {n : Nat} {B : Nat → α → Int32 → Option β} {f : Nat → α → α} {R : α → Option β} {P : Nat → α → Prop} (hend : ∀ fu a, P n a → B (fu + 1) a (nt n) = R a) (hstep : ∀ fu a k, k < n → P k a → B (fu + 1) a (nt k) = B fu (f k a) (nt (k + 1)) ∧ P (k + 1) (f k a)) : ∀ m k a fu, k + m = n → m < fu → P k a → B fu a (nt k) = R (itr f m k a) ∧ P n (itr f m k a)
  | 0, k, a, fu, h1, h2, h3 => by
    obtain ⟨fu, rfl⟩ : ∃ q, fu = q + 1 := ⟨fu - 1, by omega⟩
    have : k = n := by omega
    subst this
    exact ⟨hend fu a h3, h3⟩
  | m + 1, k, a, fu, h1, h2, h3 => by
    obtain ⟨fu, rfl⟩ : ∃ q, fu = q + 1 := ⟨fu - 1, by omega⟩
    obtain ⟨g1, g2⟩ := hstep fu a k (by omega) h3
    rw [g1]
    exact loop_up hend hstep m (k + 1) (f k a) fu (by omega) (by omega) g2
theorem loop_u {α β : Type} {n : Nat} {B : Nat → α → Int32 → Option β} {f : Nat → α → α} {R : α → Option β} (hend : ∀ fu a, B (fu + 1) a (nt n) = R a) (hstep : ∀ fu a k, k < n → B (fu + 1) a (nt k) = B fu (f k a) (nt (k + 1))) (a : α) (fu : Nat) (hf : n < fu) : B fu a 0 = R (itr f n 0 a) := (loop_up (P := fun _ _ => True) (fun fu a _ => hend fu a) (fun fu a k hk _ => ⟨hstep fu a k hk, trivial⟩) n 0 a fu (by omega) hf trivial).1
/-- with a way out -/
def itx {α β : Type} (f : Nat → α → β ⊕ α) (R : α → β) : Nat → Nat → α → β
  | 0, _, a => R a
  | m + 1, k, a => match f k a with
    | .inl r => r
    | .inr a' => itx f R m (k + 1) a'
theorem loop_x {α β : Type} {n : Nat} {B : Nat → α → Int32 → β} {f : Nat → α → β ⊕ α} {R : α → β} {P : Nat → α → Prop} (hend : ∀ fu a, P n a → B (fu + 1) a (nt n) = R a) (hstep : ∀ fu a k, k < n → P k a → (∃ r, f k a = .inl r ∧ B (fu + 1) a (nt k) = r) ∨ (∃ a', f k a = .inr a' ∧ B (fu + 1) a (nt k) = B fu a' (nt (k + 1)) ∧ P (k + 1) a')) : ∀ m k a fu, k + m = n → m < fu → P k a → B fu a (nt k) = itx f R m k a
  | 0, k, a, fu, h1, h2, h3 => by
    obtain ⟨fu, rfl⟩ : ∃ q, fu = q + 1 := ⟨fu - 1, by omega⟩
    have : k = n := by omega
    subst this
    exact hend fu a h3
  | m + 1, k, a, fu, h1, h2, h3 => by
    obtain ⟨fu, rfl⟩ : ∃ q, fu = q + 1 := ⟨fu - 1, by omega⟩
    unfold itx
    rcases hstep fu a k (by omega) h3 with ⟨r, e1, e2⟩ | ⟨a', e1, e2, e3⟩
    · rw [e1, e2]
    · rw [e1, e2]
      exact loop_x hend hstep m (k + 1) a' fu (by omega) (by omega) e3
/-- the first place from k on -/
def nx (p : Nat → Bool) : Nat → Nat → Option Nat
  | 0, _ => none
  | m + 1, k => if p k then some k else nx p m (k + 1)
def oel {β : Type} (o : Option Nat) (r0 : β) (r1 : Nat → β) : β := match o with
  | none => r0
  | some j => r1 j
theorem loop_find {β : Type} {n : Nat} {B : Nat → Int32 → β} {p : Nat → Bool} {r0 : β} {r1 : Nat → β} (hend : ∀ fu, B (fu + 1) (nt n) = r0) (hstep : ∀ fu k, k < n → B (fu + 1) (nt k) = if p k then r1 k else B fu (nt (k + 1))) : ∀ m k fu, k + m = n → m < fu → B fu (nt k) = oel (nx p m k) r0 r1
  | 0, k, fu, h1, h2 => by
    obtain ⟨fu, rfl⟩ : ∃ q, fu = q + 1 := ⟨fu - 1, by omega⟩
    have : k = n := by omega
    subst this
    exact hend fu
  | m + 1, k, fu, h1, h2 => by
    obtain ⟨fu, rfl⟩ : ∃ q, fu = q + 1 := ⟨fu - 1, by omega⟩
    rw [hstep fu k (by omega)]
    unfold nx
    by_cases e : p k = true
    · rw [if_pos e, if_pos e]; rfl
    · rw [if_neg e, if_neg e]
      exact loop_find hend hstep m (k + 1) fu (by omega) (by omega)
/-- the last place -/
def lastP (p : Nat → Bool) : Nat → Option Nat
  | 0 => none
  | n + 1 => if p n then some n else lastP p n
theorem loop_last {β : Type} {n : Nat} {B : Nat → Int32 → β} {p : Nat → Bool} {r0 : β} {r1 : Nat → β} (hend : ∀ fu, B (fu + 1) (-1) = r0) (hstep : ∀ fu k, k < n → B (fu + 1) (nt k) = if p k then r1 k else B fu (nt k - 1)) : ∀ m fu, m ≤ n → m < fu → B fu (nt m - 1) = oel (lastP p m) r0 r1
  | 0, fu, h1, h2 => by
    obtain ⟨fu, rfl⟩ : ∃ q, fu = q + 1 := ⟨fu - 1, by omega⟩
    exact hend fu
  | m + 1, fu, h1, h2 => by
    obtain ⟨fu, rfl⟩ : ∃ q, fu = q + 1 := ⟨fu - 1, by omega⟩
    rw [nt_pred, hstep fu m (by omega)]
    unfold lastP
    by_cases e : p m = true
    · rw [if_pos e, if_pos e]; rfl
    · rw [if_neg e, if_neg e]
      exact loop_last hend hstep m fu (by omega) (by omega)
theorem lastP_itr (p : Nat → Bool) : ∀ n, itr (fun k a => if p k then some k else a) n 0 none = lastP p n
  | 0 => rfl
  | n + 1 => by
    rw [itr_last, lastP_itr p n]
    show (if p (0 + n) = true then some (0 + n) else _) = _
    rw [Nat.zero_add]
    rfl
theorem lastP_lt {p : Nat → Bool} : ∀ {n s : Nat}, lastP p n = some s → s < n ∧ p s = true
  | n + 1, s, h => by
    unfold lastP at h
    by_cases e : p n = true
    · rw [if_pos e] at h; cases h; exact ⟨by omega, e⟩
    · rw [if_neg e] at h
      have := lastP_lt h
      exact ⟨by omega, this.2⟩
theorem lastP_max {p : Nat → Bool} : ∀ {n s j : Nat}, lastP p n = some s → s < j → j < n → p j = false
  | n + 1, s, j, h, h1, h2 => by
    unfold lastP at h
    by_cases e : p n = true
    · rw [if_pos e] at h; cases h; omega
    · rw [if_neg e] at h
      by_cases g : j = n
      · rw [g]; exact Bool.not_eq_true _ ▸ e
      · exact lastP_max h h1 (by omega)
theorem lastP_no {p : Nat → Bool} : ∀ {n j : Nat}, lastP p n = none → j < n → p j = false
  | n + 1, j, h, h2 => by
    unfold lastP at h
    by_cases e : p n = true
    · rw [if_pos e] at h; cases h
    · rw [if_neg e] at h
      by_cases g : j = n
      · rw [g]; exact Bool.not_eq_true _ ▸ e
      · exact lastP_no h (by omega)
theorem lastP_congr {p q : Nat → Bool} : ∀ {n : Nat}, (∀ j, j < n → p j = q j) → lastP p n = lastP q n
  | 0, _ => rfl
  | n + 1, h => by
    unfold lastP
    rw [h n (by omega), lastP_congr (fun j hj => h j (by omega))]
/-- along a chain of places -/
theorem loop_ch {α β : Type} {n : Nat} {B : Nat → α → Option Nat → β} {p : Nat → Bool} {f : Nat → α → α} {R : α → β} (hend : ∀ fu a, B (fu + 1) a none = R a) (hstep : ∀ fu a s, s < n → p s = true → B (fu + 1) a (some s) = B fu (f s a) (nx p (n - (s + 1)) (s + 1))) : ∀ m k a fu, k + m = n → m < fu → B fu a (nx p m k) = R (itr (fun s a => if p s then f s a else a) m k a)
  | 0, k, a, fu, h1, h2 => by
    obtain ⟨fu, rfl⟩ : ∃ q, fu = q + 1 := ⟨fu - 1, by omega⟩
    exact hend fu a
  | m + 1, k, a, fu, h1, h2 => by
    unfold nx itr
    by_cases e : p k = true
    · obtain ⟨fu, rfl⟩ : ∃ q, fu = q + 1 := ⟨fu - 1, by omega⟩
      simp only [if_pos e]
      rw [hstep fu a k (by omega) e, show n - (k + 1) = m by omega]
      exact loop_ch hend hstep m (k + 1) (f k a) fu (by omega) (by omega)
    · simp only [if_neg e]
      exact loop_ch hend hstep m (k + 1) a fu (by omega) (by omega)
/-! looking up -/
theorem dix {n : Nat} {x : Int32} (hn : n < 2147483648) : decide (0 ≤ x ∧ x ≤ nt n - 1) = (ix n x).isSome := by
  unfold ix
  by_cases h : 0 ≤ x ∧ x.toNatClampNeg < n
  · rw [if_pos h, decide_eq_true ((ix_iff hn).mpr h)]; rfl
  · rw [if_neg h, decide_eq_false (fun g => h ((ix_iff hn).mp g))]; rfl
theorem look {β : Type} {n N : Nat} {x : Int32} (hn : n < 2147483648) (hN : n ≤ N) (A : Option β) (B : Nat → Option β) : (if b1 (decide (0 ≤ x ∧ x ≤ nt n - 1)) = 0 then A else gd x N (B x.toNatClampNeg)) = oel (ix n x) A B := by
  rw [dix hn]
  cases h : ix n x with
  | none => rfl
  | some i =>
    obtain ⟨h1, h2⟩ := ix_some h
    subst h2
    show gd (nt i) N _ = B i
    rw [gd_nt _ (by omega) (by omega), nt_cl (by omega)]
theorem oel_s {β : Type} (i : Nat) (a : β) (b : Nat → β) : oel (some i) a b = b i := rfl
theorem oel_n {β : Type} (a : β) (b : Nat → β) : oel none a b = a := rfl
theorem isS_s {α : Type} (a : α) : (some a).isSome = true := rfl
theorem isS_n {α : Type} : (none : Option α).isSome = false := rfl
/-- is there one -/
def anyU (p : Nat → Bool) : Nat → Nat → Bool
  | 0, _ => false
  | m + 1, k => p k || anyU p m (k + 1)
theorem anyU_c {p q : Nat → Bool} : ∀ (m k k' : Nat), (∀ i, i < m → p (k + i) = q (k' + i)) → anyU p m k = anyU q m k'
  | 0, _, _, _ => rfl
  | m + 1, k, k', h => by
    unfold anyU
    rw [show p k = q k' from h 0 (by omega), anyU_c m (k + 1) (k' + 1) (fun i hi => by rw [show k + 1 + i = k + (i + 1) by omega, show k' + 1 + i = k' + (i + 1) by omega]; exact h (i + 1) (by omega))]
theorem nx_any {β : Type} (p : Nat → Bool) (a b : β) : ∀ m k, oel (nx p m k) a (fun _ => b) = if anyU p m k then b else a
  | 0, _ => rfl
  | m + 1, k => by
    unfold nx anyU
    cases e : p k
    · simp only [Bool.false_or]; exact nx_any p a b m (k + 1)
    · simp [oel]
theorem anyU_iff {p : Nat → Bool} : ∀ {m k : Nat}, anyU p m k = true ↔ ∃ j, k ≤ j ∧ j < k + m ∧ p j = true
  | 0, k => by simp [anyU]; omega
  | m + 1, k => by
    unfold anyU
    rw [Bool.or_eq_true, anyU_iff]
    constructor
    · rintro (h | ⟨j, h1, h2, h3⟩)
      · exact ⟨k, Nat.le_refl _, by omega, h⟩
      · exact ⟨j, by omega, by omega, h3⟩
    · rintro ⟨j, h1, h2, h3⟩
      by_cases e : j = k
      · left; rw [← e]; exact h3
      · right; exact ⟨j, by omega, by omega, h3⟩
/-- counters and reads on the other side -/
theorem nt0 : (0 : Int32) = nt 0 := rfl
theorem ge_nt {k n : Nat} (hk : k < 2147483648) (hn : n < 2147483648) : (nt n ≤ nt k) = (n ≤ k) := propext (nt_le hn hk)
theorem lt_nt {k n : Nat} (hk : k < 2147483648) (hn : n < 2147483648) : (nt k < nt n) = (k < n) := propext (nt_lt hk hn)
theorem eq_nt {k n : Nat} (hk : k < 2147483648) (hn : n < 2147483648) : (nt k = nt n) = (k = n) := propext (nt_inj hk hn)
/-! chains that grow -/
theorem nx_snoc {p : Nat → Bool} : ∀ (m k : Nat), nx p (m + 1) k = oel (nx p m k) (if p (k + m) then some (k + m) else none) some
  | 0, k => by
    show (if p k = true then some k else none) = _
    rfl
  | m + 1, k => by
    have h := nx_snoc (p := p) m (k + 1)
    unfold nx
    cases e : p k
    · simp only [Bool.false_eq_true, if_false]
      rw [h, show k + 1 + m = k + (m + 1) by omega]
    · simp [oel]
theorem nx_c {p q : Nat → Bool} : ∀ (m k : Nat), (∀ i, i < m → p (k + i) = q (k + i)) → nx p m k = nx q m k
  | 0, _, _ => rfl
  | m + 1, k, h => by
    unfold nx
    rw [show p k = q k from h 0 (by omega), nx_c (p := p) (q := q) m (k + 1) (fun i hi => by rw [show k + 1 + i = k + (i + 1) by omega]; exact h (i + 1) (by omega))]
theorem nx_some {p : Nat → Bool} : ∀ {m k s : Nat}, nx p m k = some s → k ≤ s ∧ s < k + m ∧ p s = true ∧ ∀ j, k ≤ j → j < s → p j = false
  | m + 1, k, s, h => by
    unfold nx at h
    cases e : p k
    · rw [e] at h
      obtain ⟨h1, h2, h3, h4⟩ := nx_some (m := m) (k := k + 1) h
      refine ⟨by omega, by omega, h3, fun j g1 g2 => ?_⟩
      by_cases g : j = k
      · rw [g]; exact e
      · exact h4 j (by omega) g2
    · rw [e] at h
      cases h
      exact ⟨Nat.le_refl _, by omega, e, fun j g1 g2 => by omega⟩
theorem nx_no {p : Nat → Bool} : ∀ {m k : Nat}, nx p m k = none ↔ ∀ j, k ≤ j → j < k + m → p j = false
  | 0, k => ⟨fun _ j h1 h2 => by omega, fun _ => rfl⟩
  | m + 1, k => by
    unfold nx
    cases e : p k
    · simp only [Bool.false_eq_true, if_false]
      rw [nx_no]
      constructor
      · intro h j h1 h2
        by_cases g : j = k
        · rw [g]; exact e
        · exact h j (by omega) (by omega)
      · intro h j h1 h2
        exact h j (by omega) (by omega)
    · simp only [if_true]
      constructor
      · intro h; cases h
      · intro h
        have := h k (Nat.le_refl _) (by omega)
        rw [e] at this; cases this
theorem lastP_none {p : Nat → Bool} {n : Nat} : lastP p n = none ↔ ∀ j, j < n → p j = false := ⟨fun h j hj => lastP_no h hj, fun h => by
  cases e : lastP p n with
  | none => rfl
  | some s =>
    obtain ⟨h1, h2⟩ := lastP_lt e
    rw [h s h1] at h2; cases h2⟩
theorem lastP_is {p : Nat → Bool} {n s : Nat} (h1 : s < n) (h2 : p s = true) (h3 : ∀ j, s < j → j < n → p j = false) : lastP p n = some s := by
  cases e : lastP p n with
  | none => rw [lastP_no e h1] at h2; cases h2
  | some r =>
    obtain ⟨g1, g2⟩ := lastP_lt e
    by_cases g : r = s
    · rw [g]
    · by_cases g' : s < r
      · rw [h3 r g' g1] at g2; cases g2
      · rw [lastP_max e (by omega) h1] at h2; cases h2
theorem lastP_nx {p : Nat → Bool} {n s : Nat} (hs : s < n) : lastP p n = some s ↔ p s = true ∧ nx p (n - (s + 1)) (s + 1) = none := by
  constructor
  · intro h
    exact ⟨(lastP_lt h).2, nx_no.mpr (fun j h1 h2 => lastP_max h (by omega) (by omega))⟩
  · rintro ⟨h1, h2⟩
    exact lastP_is hs h1 (fun j g1 g2 => nx_no.mp h2 j (by omega) (by omega))
theorem nx_fst {p : Nat → Bool} {n : Nat} : nx p n 0 = none ↔ lastP p n = none := by
  rw [nx_no, lastP_none]
  exact ⟨fun h j hj => h j (by omega) (by omega), fun h j _ hj => h j (by omega)⟩
def cntP (p : Nat → Bool) : Nat → Nat
  | 0 => 0
  | n + 1 => cntP p n + (if p n then 1 else 0)
theorem cntP_le {p : Nat → Bool} : ∀ n, cntP p n ≤ n
  | 0 => Nat.le_refl _
  | n + 1 => by
    have := cntP_le (p := p) n
    unfold cntP
    split <;> omega
theorem cntP_c {p q : Nat → Bool} : ∀ n, (∀ j, j < n → p j = q j) → cntP p n = cntP q n
  | 0, _ => rfl
  | n + 1, h => by
    unfold cntP
    rw [h n (by omega), cntP_c n (fun j hj => h j (by omega))]
theorem gw0 {β : Type} (b : Bool) (A B : β) : (if b1 b = 0 then A else B) = if b = true then B else A := by cases b <;> simp [b1]
theorem gw1 {β : Type} (b : Bool) (A B : β) : (if ¬ b1 b = 0 then A else B) = if b = true then A else B := by cases b <;> simp [b1]
theorem tr_b {β : Type} (A B : β) : (if true = true then A else B) = A := rfl
theorem fa_b {β : Type} (A B : β) : (if false = true then A else B) = B := rfl
theorem nt_ex {x : Int32} (h : 0 ≤ x) : ∃ n, n < 2147483648 ∧ x = nt n := ⟨_, Int32.toNatClampNeg_lt x, nt_of h⟩
theorem nt_exb {x : Int32} {b : Nat} (h : 0 ≤ x) (hb : b < 2147483648) (h2 : x ≤ nt b) : ∃ n, n ≤ b ∧ x = nt n := by
  obtain ⟨n, h3, rfl⟩ := nt_ex h
  exact ⟨n, (nt_le h3 hb).mp h2, rfl⟩
theorem igE {α : Type} {k n : Nat} {A B : α} (hk : k < 2147483648) (hn : n < 2147483648) : (if nt n ≤ nt k then A else B) = if n ≤ k then A else B := by simp only [ge_nt hk hn]
theorem ilT {α : Type} {k n : Nat} {A B : α} (hk : k < 2147483648) (hn : n < 2147483648) : (if nt k < nt n then A else B) = if k < n then A else B := by simp only [lt_nt hk hn]
theorem ieQ {α : Type} {k n : Nat} {A B : α} (hk : k < 2147483648) (hn : n < 2147483648) : (if nt k = nt n then A else B) = if k = n then A else B := by simp only [eq_nt hk hn]
theorem deQ {k n : Nat} (hk : k < 2147483648) (hn : n < 2147483648) : decide (nt k = nt n) = decide (k = n) := by simp only [eq_nt hk hn]
theorem loop_ch2 {α β γ : Type} {n : Nat} {B : Nat → α → β → Option Nat → γ} {p : Nat → Bool} {f : Nat → α → α} {g : Nat → β → β} {R : α → β → γ} (hend : ∀ fu a b, B (fu + 1) a b none = R a b) (hstep : ∀ fu a b s, s < n → p s = true → B (fu + 1) a b (some s) = B fu (f s a) (g s b) (nx p (n - (s + 1)) (s + 1))) : ∀ m k a b fu, k + m = n → m < fu → B fu a b (nx p m k) = R (itr (fun s a => if p s then f s a else a) m k a) (itr (fun s b => if p s then g s b else b) m k b)
  | 0, k, a, b, fu, h1, h2 => by
    obtain ⟨fu, rfl⟩ : ∃ q, fu = q + 1 := ⟨fu - 1, by omega⟩
    exact hend fu a b
  | m + 1, k, a, b, fu, h1, h2 => by
    unfold nx itr
    by_cases e : p k = true
    · obtain ⟨fu, rfl⟩ : ∃ q, fu = q + 1 := ⟨fu - 1, by omega⟩
      simp only [if_pos e]
      rw [hstep fu a b k (by omega) e, show n - (k + 1) = m by omega]
      exact loop_ch2 hend hstep m (k + 1) (f k a) (g k b) fu (by omega) (by omega)
    · simp only [if_neg e]
      exact loop_ch2 hend hstep m (k + 1) a b fu (by omega) (by omega)
