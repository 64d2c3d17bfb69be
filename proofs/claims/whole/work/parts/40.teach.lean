/-! PART 40: teaching: days by holders. -/
def it (z : Int) : Int32 := Int32.ofInt z
theorem it_int {z : Int} (h1 : -2147483648 ≤ z) (h2 : z < 2147483648) : (it z).toInt = z := Int32.toInt_ofInt_of_le h1 h2
theorem it_le {a b : Int} (h1 : -2147483648 ≤ a) (h2 : a < 2147483648) (h3 : -2147483648 ≤ b) (h4 : b < 2147483648) : it a ≤ it b ↔ a ≤ b := by rw [ni_le, it_int h1 h2, it_int h3 h4]
theorem it_lt {a b : Int} (h1 : -2147483648 ≤ a) (h2 : a < 2147483648) (h3 : -2147483648 ≤ b) (h4 : b < 2147483648) : it a < it b ↔ a < b := by rw [ni_lt, it_int h1 h2, it_int h3 h4]
theorem it_add (a b : Int) : it a + it b = it (a + b) := (Int32.ofInt_add a b).symm
theorem it_sub (a b : Int) : it a - it b = it (a - b) := (Int32.ofInt_sub a b).symm
theorem it_nt (n : Nat) : it n = nt n := Int32.ofInt_eq_ofNat
theorem it_of (x : Int32) : x = it x.toInt := (Int32.ofInt_toInt x).symm
theorem it_1 : (1 : Int32) = it 1 := by decide
/-- a loop with a measure that falls -/
theorem loop_wh {α β : Type} {B : Nat → α → β} {mu : α → Nat} {P : α → Prop} {G : β → Prop} (h : ∀ fu a, P a → G (B (fu + 1) a) ∨ ∃ a', B (fu + 1) a = B fu a' ∧ P a' ∧ mu a' < mu a) : ∀ fu a, P a → mu a < fu → G (B fu a)
  | 0, a, _, h2 => by omega
  | fu + 1, a, h1, h2 => by
    rcases h fu a h1 with g | ⟨a', g1, g2, g3⟩
    · exact g
    · rw [g1]
      exact loop_wh h fu a' g2 (by omega)
theorem loop_chR {α β : Type} {n : Nat} {B : Nat → α → Option Nat → β} {p : Nat → Bool} {P : Nat → α → Prop} {G : β → Prop} (hend : ∀ fu a, P n a → G (B (fu + 1) a none)) (hskip : ∀ a k, k < n → p k = false → P k a → P (k + 1) a) (hstep : ∀ fu a s, s < n → p s = true → P s a → ∃ a', B (fu + 1) a (some s) = B fu a' (nx p (n - (s + 1)) (s + 1)) ∧ P (s + 1) a') : ∀ m k a fu, k + m = n → m < fu → P k a → G (B fu a (nx p m k))
  | 0, k, a, fu, h1, h2, h3 => by
    obtain ⟨fu, rfl⟩ : ∃ q, fu = q + 1 := ⟨fu - 1, by omega⟩
    have : k = n := by omega
    subst this
    exact hend fu a h3
  | m + 1, k, a, fu, h1, h2, h3 => by
    unfold nx
    cases e : p k
    · simp only [Bool.false_eq_true, if_false]
      exact loop_chR hend hskip hstep m (k + 1) a fu (by omega) (by omega) (hskip a k (by omega) e h3)
    · simp only [if_true]
      obtain ⟨fu, rfl⟩ : ∃ q, fu = q + 1 := ⟨fu - 1, by omega⟩
      obtain ⟨a', g1, g2⟩ := hstep fu a k (by omega) e h3
      rw [g1, show n - (k + 1) = m by omega]
      exact loop_chR hend hskip hstep m (k + 1) a' fu (by omega) (by omega) g2
/-- how many of m days from z on -/
def cnk (f : Int → Option Nat) (c : Nat) (z : Int) : Nat → Nat
  | 0 => 0
  | m + 1 => cnk f c z m + (if f (z + m) = some c then 1 else 0)
theorem cnk_le {f : Int → Option Nat} {c : Nat} {z : Int} : ∀ m, cnk f c z m ≤ m
  | 0 => Nat.le_refl _
  | m + 1 => by
    have := cnk_le (f := f) (c := c) (z := z) m
    unfold cnk
    split <;> omega
theorem cnk_add {f : Int → Option Nat} {c : Nat} {z : Int} {a : Nat} {v : Option Nat} : ∀ b : Nat, (∀ i : Nat, i < b → f (z + a + i) = v) → cnk f c z (a + b) = cnk f c z a + (if v = some c then b else 0)
  | 0, _ => by simp
  | b + 1, h => by
    have h1 := cnk_add (c := c) b (fun i hi => h i (by omega))
    have h2 := h b (by omega)
    show cnk f c z (a + b) + (if f (z + ((a + b : Nat) : Int)) = some c then 1 else 0) = _
    rw [h1, show z + ((a + b : Nat) : Int) = z + a + b by omega, h2]
    by_cases e : v = some c
    · rw [if_pos e, if_pos e, if_pos e]; omega
    · rw [if_neg e, if_neg e, if_neg e]
/-- the club that holds on a day -/
def cz (t : TS) (n p : Nat) (z : Int) : Option Nat := oel (hol t n p (it z)) none (fun s => some (tA t 3318 0 s).toNatClampNeg)
def lz (t : TS) (n p : Nat) (z : Int) : Option Nat := oel (cz t n p z) none (fun c => some (tA t 3309 0 c).toNatClampNeg)
theorem hol_lt {t : TS} {n p s : Nat} {d : Int32} (h : hol t n p d = some s) : s < n := by
  unfold hol own at h
  cases e : ow0 t n p d with
  | none => rw [e] at h; exact (lastP_lt h).1
  | some q =>
    rw [e, oel_s] at h
    by_cases g : tA t 3320 0 q < d
    · rw [if_pos g] at h; exact (lastP_lt h).1
    · rw [if_neg g, oel_s] at h
      have hq := (lastP_lt e).1
      cases e' : ot0 t n p d with
      | none => rw [e'] at h; cases h; exact hq
      | some o =>
        rw [e', oel_s] at h
        have ho := (lastP_lt e').1
        by_cases g2 : o < q
        · rw [if_pos g2] at h; cases h; exact hq
        · rw [if_neg g2] at h; cases h; exact ho
/-- two days between which no span of a player begins or ends -/
def same (t : TS) (n p : Nat) (d d' : Int32) : Prop := ∀ s, s < n → pS t p s = true → (tA t 3319 0 s ≤ d' ↔ tA t 3319 0 s ≤ d) ∧ (d' < tA t 3322 0 s ↔ d < tA t 3322 0 s) ∧ (d' ≤ tA t 3320 0 s ↔ d ≤ tA t 3320 0 s)
theorem hol_same {t : TS} {n p : Nat} {d d' : Int32} (h : same t n p d d') : hol t n p d' = hol t n p d := by
  have h1 : ow0 t n p d' = ow0 t n p d := by
    refine lastP_congr (fun j hj => ?_)
    unfold oS oC
    cases e : pS t p j
    · rw [Bool.false_and, Bool.false_and]
    · obtain ⟨a1, a2, a3⟩ := h j hj e
      simp only [a1, a2]
  have h2 : ot0 t n p d' = ot0 t n p d := by
    refine lastP_congr (fun j hj => ?_)
    unfold tS tC
    cases e : pS t p j
    · rw [Bool.false_and, Bool.false_and]
    · obtain ⟨a1, a2, a3⟩ := h j hj e
      simp only [a1, a2, a3]
  have h3 : own t n p d' = own t n p d := by
    unfold own
    rw [h1]
    cases e : ow0 t n p d with
    | none => rw [oel_n, oel_n]
    | some s =>
      obtain ⟨hs, hs2⟩ := lastP_lt e
      have hp : pS t p s = true := by
        unfold oS at hs2
        exact (Bool.and_eq_true _ _ ▸ hs2).1
      obtain ⟨a1, a2, a3⟩ := h s hs hp
      rw [oel_s, oel_s]
      by_cases g : tA t 3320 0 s < d
      · rw [if_pos g, if_pos (Int32.not_le.mp (fun g2 => Int32.not_le.mpr g (a3.mp g2)))]
      · rw [if_neg g, if_neg (Int32.not_lt.mpr (a3.mpr (Int32.not_lt.mp g)))]
  unfold hol
  rw [h2, h3]
section
variable {t : TS} {nB nS nM p : Nat}
/-- what the next change says -/
def chg (t : TS) (n p : Nat) (d v : Int32) : Prop := d < v ∧ v ≤ 1000000 ∧ ∀ s, s < n → pS t p s = true → (d < tA t 3319 0 s → v ≤ tA t 3319 0 s) ∧ (d ≤ tA t 3320 0 s → v ≤ tA t 3320 0 s + 1) ∧ (d < tA t 3322 0 s → v ≤ tA t 3322 0 s)
theorem min_step {v x d : Int32} {P : Prop} (hv : d < v) (hx : P → d < x) (dP : Decidable P) : ∃ w, (if P then (if v ≤ x then v else x) else v) = w ∧ d < w ∧ w ≤ v ∧ (P → w ≤ x) := by
  by_cases g : P
  · by_cases g2 : v ≤ x
    · exact ⟨v, by rw [if_pos g, if_pos g2], hv, Int32.le_refl _, fun _ => g2⟩
    · exact ⟨x, by rw [if_pos g, if_neg g2], hx g, Int32.le_of_lt (Int32.not_le.mp g2), fun _ => Int32.le_refl _⟩
  · exact ⟨v, by rw [if_neg g], hv, Int32.le_refl _, fun g2 => absurd g2 g⟩
theorem mc1 {β : Type} {x d v : Int32} (X : Int32 → β) : (if x ≤ d then X v else if v ≤ x then X v else X x) = X (if d < x then (if v ≤ x then v else x) else v) := by
  by_cases g : x ≤ d
  · rw [if_pos g, if_neg (Int32.not_lt.mpr g)]
  · rw [if_neg g, if_pos (Int32.not_le.mp g)]
    by_cases g2 : v ≤ x
    · rw [if_pos g2, if_pos g2]
    · rw [if_neg g2, if_neg g2]
theorem mc2 {β : Type} {x d v y : Int32} (X : Int32 → β) : (if x < d then X v else if v ≤ y then X v else X y) = X (if d ≤ x then (if v ≤ y then v else y) else v) := by
  by_cases g : x < d
  · rw [if_pos g, if_neg (Int32.not_le.mpr g)]
  · rw [if_neg g, if_pos (Int32.not_lt.mp g)]
    by_cases g2 : v ≤ y
    · rw [if_pos g2, if_pos g2]
    · rw [if_neg g2, if_neg g2]
theorem X1_nextChange_eq (hS : Ispan nB nS nM t) (hp : p < nB) (d : Int32) (hd : d < 1000000) : ∃ v, F_X1_nextChange t p d = some v ∧ chg t nS p d v := by
  unfold F_X1_nextChange
  rw [nxt_e, (hS.2.2.2.2.2 p hp).1]
  have h600 := hS.1
  refine loop_chR (n := nS) (B := fun fu v o => B_X1_nextChange_8 fu t d v o) (p := pS t p) (G := fun o => ∃ v, o = some v ∧ chg t nS p d v) (P := fun k v => d < v ∧ v ≤ 1000000 ∧ ∀ s, s < k → pS t p s = true → (d < tA t 3319 0 s → v ≤ tA t 3319 0 s) ∧ (d ≤ tA t 3320 0 s → v ≤ tA t 3320 0 s + 1) ∧ (d < tA t 3322 0 s → v ≤ tA t 3322 0 s)) (fun fu a h => ⟨a, rfl, h⟩) (fun a k hk hpk h => ⟨h.1, h.2.1, fun s hs hps => ?_⟩) (fun fu a s hs hps h => ?_) nS 0 1000000 10000 (by omega) (by omega) ⟨hd, Int32.le_refl _, fun s hs => by omega⟩
  · by_cases e : s = k
    · rw [e, hpk] at hps; cases hps
    · exact h.2.2 s (by omega) hps
  · obtain ⟨-, -, -, e2, e4, -, e3, -, -, -, -, -, -, b1, b2, -⟩ := hS.2.2.2.1 s hs
    obtain ⟨h1, h2, h3⟩ := h
    have hover : tA t 3320 0 s < tA t 3320 0 s + 1 := by
      rw [ni_lt, ni_add] <;> rw [ni_le] at b1 b2 <;> simp at b1 b2 ⊢ <;> omega
    obtain ⟨w1, f1, f2, f3, f4⟩ := min_step (v := a) (x := tA t 3319 0 s) (P := d < tA t 3319 0 s) h1 (fun g => g) inferInstance
    obtain ⟨w2, g1, g2, g3, g4⟩ := min_step (v := w1) (x := tA t 3320 0 s + 1) (P := d ≤ tA t 3320 0 s) f2 (fun g => Int32.lt_of_le_of_lt g hover) inferInstance
    obtain ⟨w3, k1, k2, k3, k4⟩ := min_step (v := w2) (x := tA t 3322 0 s) (P := d < tA t 3322 0 s) g2 (fun g => g) inferInstance
    refine ⟨w3, ?_, k2, Int32.le_trans (Int32.le_trans (Int32.le_trans k3 g3) f3) h2, fun s' hs' hps' => ?_⟩
    · show BB_X1_nextChange_8 (B_X1_nextChange_8 fu) t d a (some s) = _
      have q3 : ∀ v, B_X1_nextChange_58 (B_X1_nextChange_8 fu) t d v s = B_X1_nextChange_79 (B_X1_nextChange_8 fu) t d (if d < tA t 3322 0 s then (if v ≤ tA t 3322 0 s then v else tA t 3322 0 s) else v) s := fun v => by
        unfold B_X1_nextChange_58
        rw [e3]
        exact mc1 (fun x => B_X1_nextChange_79 (B_X1_nextChange_8 fu) t d x s)
      have q2 : ∀ v, B_X1_nextChange_33 (B_X1_nextChange_8 fu) t d v s = B_X1_nextChange_58 (B_X1_nextChange_8 fu) t d (if d ≤ tA t 3320 0 s then (if v ≤ tA t 3320 0 s + 1 then v else tA t 3320 0 s + 1) else v) s := fun v => by
        unfold B_X1_nextChange_33
        rw [e4]
        exact mc2 (fun x => B_X1_nextChange_58 (B_X1_nextChange_8 fu) t d x s)
      have q1 : BB_X1_nextChange_8 (B_X1_nextChange_8 fu) t d a (some s) = B_X1_nextChange_33 (B_X1_nextChange_8 fu) t d (if d < tA t 3319 0 s then (if a ≤ tA t 3319 0 s then a else tA t 3319 0 s) else a) s := by
        unfold BB_X1_nextChange_8
        rw [oc_s, e2]
        exact mc1 (fun x => B_X1_nextChange_33 (B_X1_nextChange_8 fu) t d x s)
      rw [q1, f1, q2, g1, q3, k1]
      unfold B_X1_nextChange_79
      rw [nxt_e, sp_next hS hs hps]
    · have hw3a : w3 ≤ a := Int32.le_trans (Int32.le_trans k3 g3) f3
      by_cases e : s' = s
      · subst e
        exact ⟨fun g => Int32.le_trans (Int32.le_trans k3 g3) (f4 g), fun g => Int32.le_trans k3 (g4 g), k4⟩
      · obtain ⟨q1, q2, q3⟩ := h3 s' (by omega) hps'
        exact ⟨fun g => Int32.le_trans hw3a (q1 g), fun g => Int32.le_trans hw3a (q2 g), fun g => Int32.le_trans hw3a (q3 g)⟩
theorem chg_same (hS : Ispan nB nS nM t) {d d' v : Int32} (h : chg t nS p d v) (h1 : d ≤ d') (h2 : d' < v) : same t nS p d d' := by
  intro s hs hps
  obtain ⟨a1, a2, a3⟩ := h.2.2 s hs hps
  obtain ⟨-, -, -, -, -, -, -, -, -, -, -, -, -, b1, b2, -⟩ := hS.2.2.2.1 s hs
  refine ⟨⟨fun g => ?_, fun g => Int32.le_trans g h1⟩, ⟨fun g => Int32.lt_of_le_of_lt h1 g, fun g => ?_⟩, ⟨fun g => Int32.le_trans h1 g, fun g => ?_⟩⟩
  · refine Int32.not_lt.mp (fun g2 => ?_)
    have := Int32.le_trans (a1 g2) g
    exact Int32.not_lt.mpr this h2
  · exact Int32.lt_of_lt_of_le h2 (a3 g)
  · have := a2 g
    have e : (tA t 3320 0 s + 1).toInt = (tA t 3320 0 s).toInt + 1 := by
      rw [ni_add] <;> rw [ni_le] at b1 b2 <;> simp at b1 b2 ⊢ <;> omega
    rw [ni_le] at this ⊢
    rw [ni_lt] at h2
    omega
end
