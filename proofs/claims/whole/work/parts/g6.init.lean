/-! PART g6: the constructors. -/
def mem2 : List (Nat × Nat) → Nat → Nat → Bool
  | [], _, _ => false
  | p :: l, x, y => bif Nat.beq x p.1 && Nat.beq y p.2 then true else mem2 l x y
def lk3 {α : Type} : List (Nat × Nat × α) → α → Nat → Nat → α
  | [], d, _, _ => d
  | p :: l, d, x, y => bif Nat.beq x p.1 && Nat.beq y p.2.1 then p.2.2 else lk3 l d x y
/-- a typed heap by lists -/
def mkT (E : List (Nat × Nat)) (I : List (Nat × Nat × Int32)) (R : List (Nat × Nat × Option Nat)) (L : List (Nat × Nat × Nat)) (A : List (Nat × Nat × Int32)) (Q : List (Nat × Nat × Option Nat)) : TS := (mem2 E, lk3 I 0, lk3 R none, lk3 L 0, fun k i j => if i = 0 then lk3 A 0 k j else 0, fun _ _ _ => 0, fun k i j => if i = 0 then lk3 Q none k j else none)
def noK {α : Type} (l : List (Nat × Nat × α)) (k : Nat) : Bool := l.all (fun p => !Nat.beq p.1 k)
def noC {α : Type} (l : List (Nat × Nat × α)) (c i : Nat) : Bool := l.all (fun p => !(Nat.beq (p.1 / 100) c && Nat.beq p.2.1 i))
theorem nbq {a b : Nat} : Nat.beq a b = true ↔ a = b := ⟨Nat.eq_of_beq_eq_true, fun h => by rw [h]; exact Nat.beq_refl b⟩
theorem nbn {a b : Nat} (h : ¬ a = b) : Nat.beq a b = false := Bool.not_eq_true _ ▸ (fun g => h (nbq.mp g))
theorem lk3_noK {α : Type} {d : α} {k j : Nat} : ∀ {l : List (Nat × Nat × α)}, noK l k = true → lk3 l d k j = d
  | [], _ => rfl
  | p :: l, h => by
    have h2 : (!Nat.beq p.1 k) = true ∧ noK l k = true := Bool.and_eq_true_iff.mp h
    have h3 : Nat.beq k p.1 = false := nbn (fun e => by rw [e, Nat.beq_refl] at h2; exact absurd h2.1 (by decide))
    show (bif Nat.beq k p.1 && Nat.beq j p.2.1 then p.2.2 else lk3 l d k j) = d
    rw [h3, Bool.false_and]
    exact lk3_noK h2.2
theorem lk3_noC {α : Type} {d : α} {f c i : Nat} (hf : f / 100 = c) : ∀ {l : List (Nat × Nat × α)}, noC l c i = true → lk3 l d f i = d
  | [], _ => rfl
  | p :: l, h => by
    have h2 : (!(Nat.beq (p.1 / 100) c && Nat.beq p.2.1 i)) = true ∧ noC l c i = true := Bool.and_eq_true_iff.mp h
    have h3 : (Nat.beq f p.1 && Nat.beq i p.2.1) = false := by
      rw [← Bool.not_eq_true, Bool.and_eq_true, nbq, nbq]
      rintro ⟨e1, e2⟩
      rw [← e1, ← e2, hf, Nat.beq_refl, Nat.beq_refl] at h2
      exact absurd h2.1 (by decide)
    show (bif Nat.beq f p.1 && Nat.beq i p.2.1 then p.2.2 else lk3 l d f i) = d
    rw [h3]
    exact lk3_noC hf h2.2
theorem mem2_c {x y a b : Nat} {l : List (Nat × Nat)} : mem2 ((a, b) :: l) x y = (if x = a then (if y = b then true else mem2 l x y) else mem2 l x y) := by
  show (bif Nat.beq x a && Nat.beq y b then true else mem2 l x y) = _
  by_cases h1 : x = a
  · by_cases h2 : y = b
    · rw [if_pos h1, if_pos h2, h1, h2, Nat.beq_refl, Nat.beq_refl]; rfl
    · rw [if_pos h1, if_neg h2, nbn h2, Bool.and_false]; rfl
  · rw [if_neg h1, nbn h1, Bool.false_and]; rfl
theorem lk3_c {α : Type} {x y a b : Nat} {v d : α} {l : List (Nat × Nat × α)} : lk3 ((a, b, v) :: l) d x y = (if x = a then (if y = b then v else lk3 l d x y) else lk3 l d x y) := by
  show (bif Nat.beq x a && Nat.beq y b then v else lk3 l d x y) = _
  by_cases h1 : x = a
  · by_cases h2 : y = b
    · rw [if_pos h1, if_pos h2, h1, h2, Nat.beq_refl, Nat.beq_refl]; rfl
    · rw [if_pos h1, if_neg h2, nbn h2, Bool.and_false]; rfl
  · rw [if_neg h1, nbn h1, Bool.false_and]; rfl
section
variable {E : List (Nat × Nat)} {I : List (Nat × Nat × Int32)} {R : List (Nat × Nat × Option Nat)} {L : List (Nat × Nat × Nat)} {A : List (Nat × Nat × Int32)} {Q : List (Nat × Nat × Option Nat)}
theorem uR_mk {f i : Nat} {v : Option Nat} : uR (mkT E I R L A Q) f i v = mkT E I ((f, i, v) :: R) L A Q := by
  have e : mm_u2 (lk3 R none) f i v = lk3 ((f, i, v) :: R) none := by
    funext x y
    rw [lk3_c]
    rfl
  show (mem2 E, lk3 I 0, mm_u2 (lk3 R none) f i v, _) = _
  rw [e]
  rfl
theorem uI_mk {f i : Nat} {v : Int32} : uI (mkT E I R L A Q) f i v = mkT E ((f, i, v) :: I) R L A Q := by
  have e : mm_u2 (lk3 I 0) f i v = lk3 ((f, i, v) :: I) 0 := by
    funext x y
    rw [lk3_c]
    rfl
  show (mem2 E, mm_u2 (lk3 I 0) f i v, _) = _
  rw [e]
  rfl
theorem uA_mk {k j : Nat} {v : Int32} : uA (mkT E I R L A Q) k 0 j v = mkT E I R L ((k, j, v) :: A) Q := by
  have e : mm_u3 (fun k i j => if i = 0 then lk3 A 0 k j else 0) k 0 j v = (fun (x : Nat) (i w : Nat) => if i = 0 then lk3 ((k, j, v) :: A) 0 x w else 0) := by
    funext x y w
    rw [lk3_c]
    unfold mm_u3
    by_cases h1 : x = k <;> by_cases h2 : y = 0 <;> by_cases h3 : w = j <;> simp [h1, h2, h3]
  show (mem2 E, lk3 I 0, lk3 R none, lk3 L 0, mm_u3 (fun k i j => if i = 0 then lk3 A 0 k j else 0) k 0 j v, _) = _
  rw [e]
  rfl
theorem uQ_mk {k j : Nat} {v : Option Nat} : uQ (mkT E I R L A Q) k 0 j v = mkT E I R L A ((k, j, v) :: Q) := by
  have e : mm_u3 (fun k i j => if i = 0 then lk3 Q none k j else none) k 0 j v = (fun (x : Nat) (i w : Nat) => if i = 0 then lk3 ((k, j, v) :: Q) none x w else none) := by
    funext x y w
    rw [lk3_c]
    unfold mm_u3
    by_cases h1 : x = k <;> by_cases h2 : y = 0 <;> by_cases h3 : w = j <;> simp [h1, h2, h3]
  show (mem2 E, lk3 I 0, lk3 R none, lk3 L 0, (fun k i j => if i = 0 then lk3 A 0 k j else 0), (fun _ _ _ => 0), mm_u3 (fun k i j => if i = 0 then lk3 Q none k j else none) k 0 j v) = _
  rw [e]
  rfl
theorem uN_mk {k i n : Nat} (h2 : noK A k = true) (h3 : noK Q k = true) : uN (mkT E I R L A Q) k i n = mkT ((k, i) :: E) I R ((k, i, n) :: L) A Q := by
  have e1 : mm_u2 (mem2 E) k i true = mem2 ((k, i) :: E) := by
    funext x y
    rw [mem2_c]
    rfl
  have e2 : mm_u2 (lk3 L 0) k i n = lk3 ((k, i, n) :: L) 0 := by
    funext x y
    rw [lk3_c]
    rfl
  have e3 : (fun (x y j : Nat) => if x = k ∧ y = i then (0 : Int32) else (if y = 0 then lk3 A 0 x j else 0)) = fun x y j => if y = 0 then lk3 A 0 x j else 0 := by
    funext x y j
    by_cases h : x = k ∧ y = i
    · rw [if_pos h, h.1, lk3_noK h2]; split <;> rfl
    · rw [if_neg h]
  have e4 : (fun (x y j : Nat) => if x = k ∧ y = i then (none : Option Nat) else (if y = 0 then lk3 Q none x j else none)) = fun x y j => if y = 0 then lk3 Q none x j else none := by
    funext x y j
    by_cases h : x = k ∧ y = i
    · rw [if_pos h, h.1, lk3_noK h3]; split <;> rfl
    · rw [if_neg h]
  have e5 : (fun (x y j : Nat) => if x = k ∧ y = i then (0 : Int64) else 0) = fun _ _ _ => 0 := by
    funext x y j
    split <;> rfl
  show (mm_u2 (mem2 E) k i true, lk3 I 0, lk3 R none, mm_u2 (lk3 L 0) k i n, (fun (x y j : Nat) => if x = k ∧ y = i then (0 : Int32) else (if y = 0 then lk3 A 0 x j else 0)), (fun (x y j : Nat) => if x = k ∧ y = i then (0 : Int64) else 0), (fun (x y j : Nat) => if x = k ∧ y = i then (none : Option Nat) else (if y = 0 then lk3 Q none x j else none))) = _
  rw [e1, e2, e3, e4, e5]
  rfl
theorem uO_mk {c i : Nat} (h2 : noC I c i = true) (h3 : noC R c i = true) : uO (mkT E I R L A Q) c i = mkT ((c, i) :: E) I R L A Q := by
  have e1 : mm_u2 (mem2 E) c i true = mem2 ((c, i) :: E) := by
    funext x y
    rw [mem2_c]
    rfl
  have e3 : (fun (f x : Nat) => if f / 100 = c ∧ x = i then (0 : Int32) else lk3 I 0 f x) = lk3 I 0 := by
    funext f x
    by_cases h : f / 100 = c ∧ x = i
    · rw [if_pos h, h.2, lk3_noC h.1 h2]
    · rw [if_neg h]
  have e4 : (fun (f x : Nat) => if f / 100 = c ∧ x = i then (none : Option Nat) else lk3 R none f x) = lk3 R none := by
    funext f x
    by_cases h : f / 100 = c ∧ x = i
    · rw [if_pos h, h.2, lk3_noC h.1 h3]
    · rw [if_neg h]
  show (mm_u2 (mem2 E) c i true, (fun (f x : Nat) => if f / 100 = c ∧ x = i then (0 : Int32) else lk3 I 0 f x), (fun (f x : Nat) => if f / 100 = c ∧ x = i then (none : Option Nat) else lk3 R none f x), _) = _
  rw [e1, e3, e4]
  rfl
theorem iN {α : Type} {X : Option α} {k i n : Nat} {K : TS → Option α} (h1 : mem2 E k i = false) (h2 : noK A k = true) (h3 : noK Q k = true) (H : K (mkT ((k, i) :: E) I R ((k, i, n) :: L) A Q) = X) : gE (tE (mkT E I R L A Q) k i) (nxt (uN (mkT E I R L A Q) k i n) K) = X := by
  rw [uN_mk h2 h3, show tE (mkT E I R L A Q) k i = false from h1]
  exact H
theorem iO {α : Type} {X : Option α} {c i : Nat} {K : TS → Option α} (h1 : mem2 E c i = false) (h2 : noC I c i = true) (h3 : noC R c i = true) (H : K (mkT ((c, i) :: E) I R L A Q) = X) : gE (tE (mkT E I R L A Q) c i) (nxt (uO (mkT E I R L A Q) c i) K) = X := by
  rw [uO_mk h2 h3, show tE (mkT E I R L A Q) c i = false from h1]
  exact H
theorem iR {α : Type} {X : Option α} {f i : Nat} {v : Option Nat} {K : TS → Option α} (H : K (mkT E I ((f, i, v) :: R) L A Q) = X) : nxt (uR (mkT E I R L A Q) f i v) K = X := by rw [uR_mk]; exact H
theorem iI {α : Type} {X : Option α} {f i : Nat} {v : Int32} {K : TS → Option α} (H : K (mkT E ((f, i, v) :: I) R L A Q) = X) : nxt (uI (mkT E I R L A Q) f i v) K = X := by rw [uI_mk]; exact H
theorem iA {α : Type} {X : Option α} {k j : Nat} {x v : Int32} {K : TS → Option α} (h1 : decide (x < 0 ∨ lk3 L 0 k 0 ≤ x.toNatClampNeg) = false) (hj : x.toNatClampNeg = j) (H : K (mkT E I R L ((k, j, v) :: A) Q) = X) : gd x (tL (mkT E I R L A Q) k 0) (nxt (uA (mkT E I R L A Q) k 0 x.toNatClampNeg v) K) = X := by
  rw [hj, uA_mk]
  unfold gd
  rw [show tL (mkT E I R L A Q) k 0 = lk3 L 0 k 0 from rfl, if_neg (of_decide_eq_false h1)]
  exact H
theorem iF {α : Type} {X : Option α} {F : Option TS} {t' : TS} {K : TS → Option α} (h : F = some t') (H : K t' = X) : Option.bind F K = X := by rw [h]; exact H
theorem iT {α : Type} {X : Option α} {f i : Nat} {o : Option Nat} {K : Option Nat → Option α} (h : lk3 R none f i = o) (H : K o = X) : nxt (tR (mkT E I R L A Q) f i) K = X := by rw [show tR (mkT E I R L A Q) f i = o from h]; exact H
theorem iC {α : Type} {X : Option α} {j : Nat} {a : Option α} {g : Nat → Option α} (H : g j = X) : oc (some j) a g = X := H
theorem x0_eq (hE2000 : mem2 E 2000 0 = false) (hA2000 : noK A 2000 = true) (hQ2000 : noK Q 2000 = true) : F_X0_init (mkT E I R L A Q) = some (mkT ((2000, 0) :: E) (I) ((0, 0, some 0) :: R) ((2000, 0, 24) :: L) A Q) := by
  unfold F_X0_init
  refine iN hE2000 hA2000 hQ2000 ?_
  refine iR ?_
  rfl
theorem x2_eq (hE2200 : mem2 E 2200 0 = false) (hA2200 : noK A 2200 = true) (hQ2200 : noK Q 2200 = true) (hE2201 : mem2 E 2201 0 = false) (hA2201 : noK A 2201 = true) (hQ2201 : noK Q 2201 = true) (hE2202 : mem2 E 2202 0 = false) (hA2202 : noK A 2202 = true) (hQ2202 : noK Q 2202 = true) (hE2203 : mem2 E 2203 0 = false) (hA2203 : noK A 2203 = true) (hQ2203 : noK Q 2203 = true) : F_X2_init (mkT E I R L A Q) = some (mkT ((2203, 0) :: (2202, 0) :: (2201, 0) :: (2200, 0) :: E) (I) ((203, 0, some 0) :: (202, 0, some 0) :: (201, 0, some 0) :: (200, 0, some 0) :: R) ((2203, 0, 10) :: (2202, 0, 10) :: (2201, 0, 10) :: (2200, 0, 10) :: L) A Q) := by
  unfold F_X2_init
  refine iN hE2200 hA2200 hQ2200 ?_
  refine iR ?_
  refine iN hE2201 hA2201 hQ2201 ?_
  refine iR ?_
  refine iN hE2202 hA2202 hQ2202 ?_
  refine iR ?_
  refine iN hE2203 hA2203 hQ2203 ?_
  refine iR ?_
  rfl
theorem x3_eq (hE2300 : mem2 E 2300 0 = false) (hA2300 : noK A 2300 = true) (hQ2300 : noK Q 2300 = true) (hE2301 : mem2 E 2301 0 = false) (hA2301 : noK A 2301 = true) (hQ2301 : noK Q 2301 = true) (hE2303 : mem2 E 2303 0 = false) (hA2303 : noK A 2303 = true) (hQ2303 : noK Q 2303 = true) (hE2305 : mem2 E 2305 0 = false) (hA2305 : noK A 2305 = true) (hQ2305 : noK Q 2305 = true) : F_X3_init (mkT E I R L A Q) = some (mkT ((2305, 0) :: (2303, 0) :: (2301, 0) :: (2300, 0) :: E) (I) ((305, 0, some 0) :: (303, 0, some 0) :: (301, 0, some 0) :: (300, 0, some 0) :: R) ((2305, 0, 12) :: (2303, 0, 12) :: (2301, 0, 12) :: (2300, 0, 12) :: L) A Q) := by
  unfold F_X3_init
  refine iN hE2300 hA2300 hQ2300 ?_
  refine iR ?_
  refine iN hE2301 hA2301 hQ2301 ?_
  refine iR ?_
  refine iN hE2303 hA2303 hQ2303 ?_
  refine iR ?_
  refine iN hE2305 hA2305 hQ2305 ?_
  refine iR ?_
  rfl
theorem x4_eq (hE2400 : mem2 E 2400 0 = false) (hA2400 : noK A 2400 = true) (hQ2400 : noK Q 2400 = true) (hE2401 : mem2 E 2401 0 = false) (hA2401 : noK A 2401 = true) (hQ2401 : noK Q 2401 = true) (hE2402 : mem2 E 2402 0 = false) (hA2402 : noK A 2402 = true) (hQ2402 : noK Q 2402 = true) (hE2403 : mem2 E 2403 0 = false) (hA2403 : noK A 2403 = true) (hQ2403 : noK Q 2403 = true) (hE2404 : mem2 E 2404 0 = false) (hA2404 : noK A 2404 = true) (hQ2404 : noK Q 2404 = true) : F_X4_init (mkT E I R L A Q) = some (mkT ((2404, 0) :: (2403, 0) :: (2402, 0) :: (2401, 0) :: (2400, 0) :: E) (I) ((404, 0, some 0) :: (403, 0, some 0) :: (402, 0, some 0) :: (401, 0, some 0) :: (400, 0, some 0) :: R) ((2404, 0, 6) :: (2403, 0, 6) :: (2402, 0, 6) :: (2401, 0, 6) :: (2400, 0, 6) :: L) A Q) := by
  unfold F_X4_init
  refine iN hE2400 hA2400 hQ2400 ?_
  refine iR ?_
  refine iN hE2401 hA2401 hQ2401 ?_
  refine iR ?_
  refine iN hE2402 hA2402 hQ2402 ?_
  refine iR ?_
  refine iN hE2403 hA2403 hQ2403 ?_
  refine iR ?_
  refine iN hE2404 hA2404 hQ2404 ?_
  refine iR ?_
  rfl
theorem x7_eq (hE2700 : mem2 E 2700 0 = false) (hA2700 : noK A 2700 = true) (hQ2700 : noK Q 2700 = true) (hE2702 : mem2 E 2702 0 = false) (hA2702 : noK A 2702 = true) (hQ2702 : noK Q 2702 = true) : F_X7_init (mkT E I R L A Q) = some (mkT ((2702, 0) :: (2700, 0) :: E) (I) ((704, 0, some 0) :: (702, 0, some 0) :: (700, 0, some 0) :: R) ((2702, 0, 12) :: (2700, 0, 160) :: L) A Q) := by
  unfold F_X7_init
  refine iN hE2700 hA2700 hQ2700 ?_
  refine iR ?_
  refine iN hE2702 hA2702 hQ2702 ?_
  refine iR ?_
  refine iT rfl ?_
  refine iR ?_
  rfl
theorem x8_eq (hE2800 : mem2 E 2800 0 = false) (hA2800 : noK A 2800 = true) (hQ2800 : noK Q 2800 = true) (hE2802 : mem2 E 2802 0 = false) (hA2802 : noK A 2802 = true) (hQ2802 : noK Q 2802 = true) (hE2804 : mem2 E 2804 0 = false) (hA2804 : noK A 2804 = true) (hQ2804 : noK Q 2804 = true) : F_X8_init (mkT E I R L A Q) = some (mkT ((2804, 0) :: (2802, 0) :: (2800, 0) :: E) (I) ((804, 0, some 0) :: (802, 0, some 0) :: (800, 0, some 0) :: R) ((2804, 0, 256) :: (2802, 0, 8) :: (2800, 0, 8) :: L) A Q) := by
  unfold F_X8_init
  refine iN hE2800 hA2800 hQ2800 ?_
  refine iR ?_
  refine iN hE2802 hA2802 hQ2802 ?_
  refine iR ?_
  refine iN hE2804 hA2804 hQ2804 ?_
  refine iR ?_
  rfl
theorem x5_eq (i0 : Nat) (hE2500 : mem2 E 2500 i0 = false) (hA2500 : noK A 2500 = true) (hQ2500 : noK Q 2500 = true) (hE2501 : mem2 E 2501 i0 = false) (hA2501 : noK A 2501 = true) (hQ2501 : noK Q 2501 = true) : F_X5_init (mkT E I R L A Q) i0 = some (mkT ((2501, i0) :: (2500, i0) :: E) ((503, i0, 1439) :: I) ((501, i0, some i0) :: (500, i0, some i0) :: R) ((2501, i0, 6) :: (2500, i0, 6) :: L) A Q) := by
  unfold F_X5_init
  refine iN hE2500 hA2500 hQ2500 ?_
  refine iR ?_
  refine iN hE2501 hA2501 hQ2501 ?_
  refine iR ?_
  refine iI ?_
  rfl
theorem x10_eq (i0 : Nat) (hE3004 : mem2 E 3004 i0 = false) (hA3004 : noK A 3004 = true) (hQ3004 : noK Q 3004 = true) : F_X10_init (mkT E I R L A Q) i0 = some (mkT ((3004, i0) :: E) (I) ((1004, i0, some i0) :: R) ((3004, i0, 60) :: L) A Q) := by
  unfold F_X10_init
  refine iN hE3004 hA3004 hQ3004 ?_
  refine iR ?_
  rfl
/-- one league, one shelf -/
theorem t5_eq (k : TS → Int32 → Option TS) {i : Nat} (hi : i < 4) (hR : lk3 R none 1202 0 = some 0) (hL : lk3 L 0 3202 0 = 4) (h1 : mem2 E 5 i = false) (h2 : noC I 5 i = true) (h3 : noC R 5 i = true) (hE1 : mem2 E 2500 i = false) (hE2 : mem2 E 2501 i = false) (hA1 : noK A 2500 = true) (hA2 : noK A 2501 = true) (hQ1 : noK Q 2500 = true) (hQ2 : noK Q 2501 = true) : BB_X12_init_142 k (mkT E I R L A Q) (nt i) = k (mkT ((2501, i) :: (2500, i) :: (5, i) :: E) ((503, i, 1439) :: I) ((501, i, some i) :: (500, i, some i) :: R) ((2501, i, 6) :: (2500, i, 6) :: L) A ((3202, i, some i) :: Q)) (nt (i + 1)) := by
  unfold BB_X12_init_142
  refine iT hR ?_
  refine iC ?_
  rw [show tL (mkT E I R L A Q) 3202 0 = 4 from hL, show Int32.ofNat 4 = nt 4 from rfl, igE (by omega) (by omega), if_neg (by omega), nt_cl (by omega)]
  refine iT hR ?_
  refine iO h1 h2 h3 ?_
  refine iF (x5_eq i (by rw [mem2_c, if_neg (by decide)]; exact hE1) hA1 hQ1 (by rw [mem2_c, if_neg (by decide)]; exact hE2) hA2 hQ2) ?_
  refine iC ?_
  have hl : ∀ I' R' E', tL (mkT E' I' R' ((2501, i, 6) :: (2500, i, 6) :: L) A Q) 3202 0 = 4 := fun I' R' E' => by
    show lk3 ((2501, i, 6) :: (2500, i, 6) :: L) 0 3202 0 = 4
    rw [lk3_c, if_neg (by decide), lk3_c, if_neg (by decide)]; exact hL
  rw [hl, gd_nt _ (by omega) (by omega), uQ_mk, nxt_e, nt_succ]
theorem t10_eq (k : TS → Int32 → Option TS) {i : Nat} (hi : i < 6) (hR : lk3 R none 1219 0 = some 0) (hL : lk3 L 0 3219 0 = 6) (h1 : mem2 E 10 i = false) (h2 : noC I 10 i = true) (h3 : noC R 10 i = true) (hE1 : mem2 E 3004 i = false) (hA1 : noK A 3004 = true) (hQ1 : noK Q 3004 = true) : BB_X12_init_172 k (mkT E I R L A Q) (nt i) = k (mkT ((3004, i) :: (10, i) :: E) I ((1004, i, some i) :: R) ((3004, i, 60) :: L) A ((3219, i, some i) :: Q)) (nt (i + 1)) := by
  unfold BB_X12_init_172
  refine iT hR ?_
  refine iC ?_
  rw [show tL (mkT E I R L A Q) 3219 0 = 6 from hL, show Int32.ofNat 6 = nt 6 from rfl, igE (by omega) (by omega), if_neg (by omega), nt_cl (by omega)]
  refine iT hR ?_
  refine iO h1 h2 h3 ?_
  refine iF (x10_eq i (by rw [mem2_c, if_neg (by decide)]; exact hE1) hA1 hQ1) ?_
  refine iC ?_
  have hl : ∀ I' R' E', tL (mkT E' I' R' ((3004, i, 60) :: L) A Q) 3219 0 = 6 := fun I' R' E' => by
    show lk3 ((3004, i, 60) :: L) 0 3219 0 = 6
    rw [lk3_c, if_neg (by decide)]; exact hL
  rw [hl, gd_nt _ (by omega) (by omega), uQ_mk, nxt_e, nt_succ]
theorem t5_end (k : TS → Int32 → Option TS) (hR : lk3 R none 1202 0 = some 0) (hL : lk3 L 0 3202 0 = 4) : BB_X12_init_142 k (mkT E I R L A Q) (nt 4) = B_X12_init_170 (mkT E I R L A Q) := by
  unfold BB_X12_init_142
  refine iT hR ?_
  refine iC ?_
  rw [show tL (mkT E I R L A Q) 3202 0 = 4 from hL, show Int32.ofNat 4 = nt 4 from rfl, igE (by omega) (by omega), if_pos (by omega)]
theorem t10_end (k : TS → Int32 → Option TS) (hR : lk3 R none 1219 0 = some 0) (hL : lk3 L 0 3219 0 = 6) : BB_X12_init_172 k (mkT E I R L A Q) (nt 6) = B_X12_init_200 (mkT E I R L A Q) := by
  unfold BB_X12_init_172
  refine iT hR ?_
  refine iC ?_
  rw [show tL (mkT E I R L A Q) 3219 0 = 6 from hL, show Int32.ofNat 6 = nt 6 from rfl, igE (by omega) (by omega), if_pos (by omega)]
end
def e_c1 : List (Nat × Nat) := [(3004, 5), (10, 5), (3004, 4), (10, 4), (3004, 3), (10, 3), (3004, 2), (10, 2), (3004, 1), (10, 1), (3004, 0), (10, 0), (2501, 3), (2500, 3), (5, 3), (2501, 2), (2500, 2), (5, 2), (2501, 1), (2500, 1), (5, 1), (2501, 0), (2500, 0), (5, 0), (3219, 0), (2000, 0), (0, 0), (2305, 0), (2303, 0), (2301, 0), (2300, 0), (3, 0), (2203, 0), (2202, 0), (2201, 0), (2200, 0), (2, 0), (2804, 0), (2802, 0), (2800, 0), (8, 0), (2404, 0), (2403, 0), (2402, 0), (2401, 0), (2400, 0), (4, 0), (2702, 0), (2700, 0), (7, 0), (3211, 0), (3210, 0), (3209, 0), (3208, 0), (3206, 0), (3203, 0), (3202, 0), (12, 0)]
def i_c1 : List (Nat × Nat × Int32) := [(503, 3, 1439), (503, 2, 1439), (503, 1, 1439), (503, 0, 1439)]
def r_c1 : List (Nat × Nat × Option Nat) := [(1004, 5, some 5), (1004, 4, some 4), (1004, 3, some 3), (1004, 2, some 2), (1004, 1, some 1), (1004, 0, some 0), (501, 3, some 3), (500, 3, some 3), (501, 2, some 2), (500, 2, some 2), (501, 1, some 1), (500, 1, some 1), (501, 0, some 0), (500, 0, some 0), (1219, 0, some 0), (1218, 0, some 0), (0, 0, some 0), (1217, 0, some 0), (305, 0, some 0), (303, 0, some 0), (301, 0, some 0), (300, 0, some 0), (1216, 0, some 0), (203, 0, some 0), (202, 0, some 0), (201, 0, some 0), (200, 0, some 0), (1215, 0, some 0), (804, 0, some 0), (802, 0, some 0), (800, 0, some 0), (1214, 0, some 0), (404, 0, some 0), (403, 0, some 0), (402, 0, some 0), (401, 0, some 0), (400, 0, some 0), (1213, 0, some 0), (704, 0, some 0), (702, 0, some 0), (700, 0, some 0), (1211, 0, some 0), (1210, 0, some 0), (1209, 0, some 0), (1208, 0, some 0), (1206, 0, some 0), (1203, 0, some 0), (1202, 0, some 0)]
def l_c1 : List (Nat × Nat × Nat) := [(3004, 5, 60), (3004, 4, 60), (3004, 3, 60), (3004, 2, 60), (3004, 1, 60), (3004, 0, 60), (2501, 3, 6), (2500, 3, 6), (2501, 2, 6), (2500, 2, 6), (2501, 1, 6), (2500, 1, 6), (2501, 0, 6), (2500, 0, 6), (3219, 0, 6), (2000, 0, 24), (2305, 0, 12), (2303, 0, 12), (2301, 0, 12), (2300, 0, 12), (2203, 0, 10), (2202, 0, 10), (2201, 0, 10), (2200, 0, 10), (2804, 0, 256), (2802, 0, 8), (2800, 0, 8), (2404, 0, 6), (2403, 0, 6), (2402, 0, 6), (2401, 0, 6), (2400, 0, 6), (2702, 0, 12), (2700, 0, 160), (3211, 0, 16), (3210, 0, 4), (3209, 0, 150), (3208, 0, 9), (3206, 0, 200), (3203, 0, 150), (3202, 0, 4)]
def a_c1 : List (Nat × Nat × Int32) := [(3208, 6, 1), (3208, 3, 1)]
def q_c1 : List (Nat × Nat × Option Nat) := [(3219, 5, some 5), (3219, 4, some 4), (3219, 3, some 3), (3219, 2, some 2), (3219, 1, some 1), (3219, 0, some 0), (3202, 3, some 3), (3202, 2, some 2), (3202, 1, some 1), (3202, 0, some 0)]
set_option maxRecDepth 4000 in
theorem x12_fin : F_X12_init (mkT [(12, 0)] [] [] [] [] []) = some (mkT e_c1 i_c1 r_c1 l_c1 a_c1 q_c1) := by
  unfold F_X12_init
  refine iN rfl rfl rfl ?_
  refine iR ?_
  refine iN rfl rfl rfl ?_
  refine iR ?_
  refine iN rfl rfl rfl ?_
  refine iR ?_
  refine iN rfl rfl rfl ?_
  refine iR ?_
  refine iN rfl rfl rfl ?_
  refine iR ?_
  refine iN rfl rfl rfl ?_
  refine iR ?_
  refine iN rfl rfl rfl ?_
  refine iR ?_
  refine iO rfl rfl rfl ?_
  refine iF (x7_eq rfl rfl rfl rfl rfl rfl) ?_
  refine iR ?_
  unfold B_X12_init_76
  refine iO rfl rfl rfl ?_
  refine iF (x4_eq rfl rfl rfl rfl rfl rfl rfl rfl rfl rfl rfl rfl rfl rfl rfl) ?_
  refine iR ?_
  refine iO rfl rfl rfl ?_
  refine iF (x8_eq rfl rfl rfl rfl rfl rfl rfl rfl rfl) ?_
  refine iR ?_
  refine iO rfl rfl rfl ?_
  refine iF (x2_eq rfl rfl rfl rfl rfl rfl rfl rfl rfl rfl rfl rfl) ?_
  refine iR ?_
  refine iO rfl rfl rfl ?_
  refine iF (x3_eq rfl rfl rfl rfl rfl rfl rfl rfl rfl rfl rfl rfl) ?_
  refine iR ?_
  refine iO rfl rfl rfl ?_
  refine iF (x0_eq rfl rfl rfl) ?_
  refine iR ?_
  refine iN rfl rfl rfl ?_
  refine iR ?_
  refine (show B_X12_init_142 6 _ (nt 0) = BB_X12_init_142 (B_X12_init_142 5) _ (nt 0) from rfl).trans ?_
  refine (t5_eq _ (by decide) rfl rfl rfl rfl rfl rfl rfl rfl rfl rfl rfl).trans ?_
  refine (show B_X12_init_142 5 _ (nt 1) = BB_X12_init_142 (B_X12_init_142 4) _ (nt 1) from rfl).trans ?_
  refine (t5_eq _ (by decide) rfl rfl rfl rfl rfl rfl rfl rfl rfl rfl rfl).trans ?_
  refine (show B_X12_init_142 4 _ (nt 2) = BB_X12_init_142 (B_X12_init_142 3) _ (nt 2) from rfl).trans ?_
  refine (t5_eq _ (by decide) rfl rfl rfl rfl rfl rfl rfl rfl rfl rfl rfl).trans ?_
  refine (show B_X12_init_142 3 _ (nt 3) = BB_X12_init_142 (B_X12_init_142 2) _ (nt 3) from rfl).trans ?_
  refine (t5_eq _ (by decide) rfl rfl rfl rfl rfl rfl rfl rfl rfl rfl rfl).trans ?_
  refine (show B_X12_init_142 2 _ (nt 4) = BB_X12_init_142 (B_X12_init_142 1) _ (nt 4) from rfl).trans ?_
  refine (t5_end _ rfl rfl).trans ?_
  unfold B_X12_init_170
  refine (show B_X12_init_172 8 _ (nt 0) = BB_X12_init_172 (B_X12_init_172 7) _ (nt 0) from rfl).trans ?_
  refine (t10_eq _ (by decide) rfl rfl rfl rfl rfl rfl rfl rfl).trans ?_
  refine (show B_X12_init_172 7 _ (nt 1) = BB_X12_init_172 (B_X12_init_172 6) _ (nt 1) from rfl).trans ?_
  refine (t10_eq _ (by decide) rfl rfl rfl rfl rfl rfl rfl rfl).trans ?_
  refine (show B_X12_init_172 6 _ (nt 2) = BB_X12_init_172 (B_X12_init_172 5) _ (nt 2) from rfl).trans ?_
  refine (t10_eq _ (by decide) rfl rfl rfl rfl rfl rfl rfl rfl).trans ?_
  refine (show B_X12_init_172 5 _ (nt 3) = BB_X12_init_172 (B_X12_init_172 4) _ (nt 3) from rfl).trans ?_
  refine (t10_eq _ (by decide) rfl rfl rfl rfl rfl rfl rfl rfl).trans ?_
  refine (show B_X12_init_172 4 _ (nt 4) = BB_X12_init_172 (B_X12_init_172 3) _ (nt 4) from rfl).trans ?_
  refine (t10_eq _ (by decide) rfl rfl rfl rfl rfl rfl rfl rfl).trans ?_
  refine (show B_X12_init_172 3 _ (nt 5) = BB_X12_init_172 (B_X12_init_172 2) _ (nt 5) from rfl).trans ?_
  refine (t10_eq _ (by decide) rfl rfl rfl rfl rfl rfl rfl rfl).trans ?_
  refine (show B_X12_init_172 2 _ (nt 6) = BB_X12_init_172 (B_X12_init_172 1) _ (nt 6) from rfl).trans ?_
  refine (t10_end _ rfl rfl).trans ?_
  unfold B_X12_init_200
  refine iT rfl ?_
  refine iC ?_
  refine iA rfl rfl ?_
  refine iT rfl ?_
  refine iC ?_
  refine iA rfl rfl ?_
  rfl
def e_c2 : List (Nat × Nat) := [(3396, 0), (3395, 0), (3394, 0), (3393, 0), (3392, 0), (3389, 0), (3388, 0), (3387, 0), (3385, 0), (3384, 0), (3383, 0), (3382, 0), (3378, 0), (3377, 0), (3376, 0), (3374, 0), (3373, 0), (3372, 0), (3371, 0), (3369, 0), (3368, 0), (3362, 0), (3361, 0), (3360, 0), (3359, 0), (3358, 0), (3357, 0), (3356, 0), (3353, 0), (3349, 0), (3348, 0), (3347, 0), (3346, 0), (3345, 0), (3344, 0), (3343, 0), (3342, 0), (3341, 0), (3340, 0), (3339, 0), (3338, 0), (3337, 0), (3336, 0), (3335, 0), (3334, 0), (3333, 0), (3332, 0), (3331, 0), (3330, 0), (3329, 0), (3328, 0), (3326, 0), (3325, 0), (3324, 0), (3323, 0), (3322, 0), (3321, 0), (3320, 0), (3319, 0), (3318, 0), (3317, 0), (3315, 0), (3314, 0), (3313, 0), (3312, 0), (3311, 0), (3310, 0), (3309, 0), (3308, 0), (3306, 0), (3305, 0), (3304, 0), (3303, 0), (13, 0), (3004, 5), (10, 5), (3004, 4), (10, 4), (3004, 3), (10, 3), (3004, 2), (10, 2), (3004, 1), (10, 1), (3004, 0), (10, 0), (2501, 3), (2500, 3), (5, 3), (2501, 2), (2500, 2), (5, 2), (2501, 1), (2500, 1), (5, 1), (2501, 0), (2500, 0), (5, 0), (3219, 0), (2000, 0), (0, 0), (2305, 0), (2303, 0), (2301, 0), (2300, 0), (3, 0), (2203, 0), (2202, 0), (2201, 0), (2200, 0), (2, 0), (2804, 0), (2802, 0), (2800, 0), (8, 0), (2404, 0), (2403, 0), (2402, 0), (2401, 0), (2400, 0), (4, 0), (2702, 0), (2700, 0), (7, 0), (3211, 0), (3210, 0), (3209, 0), (3208, 0), (3206, 0), (3203, 0), (3202, 0), (12, 0)]
def i_c2 : List (Nat × Nat × Int32) := [(1390, 0, (-1)), (1379, 0, (-1)), (503, 3, 1439), (503, 2, 1439), (503, 1, 1439), (503, 0, 1439)]
def r_c2 : List (Nat × Nat × Option Nat) := [(1396, 0, some 0), (1395, 0, some 0), (1394, 0, some 0), (1393, 0, some 0), (1392, 0, some 0), (1389, 0, some 0), (1388, 0, some 0), (1387, 0, some 0), (1385, 0, some 0), (1384, 0, some 0), (1383, 0, some 0), (1382, 0, some 0), (1378, 0, some 0), (1377, 0, some 0), (1376, 0, some 0), (1374, 0, some 0), (1373, 0, some 0), (1372, 0, some 0), (1371, 0, some 0), (1369, 0, some 0), (1368, 0, some 0), (1362, 0, some 0), (1361, 0, some 0), (1360, 0, some 0), (1359, 0, some 0), (1358, 0, some 0), (1357, 0, some 0), (1356, 0, some 0), (1353, 0, some 0), (1349, 0, some 0), (1348, 0, some 0), (1347, 0, some 0), (1346, 0, some 0), (1345, 0, some 0), (1344, 0, some 0), (1343, 0, some 0), (1342, 0, some 0), (1341, 0, some 0), (1340, 0, some 0), (1339, 0, some 0), (1338, 0, some 0), (1337, 0, some 0), (1336, 0, some 0), (1335, 0, some 0), (1334, 0, some 0), (1333, 0, some 0), (1332, 0, some 0), (1331, 0, some 0), (1330, 0, some 0), (1329, 0, some 0), (1328, 0, some 0), (1326, 0, some 0), (1325, 0, some 0), (1324, 0, some 0), (1323, 0, some 0), (1322, 0, some 0), (1321, 0, some 0), (1320, 0, some 0), (1319, 0, some 0), (1318, 0, some 0), (1317, 0, some 0), (1315, 0, some 0), (1314, 0, some 0), (1313, 0, some 0), (1312, 0, some 0), (1311, 0, some 0), (1310, 0, some 0), (1309, 0, some 0), (1308, 0, some 0), (1306, 0, some 0), (1305, 0, some 0), (1304, 0, some 0), (1303, 0, some 0), (1004, 5, some 5), (1004, 4, some 4), (1004, 3, some 3), (1004, 2, some 2), (1004, 1, some 1), (1004, 0, some 0), (501, 3, some 3), (500, 3, some 3), (501, 2, some 2), (500, 2, some 2), (501, 1, some 1), (500, 1, some 1), (501, 0, some 0), (500, 0, some 0), (1219, 0, some 0), (1218, 0, some 0), (0, 0, some 0), (1217, 0, some 0), (305, 0, some 0), (303, 0, some 0), (301, 0, some 0), (300, 0, some 0), (1216, 0, some 0), (203, 0, some 0), (202, 0, some 0), (201, 0, some 0), (200, 0, some 0), (1215, 0, some 0), (804, 0, some 0), (802, 0, some 0), (800, 0, some 0), (1214, 0, some 0), (404, 0, some 0), (403, 0, some 0), (402, 0, some 0), (401, 0, some 0), (400, 0, some 0), (1213, 0, some 0), (704, 0, some 0), (702, 0, some 0), (700, 0, some 0), (1211, 0, some 0), (1210, 0, some 0), (1209, 0, some 0), (1208, 0, some 0), (1206, 0, some 0), (1203, 0, some 0), (1202, 0, some 0)]
def l_c2 : List (Nat × Nat × Nat) := [(3396, 0, 60), (3395, 0, 360), (3394, 0, 6), (3393, 0, 6), (3392, 0, 24), (3389, 0, 12), (3388, 0, 12), (3387, 0, 12), (3385, 0, 10), (3384, 0, 10), (3383, 0, 10), (3382, 0, 10), (3378, 0, 8), (3377, 0, 8), (3376, 0, 8), (3374, 0, 6), (3373, 0, 6), (3372, 0, 6), (3371, 0, 6), (3369, 0, 200), (3368, 0, 12), (3362, 0, 3400), (3361, 0, 3400), (3360, 0, 1530), (3359, 0, 17), (3358, 0, 16), (3357, 0, 16), (3356, 0, 16), (3353, 0, 160), (3349, 0, 9), (3348, 0, 22500), (3347, 0, 30000), (3346, 0, 200), (3345, 0, 200), (3344, 0, 200), (3343, 0, 200), (3342, 0, 200), (3341, 0, 200), (3340, 0, 200), (3339, 0, 200), (3338, 0, 200), (3337, 0, 200), (3336, 0, 200), (3335, 0, 200), (3334, 0, 200), (3333, 0, 200), (3332, 0, 200), (3331, 0, 200), (3330, 0, 200), (3329, 0, 200), (3328, 0, 200), (3326, 0, 600), (3325, 0, 150), (3324, 0, 600), (3323, 0, 600), (3322, 0, 600), (3321, 0, 600), (3320, 0, 600), (3319, 0, 600), (3318, 0, 600), (3317, 0, 600), (3315, 0, 150), (3314, 0, 150), (3313, 0, 150), (3312, 0, 150), (3311, 0, 1500), (3310, 0, 150), (3309, 0, 150), (3308, 0, 150), (3306, 0, 4), (3305, 0, 24), (3304, 0, 24), (3303, 0, 4), (3004, 5, 60), (3004, 4, 60), (3004, 3, 60), (3004, 2, 60), (3004, 1, 60), (3004, 0, 60), (2501, 3, 6), (2500, 3, 6), (2501, 2, 6), (2500, 2, 6), (2501, 1, 6), (2500, 1, 6), (2501, 0, 6), (2500, 0, 6), (3219, 0, 6), (2000, 0, 24), (2305, 0, 12), (2303, 0, 12), (2301, 0, 12), (2300, 0, 12), (2203, 0, 10), (2202, 0, 10), (2201, 0, 10), (2200, 0, 10), (2804, 0, 256), (2802, 0, 8), (2800, 0, 8), (2404, 0, 6), (2403, 0, 6), (2402, 0, 6), (2401, 0, 6), (2400, 0, 6), (2702, 0, 12), (2700, 0, 160), (3211, 0, 16), (3210, 0, 4), (3209, 0, 150), (3208, 0, 9), (3206, 0, 200), (3203, 0, 150), (3202, 0, 4)]
def a_c2 : List (Nat × Nat × Int32) := [(3393, 5, (-1)), (3393, 4, (-1)), (3393, 3, (-1)), (3393, 2, (-1)), (3393, 1, (-1)), (3393, 0, (-1)), (3349, 8, 0), (3349, 7, 0), (3349, 6, 1), (3349, 5, 0), (3349, 4, 0), (3349, 3, 1), (3349, 2, 0), (3349, 1, 0), (3349, 0, 0), (3306, 3, 1439), (3306, 2, 1439), (3306, 1, 1439), (3306, 0, 1439), (3208, 6, 1), (3208, 3, 1)]
def q_c2 : List (Nat × Nat × Option Nat) := [(3219, 5, some 5), (3219, 4, some 4), (3219, 3, some 3), (3219, 2, some 2), (3219, 1, some 1), (3219, 0, some 0), (3202, 3, some 3), (3202, 2, some 2), (3202, 1, some 1), (3202, 0, some 0)]
set_option maxRecDepth 4000 in
theorem x13_fin : F_X13_init (mkT ((13, 0) :: e_c1) i_c1 r_c1 l_c1 a_c1 q_c1) = some (mkT e_c2 i_c2 r_c2 l_c2 a_c2 q_c2) := by
  unfold F_X13_init
  refine iN rfl rfl rfl ?_
  refine iR ?_
  refine iN rfl rfl rfl ?_
  refine iR ?_
  refine iN rfl rfl rfl ?_
  refine iR ?_
  refine iN rfl rfl rfl ?_
  refine iA rfl rfl ?_
  refine iA rfl rfl ?_
  refine iA rfl rfl ?_
  refine iA rfl rfl ?_
  refine iR ?_
  refine iN rfl rfl rfl ?_
  refine iR ?_
  refine iN rfl rfl rfl ?_
  refine iR ?_
  refine iN rfl rfl rfl ?_
  refine iR ?_
  refine iN rfl rfl rfl ?_
  refine iR ?_
  unfold B_X13_init_94
  refine iN rfl rfl rfl ?_
  refine iR ?_
  refine iN rfl rfl rfl ?_
  refine iR ?_
  refine iN rfl rfl rfl ?_
  refine iR ?_
  refine iN rfl rfl rfl ?_
  refine iR ?_
  refine iN rfl rfl rfl ?_
  refine iR ?_
  refine iN rfl rfl rfl ?_
  refine iR ?_
  refine iN rfl rfl rfl ?_
  refine iR ?_
  refine iN rfl rfl rfl ?_
  refine iR ?_
  unfold B_X13_init_166
  refine iN rfl rfl rfl ?_
  refine iR ?_
  refine iN rfl rfl rfl ?_
  refine iR ?_
  refine iN rfl rfl rfl ?_
  refine iR ?_
  refine iN rfl rfl rfl ?_
  refine iR ?_
  refine iN rfl rfl rfl ?_
  refine iR ?_
  refine iN rfl rfl rfl ?_
  refine iR ?_
  refine iN rfl rfl rfl ?_
  refine iR ?_
  refine iN rfl rfl rfl ?_
  refine iR ?_
  unfold B_X13_init_238
  refine iN rfl rfl rfl ?_
  refine iR ?_
  refine iN rfl rfl rfl ?_
  refine iR ?_
  refine iN rfl rfl rfl ?_
  refine iR ?_
  refine iN rfl rfl rfl ?_
  refine iR ?_
  refine iN rfl rfl rfl ?_
  refine iR ?_
  refine iN rfl rfl rfl ?_
  refine iR ?_
  refine iN rfl rfl rfl ?_
  refine iR ?_
  refine iN rfl rfl rfl ?_
  refine iR ?_
  unfold B_X13_init_310
  refine iN rfl rfl rfl ?_
  refine iR ?_
  refine iN rfl rfl rfl ?_
  refine iR ?_
  refine iN rfl rfl rfl ?_
  refine iR ?_
  refine iN rfl rfl rfl ?_
  refine iR ?_
  refine iN rfl rfl rfl ?_
  refine iR ?_
  refine iN rfl rfl rfl ?_
  refine iR ?_
  refine iN rfl rfl rfl ?_
  refine iR ?_
  refine iN rfl rfl rfl ?_
  refine iR ?_
  unfold B_X13_init_382
  refine iN rfl rfl rfl ?_
  refine iR ?_
  refine iN rfl rfl rfl ?_
  refine iR ?_
  refine iN rfl rfl rfl ?_
  refine iR ?_
  refine iN rfl rfl rfl ?_
  refine iA rfl rfl ?_
  refine iA rfl rfl ?_
  refine iA rfl rfl ?_
  refine iA rfl rfl ?_
  refine iA rfl rfl ?_
  refine iA rfl rfl ?_
  refine iA rfl rfl ?_
  refine iA rfl rfl ?_
  refine iA rfl rfl ?_
  refine iR ?_
  refine iN rfl rfl rfl ?_
  refine iR ?_
  refine iN rfl rfl rfl ?_
  refine iR ?_
  refine iN rfl rfl rfl ?_
  refine iR ?_
  refine iN rfl rfl rfl ?_
  refine iR ?_
  unfold B_X13_init_489
  refine iN rfl rfl rfl ?_
  refine iR ?_
  refine iN rfl rfl rfl ?_
  refine iR ?_
  refine iN rfl rfl rfl ?_
  refine iR ?_
  refine iN rfl rfl rfl ?_
  refine iR ?_
  refine iN rfl rfl rfl ?_
  refine iR ?_
  refine iN rfl rfl rfl ?_
  refine iR ?_
  refine iN rfl rfl rfl ?_
  refine iR ?_
  refine iN rfl rfl rfl ?_
  refine iR ?_
  unfold B_X13_init_557
  refine iN rfl rfl rfl ?_
  refine iR ?_
  refine iN rfl rfl rfl ?_
  refine iR ?_
  refine iN rfl rfl rfl ?_
  refine iR ?_
  refine iN rfl rfl rfl ?_
  refine iR ?_
  refine iN rfl rfl rfl ?_
  refine iR ?_
  refine iI ?_
  refine iN rfl rfl rfl ?_
  refine iR ?_
  refine iN rfl rfl rfl ?_
  refine iR ?_
  unfold B_X13_init_618
  refine iN rfl rfl rfl ?_
  refine iR ?_
  refine iN rfl rfl rfl ?_
  refine iR ?_
  refine iN rfl rfl rfl ?_
  refine iR ?_
  refine iN rfl rfl rfl ?_
  refine iR ?_
  refine iN rfl rfl rfl ?_
  refine iR ?_
  refine iI ?_
  refine iN rfl rfl rfl ?_
  refine iR ?_
  refine iN rfl rfl rfl ?_
  refine iA rfl rfl ?_
  refine iA rfl rfl ?_
  refine iA rfl rfl ?_
  refine iA rfl rfl ?_
  refine iA rfl rfl ?_
  refine iA rfl rfl ?_
  refine iR ?_
  unfold B_X13_init_703
  refine iN rfl rfl rfl ?_
  refine iR ?_
  refine iN rfl rfl rfl ?_
  refine iR ?_
  refine iN rfl rfl rfl ?_
  refine iR ?_
  rfl
