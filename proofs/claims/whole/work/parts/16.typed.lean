/-! PART 16: a typed heap: cells are known by a key (class number; 2000 and a field's number: the arrays that it holds; 5000 on: what nobody writes) and an index, not by addresses. 'RV' says that a heap of the small machine is such a one, with a frame that is left alone. 'nX', 'nC': runs and calls as the typed heap sees them. -/
abbrev NV : Type := Int32 ⊕ (Int64 ⊕ Option (Nat × Nat))
abbrev eI (x : Int32) : NV := Sum.inl x
abbrev eJ (x : Int64) : NV := Sum.inr (Sum.inl x)
abbrev eR (o : Option (Nat × Nat)) : NV := Sum.inr (Sum.inr o)
abbrev eO (c : Nat) (o : Option Nat) : NV := eR (o.map (fun i => (c, i)))
/-- existing cells; int fields, reference fields by field and index; lengths, contents of int, long and reference arrays by key and index -/
abbrev TS : Type := (Nat → Nat → Bool) × (Nat → Nat → Int32) × (Nat → Nat → Option Nat) × (Nat → Nat → Nat) × (Nat → Nat → Nat → Int32) × (Nat → Nat → Nat → Int64) × (Nat → Nat → Nat → Option Nat)
abbrev tE (t : TS) : Nat → Nat → Bool := t.1
abbrev tI (t : TS) : Nat → Nat → Int32 := t.2.1
abbrev tR (t : TS) : Nat → Nat → Option Nat := t.2.2.1
abbrev tL (t : TS) : Nat → Nat → Nat := t.2.2.2.1
abbrev tA (t : TS) : Nat → Nat → Nat → Int32 := t.2.2.2.2.1
abbrev tJ (t : TS) : Nat → Nat → Nat → Int64 := t.2.2.2.2.2.1
abbrev tQ (t : TS) : Nat → Nat → Nat → Option Nat := t.2.2.2.2.2.2
def mm_u3 {α : Type} (f : Nat → Nat → Nat → α) (a b c : Nat) (v : α) : Nat → Nat → Nat → α := fun x y w => if x = a then (if y = b then (if w = c then v else f x y w) else f x y w) else f x y w
def uI (t : TS) (f i : Nat) (v : Int32) : TS := (tE t, mm_u2 (tI t) f i v, tR t, tL t, tA t, tJ t, tQ t)
def uR (t : TS) (f i : Nat) (v : Option Nat) : TS := (tE t, tI t, mm_u2 (tR t) f i v, tL t, tA t, tJ t, tQ t)
def uA (t : TS) (k i j : Nat) (v : Int32) : TS := (tE t, tI t, tR t, tL t, mm_u3 (tA t) k i j v, tJ t, tQ t)
def uJ (t : TS) (k i j : Nat) (v : Int64) : TS := (tE t, tI t, tR t, tL t, tA t, mm_u3 (tJ t) k i j v, tQ t)
def uQ (t : TS) (k i j : Nat) (v : Option Nat) : TS := (tE t, tI t, tR t, tL t, tA t, tJ t, mm_u3 (tQ t) k i j v)
def uO (t : TS) (c i : Nat) : TS := (mm_u2 (tE t) c i true, (fun f x => if f / 100 = c ∧ x = i then 0 else tI t f x), (fun f x => if f / 100 = c ∧ x = i then none else tR t f x), tL t, tA t, tJ t, tQ t)
def uN (t : TS) (k i n : Nat) : TS := (mm_u2 (tE t) k i true, tI t, tR t, mm_u2 (tL t) k i n, (fun x y j => if x = k ∧ y = i then 0 else tA t x y j), (fun x y j => if x = k ∧ y = i then 0 else tJ t x y j), (fun x y j => if x = k ∧ y = i then none else tQ t x y j))
def uCA (t : TS) (k i : Nat) (si : Nat) (k2 i2 : Nat) (di n : Nat) : TS := (tE t, tI t, tR t, tL t, (fun x y => if x = k2 ∧ y = i2 then va_cpy (tA t k i) (tA t k2 i2) si di n else tA t x y), tJ t, tQ t)
def uCJ (t : TS) (k i : Nat) (si : Nat) (k2 i2 : Nat) (di n : Nat) : TS := (tE t, tI t, tR t, tL t, tA t, (fun x y => if x = k2 ∧ y = i2 then va_cpy (tJ t k i) (tJ t k2 i2) si di n else tJ t x y), tQ t)
/-- the kind of a key's cells; what a reference field leads to; what a reference array holds -/
def nk (k : Nat) : Nat := match k with
  | 2700 => 21
  | 3353 => 21
  | 3315 => 22
  | 3333 => 22
  | 3334 => 22
  | 3004 => 23
  | 3395 => 23
  | 3396 => 23
  | 3202 => 24
  | 3203 => 25
  | 2400 => 25
  | 2401 => 25
  | 2402 => 25
  | 3206 => 26
  | 3211 => 27
  | 3219 => 28
  | _ => bif Nat.blt k 20 then k + 1 else 20
def tk (f : Nat) : Nat := match f with
  | 107 => 1
  | 109 => 11
  | 110 => 11
  | 601 => 1
  | 602 => 1
  | 603 => 1
  | 612 => 1
  | 607 => 11
  | 700 => 2700
  | 704 => 2700
  | 903 => 2700
  | 1001 => 1
  | 1101 => 1
  | 1107 => 6
  | 1108 => 11
  | 1213 => 7
  | 1214 => 4
  | 1215 => 8
  | 1216 => 2
  | 1217 => 3
  | 1218 => 0
  | _ => 2000 + f
abbrev ek (k : Nat) : Nat := mm_comp (nk k)
/-- a world: the small machine's constants; addresses that are left alone, and their heap; fields that never change -/
abbrev NW : Type := Rm × (Nat → Prop) × Hp × (Nat → Bool)
def hp_same (h h' : Hp) (a : Nat) : Prop := hp_K h a = hp_K h' a ∧ (∀ f, hp_I h f a = hp_I h' f a) ∧ (∀ f, hp_R h f a = hp_R h' f a) ∧ hp_L h a = hp_L h' a ∧ (∀ j, hp_A h a j = hp_A h' a j) ∧ (∀ j, hp_J h a j = hp_J h' a j) ∧ (∀ j, hp_Q h a j = hp_Q h' a j)
def RLk (W : NW) (ad : Nat → Nat → Nat) (t : TS) (hs : Nat) (h : Hp) : Prop := ∀ k i, tE t k i = true → k < 5000 ∧ ad k i < hs ∧ hp_K h (ad k i) = nk k ∧ ¬ W.2.1 (ad k i)
def RLi (ad : Nat → Nat → Nat) (t : TS) : Prop := ∀ k i k' i', tE t k i = true → tE t k' i' = true → ad k i = ad k' i' → k = k' ∧ i = i'
def RLf (ad : Nat → Nat → Nat) (t : TS) (h : Hp) : Prop := ∀ f i, f < 2000 → tE t (f / 100) i = true → hp_I h f (ad (f / 100) i) = tI t f i ∧ hp_R h f (ad (f / 100) i) = (tR t f i).map (ad (tk f)) ∧ ∀ j, tR t f i = some j → tE t (tk f) j = true
def RLa (ad : Nat → Nat → Nat) (t : TS) (h : Hp) : Prop := ∀ k i, 2000 ≤ k → tE t k i = true → hp_L h (ad k i) = tL t k i ∧ ∀ j, hp_A h (ad k i) j = tA t k i j ∧ hp_J h (ad k i) j = tJ t k i j ∧ hp_Q h (ad k i) j = (tQ t k i j).map (ad (ek k)) ∧ ∀ b, tQ t k i j = some b → tE t (ek k) b = true
def RLw (W : NW) (hs : Nat) (h : Hp) : Prop := ∀ a, W.2.1 a → a < hs ∧ hp_same h W.2.2.1 a
def RLz (W : NW) (ad : Nat → Nat → Nat) : Prop := (∀ s, ad (5000 + s) 0 = W.1.2 s) ∧ ∀ i, i < 5 → ∃ f, W.1.1 (W.1.2 i) = some ((mm_sv i).length, f) ∧ ∀ j, j < (mm_sv i).length → f j = (mm_sv i).getD j 0
def RLx (W : NW) (t : TS) : Prop := ∀ f i, W.2.2.2 f = true → tR t f i = some i
def RV (W : NW) (ad : Nat → Nat → Nat) (t : TS) (hs : Nat) (h : Hp) : Prop := RLk W ad t hs h ∧ RLi ad t ∧ RLf ad t h ∧ RLa ad t h ∧ RLw W hs h ∧ RLz W ad ∧ RLx W t
section
variable {W : NW} {ad : Nat → Nat → Nat} {t : TS} {hs : Nat} {h : Hp}
theorem RV_ne (hR : RV W ad t hs h) {k i k' i' : Nat} (h1 : tE t k i = true) (h2 : tE t k' i' = true) : ad k i = ad k' i' ↔ k = k' ∧ i = i' := ⟨hR.2.1 _ _ _ _ h1 h2, fun g => by rw [g.1, g.2]⟩
theorem RV_setI (hR : RV W ad t hs h) {f i : Nat} (v : Int32) (hE : tE t (f / 100) i = true) : RV W ad (uI t f i v) hs (hp_setI h f (ad (f / 100) i) v) := by
  obtain ⟨r1, r2, r3, r4, r5, r6, r7⟩ := hR
  refine ⟨r1, r2, fun f' i' hf' hE' => ⟨?_, (r3 f' i' hf' hE').2⟩, r4, fun a ha => ⟨(r5 a ha).1, (r5 a ha).2.1, fun f' => ?_, (r5 a ha).2.2.2⟩, r6, r7⟩
  · show mm_u2 (hp_I h) f (ad (f / 100) i) v f' (ad (f' / 100) i') = mm_u2 (tI t) f i v f' i'
    unfold mm_u2
    by_cases e : f' = f
    · subst e
      rw [if_pos rfl, if_pos rfl]
      by_cases e2 : i' = i
      · subst e2
        rw [if_pos rfl, if_pos rfl]
      · rw [if_neg e2, if_neg (fun g => e2 (r2 _ _ _ _ hE' hE g).2)]
        exact (r3 _ _ hf' hE').1
    · rw [if_neg e, if_neg e]
      exact (r3 _ _ hf' hE').1
  · show mm_u2 (hp_I h) f (ad (f / 100) i) v f' a = _
    unfold mm_u2
    have hne : ¬ a = ad (f / 100) i := fun g => (r1 _ _ hE).2.2.2 (g ▸ ha)
    rw [if_neg hne, ite_self]
    exact (r5 a ha).2.2.1 f'
theorem RV_setR (hR : RV W ad t hs h) {f i : Nat} {v : Option Nat} (hE : tE t (f / 100) i = true) (hx : W.2.2.2 f = false) (hv : ∀ j, v = some j → tE t (tk f) j = true) : RV W ad (uR t f i v) hs (hp_setR h f (ad (f / 100) i) (v.map (ad (tk f)))) := by
  obtain ⟨r1, r2, r3, r4, r5, r6, r7⟩ := hR
  refine ⟨r1, r2, fun f' i' hf' hE' => ⟨(r3 f' i' hf' hE').1, ?_⟩, r4, fun a ha => ⟨(r5 a ha).1, (r5 a ha).2.1, (r5 a ha).2.2.1, fun f' => ?_, (r5 a ha).2.2.2.2⟩, r6, fun f' i' hf' => ?_⟩
  · show mm_u2 (hp_R h) f (ad (f / 100) i) (v.map (ad (tk f))) f' (ad (f' / 100) i') = (mm_u2 (tR t) f i v f' i').map (ad (tk f')) ∧ ∀ j, mm_u2 (tR t) f i v f' i' = some j → tE t (tk f') j = true
    unfold mm_u2
    by_cases e : f' = f
    · subst e
      rw [if_pos rfl, if_pos rfl]
      by_cases e2 : i' = i
      · subst e2
        rw [if_pos rfl, if_pos rfl]
        exact ⟨rfl, hv⟩
      · rw [if_neg e2, if_neg (fun g => e2 (r2 _ _ _ _ hE' hE g).2)]
        exact (r3 _ _ hf' hE').2
    · rw [if_neg e, if_neg e]
      exact (r3 _ _ hf' hE').2
  · show mm_u2 (hp_R h) f (ad (f / 100) i) (v.map (ad (tk f))) f' a = _
    unfold mm_u2
    have hne : ¬ a = ad (f / 100) i := fun g => (r1 _ _ hE).2.2.2 (g ▸ ha)
    rw [if_neg hne, ite_self]
    exact (r5 a ha).2.2.2.1 f'
  · show mm_u2 (tR t) f i v f' i' = some i'
    unfold mm_u2
    have hne : ¬ f' = f := fun g => by subst g; rw [hx] at hf'; cases hf'
    rw [if_neg hne]
    exact r7 f' i' hf'
theorem RV_setA (hR : RV W ad t hs h) {k i : Nat} (j : Nat) (v : Int32) (hE : tE t k i = true) : RV W ad (uA t k i j v) hs (hp_setA h (ad k i) j v) := by
  obtain ⟨r1, r2, r3, r4, r5, r6, r7⟩ := hR
  refine ⟨r1, r2, r3, fun k' i' hk' hE' => ⟨(r4 k' i' hk' hE').1, fun j' => ⟨?_, ((r4 k' i' hk' hE').2 j').2⟩⟩, fun a ha => ⟨(r5 a ha).1, (r5 a ha).2.1, (r5 a ha).2.2.1, (r5 a ha).2.2.2.1, (r5 a ha).2.2.2.2.1, fun j' => ?_, (r5 a ha).2.2.2.2.2.2⟩, r6, r7⟩
  · show mm_u2 (hp_A h) (ad k i) j v (ad k' i') j' = mm_u3 (tA t) k i j v k' i' j'
    have h0 := ((r4 k' i' hk' hE').2 j').1
    unfold mm_u2 mm_u3
    by_cases e : k' = k
    · by_cases e2 : i' = i
      · subst e; subst e2
        rw [if_pos rfl, if_pos rfl, if_pos rfl]
        by_cases e3 : j' = j
        · rw [if_pos e3, if_pos e3]
        · rw [if_neg e3, if_neg e3]; exact h0
      · rw [if_neg (fun g => e2 (r2 _ _ _ _ hE' hE g).2), if_pos e, if_neg e2]; exact h0
    · rw [if_neg (fun g => e (r2 _ _ _ _ hE' hE g).1), if_neg e]; exact h0
  · show mm_u2 (hp_A h) (ad k i) j v a j' = _
    unfold mm_u2
    have hne : ¬ a = ad k i := fun g => (r1 _ _ hE).2.2.2 (g ▸ ha)
    rw [if_neg hne]
    exact (r5 a ha).2.2.2.2.2.1 j'
theorem RV_setJ (hR : RV W ad t hs h) {k i : Nat} (j : Nat) (v : Int64) (hE : tE t k i = true) : RV W ad (uJ t k i j v) hs (hp_setJ h (ad k i) j v) := by
  obtain ⟨r1, r2, r3, r4, r5, r6, r7⟩ := hR
  refine ⟨r1, r2, r3, fun k' i' hk' hE' => ⟨(r4 k' i' hk' hE').1, fun j' => ⟨((r4 k' i' hk' hE').2 j').1, ?_, ((r4 k' i' hk' hE').2 j').2.2⟩⟩, fun a ha => ⟨(r5 a ha).1, (r5 a ha).2.1, (r5 a ha).2.2.1, (r5 a ha).2.2.2.1, (r5 a ha).2.2.2.2.1, (r5 a ha).2.2.2.2.2.1, fun j' => ?_, (r5 a ha).2.2.2.2.2.2.2⟩, r6, r7⟩
  · show mm_u2 (hp_J h) (ad k i) j v (ad k' i') j' = mm_u3 (tJ t) k i j v k' i' j'
    have h0 := ((r4 k' i' hk' hE').2 j').2.1
    unfold mm_u2 mm_u3
    by_cases e : k' = k
    · by_cases e2 : i' = i
      · subst e; subst e2
        rw [if_pos rfl, if_pos rfl, if_pos rfl]
        by_cases e3 : j' = j
        · rw [if_pos e3, if_pos e3]
        · rw [if_neg e3, if_neg e3]; exact h0
      · rw [if_neg (fun g => e2 (r2 _ _ _ _ hE' hE g).2), if_pos e, if_neg e2]; exact h0
    · rw [if_neg (fun g => e (r2 _ _ _ _ hE' hE g).1), if_neg e]; exact h0
  · show mm_u2 (hp_J h) (ad k i) j v a j' = _
    unfold mm_u2
    have hne : ¬ a = ad k i := fun g => (r1 _ _ hE).2.2.2 (g ▸ ha)
    rw [if_neg hne]
    exact (r5 a ha).2.2.2.2.2.2.1 j'
theorem RV_setQ (hR : RV W ad t hs h) {k i : Nat} (j : Nat) {v : Option Nat} (hE : tE t k i = true) (hv : ∀ b, v = some b → tE t (ek k) b = true) : RV W ad (uQ t k i j v) hs (hp_setQ h (ad k i) j (v.map (ad (ek k)))) := by
  obtain ⟨r1, r2, r3, r4, r5, r6, r7⟩ := hR
  refine ⟨r1, r2, r3, fun k' i' hk' hE' => ⟨(r4 k' i' hk' hE').1, fun j' => ⟨((r4 k' i' hk' hE').2 j').1, ((r4 k' i' hk' hE').2 j').2.1, ?_⟩⟩, fun a ha => ⟨(r5 a ha).1, (r5 a ha).2.1, (r5 a ha).2.2.1, (r5 a ha).2.2.2.1, (r5 a ha).2.2.2.2.1, (r5 a ha).2.2.2.2.2.1, (r5 a ha).2.2.2.2.2.2.1, fun j' => ?_⟩, r6, r7⟩
  · show mm_u2 (hp_Q h) (ad k i) j (v.map (ad (ek k))) (ad k' i') j' = (mm_u3 (tQ t) k i j v k' i' j').map (ad (ek k')) ∧ ∀ b, mm_u3 (tQ t) k i j v k' i' j' = some b → tE t (ek k') b = true
    have h0 := ((r4 k' i' hk' hE').2 j').2.2
    unfold mm_u2 mm_u3
    by_cases e : k' = k
    · by_cases e2 : i' = i
      · subst e; subst e2
        rw [if_pos rfl, if_pos rfl, if_pos rfl]
        by_cases e3 : j' = j
        · rw [if_pos e3, if_pos e3]; exact ⟨rfl, hv⟩
        · rw [if_neg e3, if_neg e3]; exact h0
      · rw [if_neg (fun g => e2 (r2 _ _ _ _ hE' hE g).2), if_pos e, if_neg e2]; exact h0
    · rw [if_neg (fun g => e (r2 _ _ _ _ hE' hE g).1), if_neg e]; exact h0
  · show mm_u2 (hp_Q h) (ad k i) j (v.map (ad (ek k))) a j' = _
    unfold mm_u2
    have hne : ¬ a = ad k i := fun g => (r1 _ _ hE).2.2.2 (g ▸ ha)
    rw [if_neg hne]
    exact (r5 a ha).2.2.2.2.2.2.2 j'
theorem RV_cpA (hR : RV W ad t hs h) {k i k2 i2 : Nat} (si di n : Nat) (hk : 2000 ≤ k) (hE : tE t k i = true) (hk2 : 2000 ≤ k2) (hE2 : tE t k2 i2 = true) : RV W ad (uCA t k i si k2 i2 di n) hs (hp_copA h (ad k i) si (ad k2 i2) di n) := by
  obtain ⟨r1, r2, r3, r4, r5, r6, r7⟩ := hR
  refine ⟨r1, r2, r3, fun k' i' hk' hE' => ⟨(r4 k' i' hk' hE').1, fun j' => ⟨?_, ((r4 k' i' hk' hE').2 j').2⟩⟩, fun a ha => ⟨(r5 a ha).1, (r5 a ha).2.1, (r5 a ha).2.2.1, (r5 a ha).2.2.2.1, (r5 a ha).2.2.2.2.1, fun j' => ?_, (r5 a ha).2.2.2.2.2.2⟩, r6, r7⟩
  · show (fun x => if x = ad k2 i2 then va_cpy (hp_A h (ad k i)) (hp_A h (ad k2 i2)) si di n else hp_A h x) (ad k' i') j' = (fun x y => if x = k2 ∧ y = i2 then va_cpy (tA t k i) (tA t k2 i2) si di n else tA t x y) k' i' j'
    have h0 := ((r4 k' i' hk' hE').2 j').1
    have h1 : hp_A h (ad k i) = tA t k i := funext fun j => ((r4 _ _ hk hE).2 j).1
    have h2 : hp_A h (ad k2 i2) = tA t k2 i2 := funext fun j => ((r4 _ _ hk2 hE2).2 j).1
    by_cases e : k' = k2 ∧ i' = i2
    · obtain ⟨e1, e2⟩ := e
      subst e1; subst e2
      simp only [and_self, if_true]
      rw [h1, h2]
    · have hne : ¬ ad k' i' = ad k2 i2 := fun g => e (r2 _ _ _ _ hE' hE2 g)
      simp only [if_neg e, if_neg hne]
      exact h0
  · have hne : ¬ a = ad k2 i2 := fun g => (r1 _ _ hE2).2.2.2 (g ▸ ha)
    show (fun x => if x = ad k2 i2 then va_cpy (hp_A h (ad k i)) (hp_A h (ad k2 i2)) si di n else hp_A h x) a j' = _
    simp only [if_neg hne]
    exact (r5 a ha).2.2.2.2.2.1 j'
theorem RV_cpJ (hR : RV W ad t hs h) {k i k2 i2 : Nat} (si di n : Nat) (hk : 2000 ≤ k) (hE : tE t k i = true) (hk2 : 2000 ≤ k2) (hE2 : tE t k2 i2 = true) : RV W ad (uCJ t k i si k2 i2 di n) hs (hp_copJ h (ad k i) si (ad k2 i2) di n) := by
  obtain ⟨r1, r2, r3, r4, r5, r6, r7⟩ := hR
  refine ⟨r1, r2, r3, fun k' i' hk' hE' => ⟨(r4 k' i' hk' hE').1, fun j' => ⟨((r4 k' i' hk' hE').2 j').1, ?_, ((r4 k' i' hk' hE').2 j').2.2⟩⟩, fun a ha => ⟨(r5 a ha).1, (r5 a ha).2.1, (r5 a ha).2.2.1, (r5 a ha).2.2.2.1, (r5 a ha).2.2.2.2.1, (r5 a ha).2.2.2.2.2.1, fun j' => ?_, (r5 a ha).2.2.2.2.2.2.2⟩, r6, r7⟩
  · show (fun x => if x = ad k2 i2 then va_cpy (hp_J h (ad k i)) (hp_J h (ad k2 i2)) si di n else hp_J h x) (ad k' i') j' = (fun x y => if x = k2 ∧ y = i2 then va_cpy (tJ t k i) (tJ t k2 i2) si di n else tJ t x y) k' i' j'
    have h0 := ((r4 k' i' hk' hE').2 j').2.1
    have h1 : hp_J h (ad k i) = tJ t k i := funext fun j => ((r4 _ _ hk hE).2 j).2.1
    have h2 : hp_J h (ad k2 i2) = tJ t k2 i2 := funext fun j => ((r4 _ _ hk2 hE2).2 j).2.1
    by_cases e : k' = k2 ∧ i' = i2
    · obtain ⟨e1, e2⟩ := e
      subst e1; subst e2
      simp only [and_self, if_true]
      rw [h1, h2]
    · have hne : ¬ ad k' i' = ad k2 i2 := fun g => e (r2 _ _ _ _ hE' hE2 g)
      simp only [if_neg e, if_neg hne]
      exact h0
  · have hne : ¬ a = ad k2 i2 := fun g => (r1 _ _ hE2).2.2.2 (g ▸ ha)
    show (fun x => if x = ad k2 i2 then va_cpy (hp_J h (ad k i)) (hp_J h (ad k2 i2)) si di n else hp_J h x) a j' = _
    simp only [if_neg hne]
    exact (r5 a ha).2.2.2.2.2.2.1 j'
/-- a new cell's place among the addresses -/
def adn (ad : Nat → Nat → Nat) (k i a : Nat) : Nat → Nat → Nat := mm_u2 ad k i a
theorem adn_at {k i a : Nat} : adn ad k i a k i = a := by simp [adn, mm_u2]
theorem adn_ne {k i a k' i' : Nat} (hn : ¬ (k' = k ∧ i' = i)) : adn ad k i a k' i' = ad k' i' := by
  unfold adn mm_u2
  by_cases e : k' = k
  · rw [if_pos e, if_neg (fun g => hn ⟨e, g⟩)]
  · rw [if_neg e]
theorem adn_old {k i a k' i' : Nat} (h1 : tE t k i = false) (h2 : tE t k' i' = true) : adn ad k i a k' i' = ad k' i' := adn_ne (fun g => by rw [g.1, g.2, h1] at h2; cases h2)
theorem mm_u2_at {α : Type} {f : Nat → Nat → α} {a b : Nat} {v : α} : mm_u2 f a b v a b = v := by simp [mm_u2]
theorem mm_u2_ne {α : Type} {f : Nat → Nat → α} {a b x y : Nat} {v : α} (hn : ¬ (x = a ∧ y = b)) : mm_u2 f a b v x y = f x y := by
  unfold mm_u2
  by_cases e : x = a
  · rw [if_pos e, if_neg (fun g => hn ⟨e, g⟩)]
  · rw [if_neg e]
theorem tE_new {k i k' i' : Nat} (h2 : mm_u2 (tE t) k i true k' i' = true) : (k' = k ∧ i' = i) ∨ (¬ (k' = k ∧ i' = i) ∧ tE t k' i' = true) := by
  by_cases e : k' = k ∧ i' = i
  · exact Or.inl e
  · rw [mm_u2_ne e] at h2
    exact Or.inr ⟨e, h2⟩
theorem tE_keep {k i k' i' : Nat} (h2 : tE t k' i' = true) : mm_u2 (tE t) k i true k' i' = true := by
  by_cases e : k' = k ∧ i' = i
  · rw [e.1, e.2]; exact mm_u2_at
  · rw [mm_u2_ne e]; exact h2
theorem map_old {o : Option Nat} {k i a c : Nat} (h1 : tE t k i = false) (ho : ∀ j, o = some j → tE t c j = true) : o.map (ad c) = o.map (adn ad k i a c) := by
  cases o with
  | none => rfl
  | some j => exact congrArg some (adn_old h1 (ho j rfl)).symm
theorem RV_newO (hR : RV W ad t hs h) {c i : Nat} (hc : c < 20) (hE : tE t c i = false) (hx : ∀ f, f / 100 = c → W.2.2.2 f = false) : RV W (adn ad c i hs) (uO t c i) (hs + 1) (hp_newO h c hs) := by
  obtain ⟨r1, r2, r3, r4, r5, r6, r7⟩ := hR
  have hlt : ∀ {k' i'}, tE t k' i' = true → ¬ ad k' i' = hs := fun g e => Nat.lt_irrefl hs (by have := (r1 _ _ g).2.1; rw [e] at this; exact this)
  refine ⟨fun k' i' h' => ?_, fun k' i' k2 i2 h' h2 g => ?_, fun f' i' hf' h' => ?_, fun k' i' hk' h' => ?_, fun a ha => ?_, ⟨fun s => ?_, r6.2⟩, fun f' i' hf' => ?_⟩
  · rcases tE_new h' with ⟨e1, e2⟩ | ⟨e, g⟩
    · subst e1; subst e2
      rw [adn_at]
      refine ⟨by omega, by omega, ?_, fun g => Nat.lt_irrefl _ (r5 _ g).1⟩
      show mm_u1 (hp_K h) hs (k' + 1) hs = nk k'
      have h3 : nk k' = k' + 1 := by
        have : ∀ c, c < 20 → nk c = c + 1 := by decide
        exact this k' hc
      simp [mm_u1, h3]
    · rw [adn_ne e]
      have h3 := r1 _ _ g
      refine ⟨h3.1, by omega, ?_, h3.2.2.2⟩
      show mm_u1 (hp_K h) hs (c + 1) (ad k' i') = nk k'
      unfold mm_u1
      rw [if_neg (hlt g)]
      exact h3.2.2.1
  · rcases tE_new h' with ⟨e1, e2⟩ | ⟨e, g1⟩ <;> rcases tE_new h2 with ⟨e3, e4⟩ | ⟨e', g2⟩
    · exact ⟨e1.trans e3.symm, e2.trans e4.symm⟩
    · rw [e1, e2, adn_at, adn_ne e'] at g
      exact absurd g.symm (hlt g2)
    · rw [e3, e4, adn_at, adn_ne e] at g
      exact absurd g (hlt g1)
    · rw [adn_ne e, adn_ne e'] at g
      exact r2 _ _ _ _ g1 g2 g
  · rcases tE_new h' with ⟨e1, e2⟩ | ⟨e, g⟩
    · subst e2
      rw [e1, adn_at]
      show (if hs = hs then (0 : Int32) else hp_I h f' hs) = (if f' / 100 = c ∧ i' = i' then 0 else tI t f' i') ∧ (if hs = hs then none else hp_R h f' hs) = (if f' / 100 = c ∧ i' = i' then none else tR t f' i').map _ ∧ ∀ j, (if f' / 100 = c ∧ i' = i' then none else tR t f' i') = some j → _
      rw [if_pos rfl, if_pos rfl, if_pos ⟨e1, rfl⟩, if_pos ⟨e1, rfl⟩]
      exact ⟨rfl, rfl, fun j g => by cases g⟩
    · rw [adn_ne e]
      obtain ⟨q1, q2, q3⟩ := r3 _ _ hf' g
      show (if ad (f' / 100) i' = hs then (0 : Int32) else hp_I h f' (ad (f' / 100) i')) = (if f' / 100 = c ∧ i' = i then 0 else tI t f' i') ∧ (if ad (f' / 100) i' = hs then none else hp_R h f' (ad (f' / 100) i')) = (if f' / 100 = c ∧ i' = i then none else tR t f' i').map _ ∧ ∀ j, (if f' / 100 = c ∧ i' = i then none else tR t f' i') = some j → _
      rw [if_neg (hlt g), if_neg (hlt g), if_neg e, if_neg e]
      exact ⟨q1, q2.trans (map_old hE q3), fun j g => tE_keep (q3 j g)⟩
  · rcases tE_new h' with ⟨e1, e2⟩ | ⟨e, g⟩
    · omega
    · rw [adn_ne e]
      obtain ⟨q1, q2⟩ := r4 _ _ hk' g
      exact ⟨q1, fun j => ⟨(q2 j).1, (q2 j).2.1, (q2 j).2.2.1.trans (map_old hE (q2 j).2.2.2), fun b g => tE_keep ((q2 j).2.2.2 b g)⟩⟩
  · obtain ⟨q0, q1, q2, q3, q4⟩ := r5 a ha
    have hne : ¬ a = hs := fun g => by omega
    refine ⟨by omega, ?_, fun f' => ?_, fun f' => ?_, q4⟩
    · show mm_u1 (hp_K h) hs (c + 1) a = _
      unfold mm_u1
      rw [if_neg hne]; exact q1
    · show (if a = hs then (0 : Int32) else hp_I h f' a) = _
      rw [if_neg hne]; exact q2 f'
    · show (if a = hs then none else hp_R h f' a) = _
      rw [if_neg hne]; exact q3 f'
  · rw [adn_ne (fun g => by omega)]
    exact r6.1 s
  · show (if f' / 100 = c ∧ i' = i then none else tR t f' i') = some i'
    have hne : ¬ (f' / 100 = c ∧ i' = i) := fun g => by have := hx f' g.1; rw [this] at hf'; cases hf'
    rw [if_neg hne]
    exact r7 f' i' hf'
theorem RV_newA (hR : RV W ad t hs h) {k i : Nat} (n : Nat) (hk : 2000 ≤ k) (hk2 : k < 5000) (hE : tE t k i = false) : RV W (adn ad k i hs) (uN t k i n) (hs + 1) (hp_newA h (nk k) n hs) := by
  obtain ⟨r1, r2, r3, r4, r5, r6, r7⟩ := hR
  have hlt : ∀ {k' i'}, tE t k' i' = true → ¬ ad k' i' = hs := fun g e => Nat.lt_irrefl hs (by have := (r1 _ _ g).2.1; rw [e] at this; exact this)
  refine ⟨fun k' i' h' => ?_, fun k' i' k2 i2 h' h2 g => ?_, fun f' i' hf' h' => ?_, fun k' i' hk' h' => ?_, fun a ha => ?_, ⟨fun s => ?_, r6.2⟩, r7⟩
  · rcases tE_new h' with ⟨e1, e2⟩ | ⟨e, g⟩
    · subst e1; subst e2
      rw [adn_at]
      refine ⟨by omega, by omega, ?_, fun g => Nat.lt_irrefl _ (r5 _ g).1⟩
      show mm_u1 (hp_K h) hs (nk k') hs = nk k'
      simp [mm_u1]
    · rw [adn_ne e]
      have h3 := r1 _ _ g
      refine ⟨h3.1, by omega, ?_, h3.2.2.2⟩
      show mm_u1 (hp_K h) hs (nk k) (ad k' i') = nk k'
      unfold mm_u1
      rw [if_neg (hlt g)]
      exact h3.2.2.1
  · rcases tE_new h' with ⟨e1, e2⟩ | ⟨e, g1⟩ <;> rcases tE_new h2 with ⟨e3, e4⟩ | ⟨e', g2⟩
    · exact ⟨e1.trans e3.symm, e2.trans e4.symm⟩
    · rw [e1, e2, adn_at, adn_ne e'] at g
      exact absurd g.symm (hlt g2)
    · rw [e3, e4, adn_at, adn_ne e] at g
      exact absurd g (hlt g1)
    · rw [adn_ne e, adn_ne e'] at g
      exact r2 _ _ _ _ g1 g2 g
  · rcases tE_new h' with ⟨e1, e2⟩ | ⟨e, g⟩
    · omega
    · rw [adn_ne e]
      obtain ⟨q1, q2, q3⟩ := r3 _ _ hf' g
      exact ⟨q1, q2.trans (map_old hE q3), fun j g => tE_keep (q3 j g)⟩
  · rcases tE_new h' with ⟨e1, e2⟩ | ⟨e, g⟩
    · subst e1; subst e2
      rw [adn_at]
      refine ⟨?_, fun j => ?_⟩
      · show mm_u1 (hp_L h) hs n hs = mm_u2 (tL t) k' i' n k' i'
        rw [mm_u2_at]; simp [mm_u1]
      · show (if hs = hs then (0 : Int32) else hp_A h hs j) = (if k' = k' ∧ i' = i' then 0 else tA t k' i' j) ∧ (if hs = hs then (0 : Int64) else hp_J h hs j) = (if k' = k' ∧ i' = i' then 0 else tJ t k' i' j) ∧ (if hs = hs then none else hp_Q h hs j) = (if k' = k' ∧ i' = i' then none else tQ t k' i' j).map _ ∧ ∀ b, (if k' = k' ∧ i' = i' then none else tQ t k' i' j) = some b → _
        rw [if_pos rfl, if_pos rfl, if_pos rfl, if_pos ⟨rfl, rfl⟩, if_pos ⟨rfl, rfl⟩, if_pos ⟨rfl, rfl⟩]
        exact ⟨rfl, rfl, rfl, fun b g => by cases g⟩
    · rw [adn_ne e]
      obtain ⟨q1, q2⟩ := r4 _ _ hk' g
      refine ⟨?_, fun j => ?_⟩
      · show mm_u1 (hp_L h) hs n (ad k' i') = mm_u2 (tL t) k i n k' i'
        rw [mm_u2_ne e]; unfold mm_u1; rw [if_neg (hlt g)]; exact q1
      · show (if ad k' i' = hs then (0 : Int32) else hp_A h (ad k' i') j) = (if k' = k ∧ i' = i then 0 else tA t k' i' j) ∧ (if ad k' i' = hs then (0 : Int64) else hp_J h (ad k' i') j) = (if k' = k ∧ i' = i then 0 else tJ t k' i' j) ∧ (if ad k' i' = hs then none else hp_Q h (ad k' i') j) = (if k' = k ∧ i' = i then none else tQ t k' i' j).map _ ∧ ∀ b, (if k' = k ∧ i' = i then none else tQ t k' i' j) = some b → _
        rw [if_neg (hlt g), if_neg (hlt g), if_neg (hlt g), if_neg e, if_neg e, if_neg e]
        exact ⟨(q2 j).1, (q2 j).2.1, (q2 j).2.2.1.trans (map_old hE (q2 j).2.2.2), fun b g => tE_keep ((q2 j).2.2.2 b g)⟩
  · obtain ⟨q0, q1, q2, q3, q4, q5, q6, q7⟩ := r5 a ha
    have hne : ¬ a = hs := fun g => by omega
    refine ⟨by omega, ?_, q2, q3, ?_, fun j => ?_, fun j => ?_, fun j => ?_⟩
    · show mm_u1 (hp_K h) hs (nk k) a = _
      unfold mm_u1
      rw [if_neg hne]; exact q1
    · show mm_u1 (hp_L h) hs n a = _
      unfold mm_u1
      rw [if_neg hne]; exact q4
    · show (if a = hs then (0 : Int32) else hp_A h a j) = _
      rw [if_neg hne]; exact q5 j
    · show (if a = hs then (0 : Int64) else hp_J h a j) = _
      rw [if_neg hne]; exact q6 j
    · show (if a = hs then none else hp_Q h a j) = _
      rw [if_neg hne]; exact q7 j
  · rw [adn_ne (fun g => by omega)]
    exact r6.1 s
end
