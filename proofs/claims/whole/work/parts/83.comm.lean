/-! PART 83: the class's additions and the model's stand apart. -/
section
variable {t : TS}
theorem mm2_mm2 {α : Type} {g : Nat → Nat → α} {f i f' i' : Nat} {v v' : α} (h : ¬ f' = f) : mm_u2 (mm_u2 g f i v) f' i' v' = mm_u2 (mm_u2 g f' i' v') f i v := by
  funext y w
  unfold mm_u2
  by_cases h1 : y = f'
  · have h2 : ¬ y = f := fun q => h (h1.symm.trans q)
    rw [if_pos h1, if_neg h2, if_neg h2, if_pos h1]
  · rw [if_neg h1]
    by_cases h2 : y = f
    · rw [if_pos h2, if_pos h2, if_neg h1]
    · rw [if_neg h2, if_neg h2, if_neg h1]
theorem uI_uI {f i f' i' : Nat} {v v' : Int32} (h : ¬ f' = f) : uI (uI t f i v) f' i' v' = uI (uI t f' i' v') f i v := by
  show (tE t, mm_u2 (mm_u2 (tI t) f i v) f' i' v', tR t, tL t, tA t, tJ t, tQ t) = (tE t, mm_u2 (mm_u2 (tI t) f' i' v') f i v, tR t, tL t, tA t, tJ t, tQ t)
  rw [mm2_mm2 h]
theorem uO_uI {f i c j : Nat} {v : Int32} (h : ¬ f / 100 = c) : uO (uI t f i v) c j = uI (uO t c j) f i v := by
  have e : (fun y x => if y / 100 = c ∧ x = j then (0 : Int32) else mm_u2 (tI t) f i v y x) = mm_u2 (fun y x => if y / 100 = c ∧ x = j then (0 : Int32) else tI t y x) f i v := by
    funext y x
    unfold mm_u2
    by_cases h1 : y = f
    · have h2 : ¬ y / 100 = c := by rw [h1]; exact h
      simp only [h1, h, false_and, if_false, if_true]
    · simp only [h1, if_false]
  show (mm_u2 (tE t) c j true, (fun y x => if y / 100 = c ∧ x = j then (0 : Int32) else mm_u2 (tI t) f i v y x), (fun y x => if y / 100 = c ∧ x = j then none else tR t y x), tL t, tA t, tJ t, tQ t) = (mm_u2 (tE t) c j true, mm_u2 (fun y x => if y / 100 = c ∧ x = j then (0 : Int32) else tI t y x) f i v, (fun y x => if y / 100 = c ∧ x = j then none else tR t y x), tL t, tA t, tJ t, tQ t)
  rw [e]
theorem cS_uA {p c n k i j : Nat} {so fr to v : Int32} : cS (uA t k i j v) p c n so fr to = uA (cS t p c n so fr to) k i j v := by
  unfold cS cS0
  have e : tR (uA t k i j v) 110 p = tR t 110 p := rfl
  rw [e]
  cases tR t 110 p <;> rfl
theorem cS_uI {p c n : Nat} {so fr to v : Int32} : cS (uI t 1316 0 v) p c n so fr to = uI (cS t p c n so fr to) 1316 0 v := by
  unfold cS cS0
  have e : tR (uI t 1316 0 v) 110 p = tR t 110 p := rfl
  have e2 : tI (uI t 1316 0 v) 111 p = tI t 111 p := by rw [I_uI_n (by decide)]
  have hr : ∀ (u : TS) (f i : Nat) (w : Option Nat), uR (uI u 1316 0 v) f i w = uI (uR u f i w) 1316 0 v := fun _ _ _ _ => rfl
  rw [e, e2]
  cases tR t 110 p
  all_goals simp only [oel_n, oel_s, uO_uI (t := t) (f := 1316) (c := 11) (by decide), hr]
  all_goals simp (disch := decide) only [uI_uI (f := 1316), hr]
theorem cS_mS {p c n p' c' n' : Nat} {so fr to so' fr' to' : Int32} : cS (mS t p' c' n' so' fr' to') p c n so fr to = mS (cS t p c n so fr to) p' c' n' so' fr' to' := by
  unfold mS
  rw [cS_uI]
  simp only [cS_uA]
end
