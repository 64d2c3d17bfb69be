/-! PART 42: teaching in the model. -/
/-- spans of a player below n, the latest first; who holds, by them -/
def dl (t : TS) (p : Nat) : Nat → List Nat
  | 0 => []
  | n + 1 => if pS t p n then n :: dl t p n else dl t p n
def sm (t : TS) (d : Int32) (s : Nat) : Bool := decide (tA t 3319 0 s ≤ d) && decide (d < tA t 3322 0 s)
def inn (t : TS) (d : Int32) (ow : Bool) : List Nat → Option Nat
  | [] => none
  | s :: r => if sm t d s then (if tA t 3321 0 s = 1 then (if ow then inn t d true r else if tA t 3320 0 s < d then inn t d true r else some s) else if tA t 3320 0 s < d then inn t d ow r else some s) else inn t d ow r
theorem inn_ow (t : TS) (p : Nat) (d : Int32) : ∀ n, inn t d true (dl t p n) = ot0 t n p d
  | 0 => rfl
  | n + 1 => by
    have ih := inn_ow t p d n
    unfold dl ot0 lastP
    cases e : pS t p n
    · have e2 : tS t p d n = false := by unfold tS; rw [e]; rfl
      rw [e2]
      exact ih
    · simp only [if_true]
      unfold inn
      have e2 : tS t p d n = (decide (¬ tA t 3321 0 n = 1) && (decide (tA t 3319 0 n ≤ d) && (decide (d < tA t 3322 0 n) && decide (d ≤ tA t 3320 0 n)))) := by unfold tS tC; rw [e]; rfl
      rw [e2]
      unfold sm
      by_cases h1 : tA t 3321 0 n = 1
      · cases h2 : (decide (tA t 3319 0 n ≤ d) && decide (d < tA t 3322 0 n)) <;> simp [h1] <;> exact ih
      · by_cases h4 : tA t 3320 0 n < d
        · have h4' := Int32.not_le.mpr h4
          cases h2 : (decide (tA t 3319 0 n ≤ d) && decide (d < tA t 3322 0 n)) <;> simp [h1, h4, h4'] <;> exact ih
        · have h4' := Int32.not_lt.mp h4
          cases h2 : decide (tA t 3319 0 n ≤ d) <;> cases h3 : decide (d < tA t 3322 0 n) <;> simp [h1, h4, h4'] <;> exact ih
theorem inn_hol (t : TS) (p : Nat) (d : Int32) : ∀ n, inn t d false (dl t p n) = hol t n p d
  | 0 => rfl
  | n + 1 => by
    have ih := inn_hol t p d n
    have io := inn_ow t p d n
    have hn1 : ∀ s, ot0 t n p d = some s → ¬ n ≤ s := fun s h => Nat.not_le.mpr (lastP_lt h).1
    have hn2 : ∀ s, ow0 t n p d = some s → s < n := fun s h => (lastP_lt h).1
    have hw : ow0 t (n + 1) p d = if oS t p d n then some n else ow0 t n p d := rfl
    have ht : ot0 t (n + 1) p d = if tS t p d n then some n else ot0 t n p d := rfl
    unfold hol own
    rw [hw, ht]
    unfold dl
    cases e : pS t p n
    · have e1 : oS t p d n = false := by unfold oS; rw [e]; rfl
      have e2 : tS t p d n = false := by unfold tS; rw [e]; rfl
      rw [e1, e2]
      exact ih
    · simp only [if_true]
      have e1 : oS t p d n = (decide (tA t 3321 0 n = 1) && sm t d n) := by unfold oS oC sm; rw [e]; rfl
      have e2 : tS t p d n = (decide (¬ tA t 3321 0 n = 1) && (sm t d n && decide (d ≤ tA t 3320 0 n))) := by unfold tS tC sm; rw [e, Bool.true_and, Bool.and_assoc]
      rw [e1, e2]
      unfold inn
      cases h2 : sm t d n
      · simp only [Bool.and_false, Bool.false_and, Bool.false_eq_true, if_false]
        exact ih
      · by_cases h1 : tA t 3321 0 n = 1
        · by_cases h4 : tA t 3320 0 n < d
          · simp only [h1, h4, decide_true, Bool.true_and, if_true, not_true_eq_false, decide_false, Bool.false_and, Bool.false_eq_true, if_false, oel_s, oel_n]
            exact io
          · simp only [h1, h4, decide_true, Bool.true_and, if_true, not_true_eq_false, decide_false, Bool.false_and, Bool.false_eq_true, if_false, oel_s]
            cases e3 : ot0 t n p d with
            | none => rfl
            | some o =>
              have := hn1 o e3
              rw [oel_s, if_pos (by omega)]
        · by_cases h4 : tA t 3320 0 n < d
          · have h4' := Int32.not_le.mpr h4
            simp only [h1, h4, h4', decide_false, Bool.false_and, Bool.false_eq_true, if_false, if_true, Bool.and_false]
            exact ih
          · have h4' := Int32.not_lt.mp h4
            simp only [h1, h4, h4', decide_false, decide_true, not_false_eq_true, Bool.false_and, Bool.true_and, Bool.false_eq_true, if_false, if_true]
            cases e3 : ow0 t n p d with
            | none => rfl
            | some s =>
              have := hn2 s e3
              rw [oel_s]
              by_cases h5 : tA t 3320 0 s < d
              · rw [if_pos h5]; rfl
              · rw [if_neg h5, oel_s, oel_s, if_neg (by omega)]
