/-! PART 37: bodies. -/
def isPl (k : Int32) : Bool := decide (k = 2) || (decide (k = 3) || decide (k = 4))
def isCl (k : Int32) : Bool := decide (k = 5) || decide (k = 7)
def Ibody (nB : Nat) (t : TS) : Prop := nB ≤ 150 ∧ tI t 1204 0 = nt nB ∧ tI t 1307 0 = nt nB ∧ (∀ i, i < nB → tQ t 3203 0 i = some i ∧ tE t 1 i = true ∧ tI t 100 i = nt i ∧ tI t 101 i = tA t 3308 0 i ∧ tI t 102 i = tA t 3309 0 i ∧ tI t 105 i = tA t 3312 0 i ∧ tI t 106 i = tA t 3313 0 i ∧ ((tR t 107 i = none ∧ tA t 3314 0 i = -1) ∨ ∃ j, j < nB ∧ tR t 107 i = some j ∧ tA t 3314 0 i = nt j) ∧ (∃ k, k < 8 ∧ tA t 3308 0 i = nt k) ∧ (∃ l, l < 4 ∧ tA t 3309 0 i = nt l) ∧ -9000 ≤ tA t 3312 0 i ∧ tA t 3312 0 i ≤ 0) ∧ (∀ i, nB ≤ i → tE t 1 i = false ∧ tA t 3309 0 i = 0 ∧ tA t 3312 0 i = 0 ∧ tA t 3313 0 i = 0)
def kBody : List Nat := [3203, 1, 100, 101, 102, 105, 106, 107, 1204, 1307, 3308, 3309, 3312, 3313, 3314]
theorem Ibody_f {D : Nat → Bool} {t t' : TS} {nB : Nat} (h : frm D t t') (hd : ∀ k, k ∈ kBody → D k = false) (hI : Ibody nB t) : Ibody nB t' := by
  unfold Ibody at hI ⊢
  simp only [(h.1 3203 (hd 3203 (by decide))).2.2.2.2.2.2, (h.1 1 (hd 1 (by decide))).1, (h.1 100 (hd 100 (by decide))).2.1, (h.1 101 (hd 101 (by decide))).2.1, (h.1 102 (hd 102 (by decide))).2.1, (h.1 105 (hd 105 (by decide))).2.1, (h.1 106 (hd 106 (by decide))).2.1, (h.1 107 (hd 107 (by decide))).2.2.1, (h.1 1204 (hd 1204 (by decide))).2.1, (h.1 1307 (hd 1307 (by decide))).2.1, (h.1 3308 (hd 3308 (by decide))).2.2.2.2.1, (h.1 3309 (hd 3309 (by decide))).2.2.2.2.1, (h.1 3312 (hd 3312 (by decide))).2.2.2.2.1, (h.1 3313 (hd 3313 (by decide))).2.2.2.2.1, (h.1 3314 (hd 3314 (by decide))).2.2.2.2.1]
  exact hI
/-- what the model alone knows of bodies -/
def Mbody (nB : Nat) (t : TS) : Prop := nB ≤ 150 ∧ tI t 1307 0 = nt nB ∧ ∀ i, i < nB → (∃ k, k < 8 ∧ tA t 3308 0 i = nt k) ∧ (∃ l, l < 4 ∧ tA t 3309 0 i = nt l) ∧ -9000 ≤ tA t 3312 0 i ∧ tA t 3312 0 i ≤ 0
theorem IbM {nB : Nat} {t : TS} (h : Ibody nB t) : Mbody nB t := ⟨h.1, h.2.2.1, fun i hi => by
  obtain ⟨-, -, -, -, -, -, -, -, a, b, c, d⟩ := h.2.2.2.1 i hi
  exact ⟨a, b, c, d⟩⟩
def kMb : List Nat := [1307, 3308, 3309, 3312]
theorem Mbody_f {D : Nat → Bool} {t t' : TS} {nB : Nat} (h : frm D t t') (hd : ∀ k, k ∈ kMb → D k = false) (hI : Mbody nB t) : Mbody nB t' := by
  unfold Mbody at hI ⊢
  simp only [(h.1 1307 (hd 1307 (by decide))).2.1, (h.1 3308 (hd 3308 (by decide))).2.2.2.2.1, (h.1 3309 (hd 3309 (by decide))).2.2.2.2.1, (h.1 3312 (hd 3312 (by decide))).2.2.2.2.1]
  exact hI
def Icoin (nB : Nat) (t : TS) : Prop := (∀ i, i < nB → tI t 103 i = tA t 3310 0 i) ∧ ∀ i, nB ≤ i → tA t 3310 0 i = 0
def kCoin : List Nat := [103, 3310]
theorem Icoin_f {D : Nat → Bool} {t t' : TS} {nB : Nat} (h : frm D t t') (hd : ∀ k, k ∈ kCoin → D k = false) (hI : Icoin nB t) : Icoin nB t' := by
  unfold Icoin at hI ⊢
  simp only [(h.1 103 (hd 103 (by decide))).2.1, (h.1 3310 (hd 3310 (by decide))).2.2.2.2.1]
  exact hI
def Iinc (nB : Nat) (t : TS) : Prop := (∀ i, i < nB → isCl (tA t 3308 0 i) = true → tR t 104 i = some i ∧ tL t 2104 i = 10 ∧ ∀ y, y < 10 → tA t 2104 i y = tA t 3311 0 (10 * i + y)) ∧ ∀ i, nB ≤ i → tE t 2104 i = false ∧ ∀ y, y < 10 → tA t 3311 0 (10 * i + y) = 0
def kInc : List Nat := [3308, 104, 2104, 3311]
theorem Iinc_f {D : Nat → Bool} {t t' : TS} {nB : Nat} (h : frm D t t') (hd : ∀ k, k ∈ kInc → D k = false) (hI : Iinc nB t) : Iinc nB t' := by
  unfold Iinc at hI ⊢
  simp only [(h.1 104 (hd 104 (by decide))).2.2.1, (h.1 3308 (hd 3308 (by decide))).2.2.2.2.1, (h.1 2104 (hd 2104 (by decide))).2.2.2.1, (h.1 2104 (hd 2104 (by decide))).2.2.2.2.1, (h.1 2104 (hd 2104 (by decide))).1, (h.1 3311 (hd 3311 (by decide))).2.2.2.2.1]
  exact hI
def Imat (nB : Nat) (t : TS) : Prop := (∀ i, i < nB → (tR t 112 i = none ∧ tE t 2112 i = false ∧ ∀ c, c < 150 → tA t 3348 0 (150 * i + c) = 0) ∨ (tR t 112 i = some i ∧ tL t 2112 i = 150 ∧ ∀ c, c < 150 → tA t 2112 i c = tA t 3348 0 (150 * i + c))) ∧ ∀ i, nB ≤ i → tE t 2112 i = false ∧ ∀ c, c < 150 → tA t 3348 0 (150 * i + c) = 0
def kMat : List Nat := [112, 2112, 3348]
theorem Imat_f {D : Nat → Bool} {t t' : TS} {nB : Nat} (h : frm D t t') (hd : ∀ k, k ∈ kMat → D k = false) (hI : Imat nB t) : Imat nB t' := by
  unfold Imat at hI ⊢
  simp only [(h.1 112 (hd 112 (by decide))).2.2.1, (h.1 2112 (hd 2112 (by decide))).2.2.2.1, (h.1 2112 (hd 2112 (by decide))).2.2.2.2.1, (h.1 2112 (hd 2112 (by decide))).1, (h.1 3348 (hd 3348 (by decide))).2.2.2.2.1]
  exact hI
def Ilack (nB : Nat) (t : TS) : Prop := (∀ i, i < nB → tI t 108 i = tA t 3315 0 i ∧ (tA t 3315 0 i = 0 ∨ tA t 3315 0 i = 1)) ∧ ∀ i, nB ≤ i → tA t 3315 0 i = 0
def kLack : List Nat := [108, 3315]
theorem Ilack_f {D : Nat → Bool} {t t' : TS} {nB : Nat} (h : frm D t t') (hd : ∀ k, k ∈ kLack → D k = false) (hI : Ilack nB t) : Ilack nB t' := by
  unfold Ilack at hI ⊢
  simp only [(h.1 108 (hd 108 (by decide))).2.1, (h.1 3315 (hd 3315 (by decide))).2.2.2.2.1]
  exact hI
/-- the place of a body of a kind -/
def six (p : Int32 → Bool) (t : TS) (n : Nat) (x : Int32) : Option Nat := oel (ix n x) none (fun i => if p (tA t 3308 0 i) then some i else none)
theorem six_some {p : Int32 → Bool} {t : TS} {n i : Nat} {x : Int32} (h : six p t n x = some i) : i < n ∧ x = nt i ∧ p (tA t 3308 0 i) = true := by
  unfold six at h
  cases e : ix n x with
  | none => rw [e] at h; cases h
  | some j =>
    rw [e, oel_s] at h
    by_cases g : p (tA t 3308 0 j) = true
    · rw [if_pos g] at h
      cases h
      exact ⟨(ix_some e).1, (ix_some e).2, g⟩
    · rw [if_neg g] at h; cases h
theorem six_nt {p : Int32 → Bool} {t : TS} {n i : Nat} (hi : i < n) (hn : n ≤ 150) (hp : p (tA t 3308 0 i) = true) : six p t n (nt i) = some i := by
  unfold six
  rw [ix_nt hi (by omega), oel_s, if_pos hp]
section
variable {t : TS} {nB : Nat}
theorem bodyAt_eq (hL : Ilen t) (hB : Ibody nB t) (x : Int32) : F_X12_bodyAt t x = some (ix nB x) := by
  obtain ⟨h1, h2, h3, h4, h5⟩ := hB
  unfold F_X12_bodyAt
  rw [win_eq, h2]
  rw [(show tL _ 3203 0 = 150 from hL 3203 rfl)]
  refine (look (n := nB) (N := 150) (x := x) (by omega) h1 (some none) (fun i => some (tQ t 3203 0 i))).trans ?_
  cases h : ix nB x with
  | none => rfl
  | some i => rw [oel_s, (h4 i (ix_some h).1).1]
theorem isBody_eqM (hB : Mbody nB t) (x : Int32) : F_X13_isBody t x = some (b1 (ix nB x).isSome) := by
  obtain ⟨h1, h3, h4⟩ := hB
  unfold F_X13_isBody
  rw [in_eq, h3, dix (by omega), ob_s, gb_b1]
theorem isBody_eq (hB : Ibody nB t) (x : Int32) : F_X13_isBody t x = some (b1 (ix nB x).isSome) := isBody_eqM (IbM hB) x
theorem X1_isClub_eq (i : Nat) : F_X1_isClub t i = some (b1 (isCl (tI t 101 i))) := by
  unfold F_X1_isClub isCl B_X1_isClub_17
  by_cases h1 : tI t 101 i = 5
  · simp [h1, b1]
  · by_cases h2 : tI t 101 i = 7 <;> simp [h1, h2, b1]
theorem X1_isPlayer_eq (i : Nat) : F_X1_isPlayer t i = some (b1 (isPl (tI t 101 i))) := by
  unfold F_X1_isPlayer isPl B_X1_isPlayer_24
  by_cases h1 : tI t 101 i = 2
  · simp [h1, b1]
  · by_cases h2 : tI t 101 i = 3
    · simp [h2, b1]
    · by_cases h3 : tI t 101 i = 4 <;> simp [h1, h2, h3, b1]
theorem isUnder_5 (k : Int32) : F_X13_isUnder t k 5 = some (b1 (isCl k)) := by
  unfold F_X13_isUnder isCl
  by_cases h1 : k = 5
  · simp [h1, b1]
  · by_cases h2 : k = 7 <;> simp [h1, h2, b1]
theorem isUnder_2 (k : Int32) : F_X13_isUnder t k 2 = some (b1 (isPl k)) := by
  unfold F_X13_isUnder isPl B_X13_isUnder_58
  by_cases h1 : k = 2
  · simp [h1, b1]
  · by_cases h2 : k = 3
    · simp [h2, b1]
    · by_cases h3 : k = 4 <;> simp [h1, h2, h3, b1]
theorem clubAt_eq (hL : Ilen t) (hB : Ibody nB t) (x : Int32) : F_X12_clubAt t x = some (six isCl t nB x) := by
  unfold F_X12_clubAt six
  rw [bodyAt_eq hL hB, ob_s]
  cases h : ix nB x with
  | none => rfl
  | some i =>
    rw [oc_s, oel_s, X1_isClub_eq, ob_s, (hB.2.2.2.1 i (ix_some h).1).2.2.2.1]
    cases isCl (tA t 3308 0 i) <;> rfl
theorem playerAt_eq (hL : Ilen t) (hB : Ibody nB t) (x : Int32) : F_X12_playerAt t x = some (six isPl t nB x) := by
  unfold F_X12_playerAt six
  rw [bodyAt_eq hL hB, ob_s]
  cases h : ix nB x with
  | none => rfl
  | some i =>
    rw [oc_s, oel_s, X1_isPlayer_eq, ob_s, (hB.2.2.2.1 i (ix_some h).1).2.2.2.1]
    cases isPl (tA t 3308 0 i) <;> rfl
theorem isClub_eqM (hL : Ilen t) (hB : Mbody nB t) (x : Int32) : F_X13_isClub t x = some (b1 (six isCl t nB x).isSome) := by
  have h150 := hB.1
  unfold F_X13_isClub six
  rw [isBody_eqM hB, ob_s]
  cases h : ix nB x with
  | none => rfl
  | some i =>
    obtain ⟨h1, rfl⟩ := ix_some h
    rw [oel_s, (show tL _ 3308 0 = 150 from hL 3308 rfl), gd_nt _ (by omega) (by omega), nt_cl (by omega), isUnder_5, ob_s]
    cases isCl (tA t 3308 0 i) <;> rfl
theorem isClub_eq (hL : Ilen t) (hB : Ibody nB t) (x : Int32) : F_X13_isClub t x = some (b1 (six isCl t nB x).isSome) := isClub_eqM hL (IbM hB) x
theorem isPlayer_eqM (hL : Ilen t) (hB : Mbody nB t) (x : Int32) : F_X13_isPlayer t x = some (b1 (six isPl t nB x).isSome) := by
  have h150 := hB.1
  unfold F_X13_isPlayer six
  rw [isBody_eqM hB, ob_s]
  cases h : ix nB x with
  | none => rfl
  | some i =>
    obtain ⟨h1, rfl⟩ := ix_some h
    rw [oel_s, (show tL _ 3308 0 = 150 from hL 3308 rfl), gd_nt _ (by omega) (by omega), nt_cl (by omega), isUnder_2, ob_s]
    cases isPl (tA t 3308 0 i) <;> rfl
theorem isPlayer_eq (hL : Ilen t) (hB : Ibody nB t) (x : Int32) : F_X13_isPlayer t x = some (b1 (six isPl t nB x).isSome) := isPlayer_eqM hL (IbM hB) x
end
