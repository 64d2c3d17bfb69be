/-! PART b0: texts: a reader of its own, signs. -/
def bt (k : Nat) : Int32 := if k < 128 then nt k else nt k - 256
/-- the sign at a place, 256 behind the end -/
def chA (T : Nat → Nat) (L p : Nat) : Nat := if p < L then T p else 256
def lk (c : Nat) : Int32 := if c = 256 then -1 else bt c
def pk (c : Nat) : Int32 := if c = 256 then -1 else nt c
def nameN (c : Nat) : Option Nat := if c = 97 then some 0 else if c = 107 then some 1 else if c = 104 then some 2 else if c = 110 then some 3 else if c = 121 then some 4 else if c = 119 then some 5 else if c = 99 then some 6 else if c = 116 then some 7 else if c = 105 then some 8 else if c = 108 then some 9 else if c = 100 then some 10 else if c = 109 then some 11 else none
def isD (c : Nat) : Bool := decide (48 ≤ c) && decide (c ≤ 57)
theorem nameM0 : ∀ c, c ≤ 256 → F_X13_nameOf tz (lk c) = some (oel (nameN c) (-1) nt) := by decide +kernel
theorem nameM {t : TS} {c : Nat} (h : c ≤ 256) : F_X13_nameOf t (lk c) = some (oel (nameN c) (-1) nt) := nameM0 c h
theorem nameC0 : ∀ c, c < 256 → F_J0_indexOf_0f7a4 tz ((pk c).toUInt32 % 65536).toInt32 = some (oel (nameN c) (-1) nt) := by decide +kernel
theorem idx_tz {t : TS} : ∀ N a b c, B_J1_indexOfChar_4cfef_7 N t a b c = B_J1_indexOfChar_4cfef_7 N tz a b c
  | 0, _, _, _ => rfl
  | N + 1, a, b, c => by
    show BB_J1_indexOfChar_4cfef_7 (B_J1_indexOfChar_4cfef_7 N) t a b c = BB_J1_indexOfChar_4cfef_7 (B_J1_indexOfChar_4cfef_7 N) tz a b c
    unfold BB_J1_indexOfChar_4cfef_7
    rw [idx_tz N a b (c + 1)]
theorem nameC {t : TS} {c : Nat} (h : c < 256) : F_J0_indexOf_0f7a4 t ((pk c).toUInt32 % 65536).toInt32 = some (oel (nameN c) (-1) nt) := by
  rw [← nameC0 c h]
  unfold F_J0_indexOf_0f7a4 F_J0_indexOf_7cf53 F_J1_indexOf_4cfef F_J1_indexOfChar_4cfef
  simp only [idx_tz (t := t)]
  rfl
theorem name_lt : ∀ c, c ≤ 256 → ∀ k, nameN c = some k → k < 12 := by
  intro c hc k hk
  unfold nameN at hk
  repeat (first | (split at hk; · cases hk; omega) | cases hk)
theorem lk_eq : ∀ c, c ≤ 256 → ∀ s, s < 128 → (lk c = nt s ↔ c = s) := by decide +kernel
theorem pk_sg : ∀ c, c ≤ 256 → ∀ s, s < 128 → (pk c = nt s ↔ c = s) := by decide +kernel
theorem bt_eq : ∀ c, c < 256 → ∀ s, s < 128 → (bt c = nt s ↔ c = s) := by decide +kernel
theorem bt_255 : ∀ c, c < 256 → bt c &&& 255 = pk c := by decide +kernel
theorem lk_d : ∀ c, c ≤ 256 → decide ((48 : Int32) ≤ lk c ∧ lk c ≤ 57) = isD c := by decide +kernel
theorem pk_d : ∀ c, c ≤ 256 → decide ((48 : Int32) ≤ pk c ∧ pk c ≤ 57) = isD c := by decide +kernel
theorem D_no : ∀ c, c ≤ 256 → isD c = true → nameN c = none ∧ ¬ c = 40 ∧ c < 58 ∧ 48 ≤ c := by decide +kernel
theorem pk_neg : ∀ c, c ≤ 256 → (0 ≤ pk c ↔ c < 256) := by decide +kernel
/-! the reader: (read, the place behind, the steps) or (not, the fault) -/
section
variable (ch : Nat → Nat)
def pNum : Nat → Nat → Int32 → Nat × Int32
  | 0, p, v => (p, v)
  | k + 1, p, v => if isD (ch p) then pNum k (p + 1) (10 * v + nt (ch p) - 48) else (p, v)
def pOpd (rec : Nat → Nat → Bool × Nat × List (Int32 × Int32)) (p o : Nat) : Bool × Nat × List (Int32 × Int32) :=
  if (nameN (ch p)).isSome then (true, p + 1, [(2, oel (nameN (ch p)) (-1) nt)])
  else if ch p = 40 then (if o = 8 then (false, p, []) else if (rec (p + 1) (o + 1)).1 then (if ch (rec (p + 1) (o + 1)).2.1 = 41 then (true, (rec (p + 1) (o + 1)).2.1 + 1, (rec (p + 1) (o + 1)).2.2) else (false, (rec (p + 1) (o + 1)).2.1, [])) else (false, (rec (p + 1) (o + 1)).2.1, []))
  else if (pNum ch 7 p 0).1 = p ∨ isD (ch (pNum ch 7 p 0).1) = true then (false, (pNum ch 7 p 0).1, []) else (true, (pNum ch 7 p 0).1, [(1, (pNum ch 7 p 0).2)])
def pLp (sg : Nat → Bool) (op : Nat → Int32) (rec : Nat → Bool × Nat × List (Int32 × Int32)) : Nat → Nat → List (Int32 × Int32) → Bool × Nat × List (Int32 × Int32)
  | 0, p, c => (true, p, c)
  | f + 1, p, c => if sg (ch p) then (if (rec (p + 1)).1 then pLp sg op rec f (rec (p + 1)).2.1 (c ++ (rec (p + 1)).2.2 ++ [(op (ch p), 0)]) else (false, (rec (p + 1)).2.1, [])) else (true, p, c)
def pRp (sg : Nat → Bool) (op : Nat → Int32) (rec : Nat → Bool × Nat × List (Int32 × Int32)) (p : Nat) : Bool × Nat × List (Int32 × Int32) := if (rec p).1 then pLp ch sg op rec 200 (rec p).2.1 (rec p).2.2 else (false, (rec p).2.1, [])
def sgP (c : Nat) : Bool := decide (c = 42) || (decide (c = 47) || decide (c = 37))
def sgS (c : Nat) : Bool := decide (c = 43) || decide (c = 45)
def sgA (c : Nat) : Bool := decide (c = 38)
def sgE (c : Nat) : Bool := decide (c = 124)
def sgR (c : Nat) : Bool := decide (c = 60) || (decide (c = 61) || decide (c = 62))
def pI : Nat → Nat → Nat → Nat → Bool × Nat × List (Int32 × Int32)
  | 0, _, p, _ => (false, p, [])
  | n + 1, 0, p, o => pOpd ch (pI n 2) p o
  | n + 1, 1, p, o => pRp ch sgP nt (fun p => pI n 0 p o) p
  | n + 1, _, p, o => pRp ch sgS nt (fun p => pI n 1 p o) p
def pBs (rb re : Nat → Nat → Bool × Nat × List (Int32 × Int32)) (p o : Nat) : Bool × Nat × List (Int32 × Int32) :=
  if ch p = 33 then (if o = 8 then (false, p, []) else if (rb (p + 1) (o + 1)).1 then (true, (rb (p + 1) (o + 1)).2.1, (rb (p + 1) (o + 1)).2.2 ++ [(3, 0)]) else (false, (rb (p + 1) (o + 1)).2.1, []))
  else if ch p = 91 then (if o = 8 then (false, p, []) else if (re (p + 1) (o + 1)).1 then (if ch (re (p + 1) (o + 1)).2.1 = 93 then (true, (re (p + 1) (o + 1)).2.1 + 1, (re (p + 1) (o + 1)).2.2) else (false, (re (p + 1) (o + 1)).2.1, [])) else (false, (re (p + 1) (o + 1)).2.1, []))
  else if (pI ch 100 2 p o).1 then (if sgR (ch (pI ch 100 2 p o).2.1) then (if (pI ch 100 2 ((pI ch 100 2 p o).2.1 + 1) o).1 then (true, (pI ch 100 2 ((pI ch 100 2 p o).2.1 + 1) o).2.1, (pI ch 100 2 p o).2.2 ++ (pI ch 100 2 ((pI ch 100 2 p o).2.1 + 1) o).2.2 ++ [(nt (ch (pI ch 100 2 p o).2.1), 0)]) else (false, (pI ch 100 2 ((pI ch 100 2 p o).2.1 + 1) o).2.1, [])) else (false, (pI ch 100 2 p o).2.1, [])) else (false, (pI ch 100 2 p o).2.1, [])
def pB : Nat → Nat → Nat → Nat → Bool × Nat × List (Int32 × Int32)
  | 0, _, p, _ => (false, p, [])
  | n + 1, 0, p, o => pBs ch (pB n 0) (pB n 2) p o
  | n + 1, 1, p, o => pRp ch sgA (fun _ => 4) (fun p => pB n 0 p o) p
  | n + 1, _, p, o => pRp ch sgE (fun _ => 5) (fun p => pB n 1 p o) p
end
/-! where it ends, how many steps -/
def pgo (L p : Nat) (r : Bool × Nat × List (Int32 × Int32)) : Prop := (r.1 = true ∧ p < r.2.1 ∧ r.2.1 ≤ L ∧ p + r.2.2.length ≤ r.2.1) ∨ (r.1 = false ∧ p ≤ r.2.1 ∧ r.2.1 ≤ L)
section
variable {ch : Nat → Nat} {L : Nat}
theorem pNum_go (hch : ∀ p, L ≤ p → ch p = 256) : ∀ k p v, p ≤ L → p ≤ (pNum ch k p v).1 ∧ (pNum ch k p v).1 ≤ L
  | 0, p, v, h => ⟨Nat.le_refl _, h⟩
  | k + 1, p, v, h => by
    unfold pNum
    by_cases c : isD (ch p) = true
    · rw [if_pos c]
      have hp : p < L := by
        by_cases e : p < L
        · exact e
        · rw [hch p (by omega)] at c; exact absurd c (by decide)
      have := pNum_go hch k (p + 1) (10 * v + nt (ch p) - 48) (by omega)
      omega
    · rw [if_neg c]; exact ⟨Nat.le_refl _, h⟩
theorem ch_lt (hch : ∀ p, L ≤ p → ch p = 256) {p : Nat} (h : ¬ ch p = 256) : p < L := by
  by_cases e : p < L
  · exact e
  · exact absurd (hch p (by omega)) h
theorem pOpd_go (hch : ∀ p, L ≤ p → ch p = 256) {rec : Nat → Nat → Bool × Nat × List (Int32 × Int32)} (hr : ∀ p o, p ≤ L → pgo L p (rec p o)) (p o : Nat) (hp : p ≤ L) : pgo L p (pOpd ch rec p o) := by
  unfold pOpd
  by_cases c1 : (nameN (ch p)).isSome = true
  · rw [if_pos c1]
    have h : ¬ ch p = 256 := fun q => by rw [q] at c1; exact absurd c1 (by decide)
    have := ch_lt hch h
    exact Or.inl ⟨rfl, Nat.lt_succ_self p, this, Nat.le_refl _⟩
  rw [if_neg c1]
  by_cases c2 : ch p = 40
  · rw [if_pos c2]
    have hlt := ch_lt hch (show ¬ ch p = 256 by omega)
    by_cases c3 : o = 8
    · rw [if_pos c3]; exact Or.inr ⟨rfl, Nat.le_refl _, hp⟩
    rw [if_neg c3]
    have hg := hr (p + 1) (o + 1) hlt
    generalize rec (p + 1) (o + 1) = r at hg ⊢
    rcases hg with ⟨g1, g2, g3, g4⟩ | ⟨g1, g2, g3⟩
    · rw [if_pos g1]
      by_cases c4 : ch r.2.1 = 41
      · rw [if_pos c4]
        have hlt2 := ch_lt hch (show ¬ ch r.2.1 = 256 by omega)
        exact Or.inl ⟨rfl, by show p < r.2.1 + 1; omega, hlt2, by show p + r.2.2.length ≤ r.2.1 + 1; omega⟩
      · rw [if_neg c4]; exact Or.inr ⟨rfl, by show p ≤ r.2.1; omega, g3⟩
    · rw [if_neg (by rw [g1]; decide)]
      exact Or.inr ⟨rfl, by show p ≤ r.2.1; omega, g3⟩
  rw [if_neg c2]
  obtain ⟨h1, h2⟩ := pNum_go hch 7 p 0 hp
  by_cases c3 : (pNum ch 7 p 0).1 = p ∨ isD (ch (pNum ch 7 p 0).1) = true
  · rw [if_pos c3]; exact Or.inr ⟨rfl, h1, h2⟩
  · rw [if_neg c3]
    have : ¬ (pNum ch 7 p 0).1 = p := fun q => c3 (Or.inl q)
    exact Or.inl ⟨rfl, by show p < (pNum ch 7 p 0).1; omega, h2, by show p + 1 ≤ (pNum ch 7 p 0).1; omega⟩
theorem pLp_go (hch : ∀ p, L ≤ p → ch p = 256) {sg : Nat → Bool} (hsg : sg 256 = false) {op : Nat → Int32} {rec : Nat → Bool × Nat × List (Int32 × Int32)} (hr : ∀ p, p ≤ L → pgo L p (rec p)) (p0 : Nat) : ∀ f p c, p0 < p → p ≤ L → p0 + c.length ≤ p → pgo L p0 (pLp ch sg op rec f p c)
  | 0, p, c, h1, h2, h3 => Or.inl ⟨rfl, h1, h2, h3⟩
  | f + 1, p, c, h1, h2, h3 => by
    unfold pLp
    by_cases c1 : sg (ch p) = true
    · rw [if_pos c1]
      have hlt := ch_lt hch (show ¬ ch p = 256 from fun q => by rw [q, hsg] at c1; cases c1)
      have hg := hr (p + 1) hlt
      generalize rec (p + 1) = r at hg ⊢
      rcases hg with ⟨g1, g2, g3, g4⟩ | ⟨g1, g2, g3⟩
      · rw [if_pos g1]
        refine pLp_go hch hsg hr p0 f r.2.1 _ (by omega) g3 ?_
        simp only [List.length_append, List.length_cons, List.length_nil]
        omega
      · rw [if_neg (by rw [g1]; decide)]
        exact Or.inr ⟨rfl, by show p0 ≤ r.2.1; omega, g3⟩
    · rw [if_neg c1]
      exact Or.inl ⟨rfl, h1, h2, h3⟩
theorem pRp_go (hch : ∀ p, L ≤ p → ch p = 256) {sg : Nat → Bool} (hsg : sg 256 = false) {op : Nat → Int32} {rec : Nat → Bool × Nat × List (Int32 × Int32)} (hr : ∀ p, p ≤ L → pgo L p (rec p)) (p : Nat) (hp : p ≤ L) : pgo L p (pRp ch sg op rec p) := by
  unfold pRp
  rcases hr p hp with ⟨g1, g2, g3, g4⟩ | ⟨g1, g2, g3⟩
  · rw [if_pos g1]
    exact pLp_go hch hsg hr p 200 _ _ g2 g3 g4
  · rw [if_neg (by rw [g1]; decide)]
    exact Or.inr ⟨rfl, g2, g3⟩
theorem pI_go (hch : ∀ p, L ≤ p → ch p = 256) : ∀ n w p o, p ≤ L → pgo L p (pI ch n w p o)
  | 0, w, p, o, hp => Or.inr ⟨rfl, Nat.le_refl _, hp⟩
  | n + 1, w, p, o, hp => by
    have ih := pI_go hch n
    match w with
    | 0 => exact pOpd_go hch (fun p o hp => ih 2 p o hp) p o hp
    | 1 => exact pRp_go hch (sg := sgP) rfl (fun p hp => ih 0 p o hp) p hp
    | w + 2 => exact pRp_go hch (sg := sgS) rfl (fun p hp => ih 1 p o hp) p hp
theorem pBs_go (hch : ∀ p, L ≤ p → ch p = 256) {rb re : Nat → Nat → Bool × Nat × List (Int32 × Int32)} (hb : ∀ p o, p ≤ L → pgo L p (rb p o)) (he : ∀ p o, p ≤ L → pgo L p (re p o)) (p o : Nat) (hp : p ≤ L) : pgo L p (pBs ch rb re p o) := by
  unfold pBs
  by_cases c1 : ch p = 33
  · rw [if_pos c1]
    have hlt := ch_lt hch (show ¬ ch p = 256 by omega)
    by_cases c3 : o = 8
    · rw [if_pos c3]; exact Or.inr ⟨rfl, Nat.le_refl _, hp⟩
    rw [if_neg c3]
    have hg := hb (p + 1) (o + 1) hlt
    generalize rb (p + 1) (o + 1) = r at hg ⊢
    rcases hg with ⟨g1, g2, g3, g4⟩ | ⟨g1, g2, g3⟩
    · rw [if_pos g1]
      refine Or.inl ⟨rfl, by show p < r.2.1; omega, g3, ?_⟩
      show p + (r.2.2 ++ [((3 : Int32), (0 : Int32))]).length ≤ r.2.1
      rw [List.length_append, List.length_cons, List.length_nil]
      omega
    · rw [if_neg (by rw [g1]; decide)]
      exact Or.inr ⟨rfl, by show p ≤ r.2.1; omega, g3⟩
  rw [if_neg c1]
  by_cases c2 : ch p = 91
  · rw [if_pos c2]
    have hlt := ch_lt hch (show ¬ ch p = 256 by omega)
    by_cases c3 : o = 8
    · rw [if_pos c3]; exact Or.inr ⟨rfl, Nat.le_refl _, hp⟩
    rw [if_neg c3]
    have hg := he (p + 1) (o + 1) hlt
    generalize re (p + 1) (o + 1) = r at hg ⊢
    rcases hg with ⟨g1, g2, g3, g4⟩ | ⟨g1, g2, g3⟩
    · rw [if_pos g1]
      by_cases c4 : ch r.2.1 = 93
      · rw [if_pos c4]
        have hlt2 := ch_lt hch (show ¬ ch r.2.1 = 256 by omega)
        exact Or.inl ⟨rfl, by show p < r.2.1 + 1; omega, hlt2, by show p + r.2.2.length ≤ r.2.1 + 1; omega⟩
      · rw [if_neg c4]; exact Or.inr ⟨rfl, by show p ≤ r.2.1; omega, g3⟩
    · rw [if_neg (by rw [g1]; decide)]
      exact Or.inr ⟨rfl, by show p ≤ r.2.1; omega, g3⟩
  rw [if_neg c2]
  have hs := pI_go hch 100 2 p o hp
  generalize pI ch 100 2 p o = s at hs ⊢
  rcases hs with ⟨s1, s2, s3, s4⟩ | ⟨s1, s2, s3⟩
  · rw [if_pos s1]
    by_cases c3 : sgR (ch s.2.1) = true
    · rw [if_pos c3]
      have hlt := ch_lt hch (show ¬ ch s.2.1 = 256 from fun q => by rw [q] at c3; exact absurd c3 (by decide))
      have hg := pI_go hch 100 2 (s.2.1 + 1) o hlt
      generalize pI ch 100 2 (s.2.1 + 1) o = r at hg ⊢
      rcases hg with ⟨g1, g2, g3, g4⟩ | ⟨g1, g2, g3⟩
      · rw [if_pos g1]
        refine Or.inl ⟨rfl, by show p < r.2.1; omega, g3, ?_⟩
        show p + (s.2.2 ++ r.2.2 ++ [(nt (ch s.2.1), (0 : Int32))]).length ≤ r.2.1
        rw [List.length_append, List.length_append, List.length_cons, List.length_nil]
        omega
      · rw [if_neg (by rw [g1]; decide)]
        exact Or.inr ⟨rfl, by show p ≤ r.2.1; omega, g3⟩
    · rw [if_neg c3]; exact Or.inr ⟨rfl, by show p ≤ s.2.1; omega, s3⟩
  · rw [if_neg (by rw [s1]; decide)]
    exact Or.inr ⟨rfl, s2, s3⟩
theorem pB_go (hch : ∀ p, L ≤ p → ch p = 256) : ∀ n w p o, p ≤ L → pgo L p (pB ch n w p o)
  | 0, w, p, o, hp => Or.inr ⟨rfl, Nat.le_refl _, hp⟩
  | n + 1, w, p, o, hp => by
    have ih := pB_go hch n
    match w with
    | 0 => exact pBs_go hch (fun p o hp => ih 0 p o hp) (fun p o hp => ih 2 p o hp) p o hp
    | 1 => exact pRp_go hch (sg := sgA) rfl (fun p hp => ih 0 p o hp) p hp
    | w + 2 => exact pRp_go hch (sg := sgE) rfl (fun p hp => ih 1 p o hp) p hp
end
