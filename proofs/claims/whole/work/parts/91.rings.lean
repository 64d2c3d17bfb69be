/-! PART 91: rings, the class's table. -/
def rgX (mw : Nat → Nat) : Nat → Nat
  | 0 => 0
  | j + 1 => if rgX mw j < mw j then mw j else rgX mw j
theorem rgX_eq {mw : Nat → Nat} {k : Nat} : ∀ j, rgX mw j = if k < j then (if (rgF mw k j).1 < mw k then mw k else (rgF mw k j).1) else (rgF mw k j).1
  | 0 => rfl
  | j + 1 => by
    have ih := rgX_eq (mw := mw) (k := k) j
    have e0 : rgF mw k (j + 1) = if j = k then rgF mw k j else if (rgF mw k j).1 < mw j then (mw j, j) else rgF mw k j := rfl
    have e1 : rgX mw (j + 1) = if rgX mw j < mw j then mw j else rgX mw j := rfl
    rw [e1, ih, e0]
    by_cases e : j = k
    · subst e
      rw [if_neg (Nat.lt_irrefl j), if_pos (Nat.lt_succ_self j), if_pos rfl]
    · rw [if_neg e]
      by_cases e2 : k < j
      · rw [if_pos e2, if_pos (show k < j + 1 by omega)]
        by_cases e3 : (rgF mw k j).1 < mw j
        · rw [if_pos e3]
          show _ = if mw j < mw k then mw k else mw j
          by_cases e4 : (rgF mw k j).1 < mw k
          · rw [if_pos e4]
            by_cases e5 : mw k < mw j
            · rw [if_pos e5, if_neg (by omega)]
            · rw [if_neg e5]
              by_cases e6 : mw j < mw k
              · rw [if_pos e6]
              · rw [if_neg e6]; omega
          · rw [if_neg e4, if_pos e3, if_neg (by omega)]
        · rw [if_neg e3]
          by_cases e4 : (rgF mw k j).1 < mw k
          · rw [if_pos e4, if_neg (by omega)]
          · rw [if_neg e4, if_neg e3]
      · rw [if_neg e2, if_neg (show ¬ k < j + 1 by omega)]
        by_cases e3 : (rgF mw k j).1 < mw j
        · rw [if_pos e3, if_pos e3]
        · rw [if_neg e3, if_neg e3]
theorem rgW_X {mw : Nat → Nat} {k n : Nat} (h : k < n) : (rgW mw k n).1 = rgX mw n := by
  rw [rgX_eq (k := k) n, if_pos h]
  unfold rgW
  split <;> rfl
theorem rgF_sp {mw : Nat → Nat} {k : Nat} : ∀ j, ((rgF mw k j).1 = 0 ∧ (rgF mw k j).2 = k ∧ ∀ i, i < j → ¬ i = k → mw i = 0) ∨ (0 < (rgF mw k j).1 ∧ (rgF mw k j).2 < j ∧ ¬ (rgF mw k j).2 = k ∧ mw (rgF mw k j).2 = (rgF mw k j).1 ∧ (∀ i, i < j → ¬ i = k → mw i ≤ (rgF mw k j).1) ∧ ∀ i, i < (rgF mw k j).2 → ¬ i = k → mw i < (rgF mw k j).1)
  | 0 => Or.inl ⟨rfl, rfl, fun i hi => absurd hi (Nat.not_lt_zero i)⟩
  | j + 1 => by
    have ih := rgF_sp (mw := mw) (k := k) j
    have e0 : rgF mw k (j + 1) = if j = k then rgF mw k j else if (rgF mw k j).1 < mw j then (mw j, j) else rgF mw k j := rfl
    rw [e0]
    by_cases e : j = k
    · rw [if_pos e]
      rcases ih with ⟨a1, a2, a3⟩ | ⟨a1, a2, a3, a4, a5, a6⟩
      · exact Or.inl ⟨a1, a2, fun i hi hk => a3 i (by omega) hk⟩
      · exact Or.inr ⟨a1, by omega, a3, a4, fun i hi hk => a5 i (by omega) hk, a6⟩
    rw [if_neg e]
    by_cases e2 : (rgF mw k j).1 < mw j
    · rw [if_pos e2]
      refine Or.inr ⟨by show 0 < mw j; omega, Nat.lt_succ_self j, e, rfl, fun i hi hk => ?_, fun i hi hk => ?_⟩
      · show mw i ≤ mw j
        by_cases e3 : i = j
        · rw [e3]; exact Nat.le_refl _
        · rcases ih with ⟨a1, a2, a3⟩ | ⟨a1, a2, a3, a4, a5, a6⟩
          · rw [a3 i (by omega) hk]; exact Nat.zero_le _
          · have := a5 i (by omega) hk; omega
      · show mw i < mw j
        have hi' : i < j := hi
        rcases ih with ⟨a1, a2, a3⟩ | ⟨a1, a2, a3, a4, a5, a6⟩
        · rw [a3 i hi' hk]; omega
        · have := a5 i hi' hk; omega
    · rw [if_neg e2]
      rcases ih with ⟨a1, a2, a3⟩ | ⟨a1, a2, a3, a4, a5, a6⟩
      · refine Or.inl ⟨a1, a2, fun i hi hk => ?_⟩
        by_cases e3 : i = j
        · subst e3; omega
        · exact a3 i (by omega) hk
      · refine Or.inr ⟨a1, by omega, a3, a4, fun i hi hk => ?_, a6⟩
        by_cases e3 : i = j
        · subst e3; omega
        · exact a5 i (by omega) hk
theorem rgW_sp {mw : Nat → Nat} {k n : Nat} (hk : k < n) (h : 0 < (rgW mw k n).1) : (rgW mw k n).2 < n ∧ mw (rgW mw k n).2 = (rgW mw k n).1 ∧ (((rgW mw k n).2 = k ∧ ∀ i, i < n → ¬ i = k → ¬ mw i = (rgW mw k n).1) ∨ (¬ (rgW mw k n).2 = k ∧ ∀ i, i < (rgW mw k n).2 → ¬ i = k → ¬ mw i = (rgW mw k n).1)) := by
  have hs := rgF_sp (mw := mw) (k := k) n
  unfold rgW at h ⊢
  by_cases e : (rgF mw k n).1 < mw k
  · rw [if_pos e]
    refine ⟨hk, rfl, Or.inl ⟨rfl, fun i hi hne q => ?_⟩⟩
    have q' : mw i = mw k := q
    rcases hs with ⟨a1, a2, a3⟩ | ⟨a1, a2, a3, a4, a5, a6⟩
    · have := a3 i hi hne; omega
    · have := a5 i hi hne; omega
  · rw [if_neg e] at h ⊢
    rcases hs with ⟨a1, a2, a3⟩ | ⟨a1, a2, a3, a4, a5, a6⟩
    · omega
    · refine ⟨a2, a4, Or.inr ⟨a3, fun i hi hne q => ?_⟩⟩
      have := a6 i hi hne; omega
theorem rgM_pos {w Vd : Nat → Nat} {g k fr : Nat} (h : 0 < rgM w Vd g k fr) : g.testBit fr = false ∧ 0 < Vd (g ||| 2 ^ fr) := by
  unfold rgM at h
  by_cases e : g.testBit fr = true
  · rw [if_pos e] at h; omega
  · rw [if_neg e] at h
    refine ⟨by simpa using e, ?_⟩
    by_cases e2 : fr = k
    · rw [if_pos e2] at h; exact h
    · rw [if_neg e2] at h
      by_cases e3 : (w k).testBit fr = true
      · rw [if_pos e3] at h
        by_cases e4 : Vd (g ||| 2 ^ fr) = 0
        · rw [if_pos e4] at h; omega
        · omega
      · rw [if_neg e3] at h; omega
theorem full_or : ∀ k, k < 8 → (2 ^ k - 1) ||| 2 ^ k = 2 ^ (k + 1) - 1 ∧ (2 ^ k - 1).testBit k = false := by decide +kernel
theorem rgV_id {w : Nat → Nat} {n : Nat} (hn : n ≤ 8) : ∀ d, d ≤ n → 0 < rgV w n d (2 ^ (n - d) - 1)
  | 0, _ => Nat.zero_lt_one
  | d + 1, hd => by
    have ih := rgV_id (w := w) hn d (by omega)
    obtain ⟨k, hk⟩ : ∃ k, n - (d + 1) = k := ⟨_, rfl⟩
    have hk1 : n - d = k + 1 := by omega
    obtain ⟨f1, f2⟩ := full_or k (by omega)
    unfold rgV
    rw [hk, rgW_X (by omega), rgX_eq (k := k), if_pos (by omega)]
    have hm : rgM w (rgV w n d) (2 ^ k - 1) k k = rgV w n d (2 ^ (n - d) - 1) := by
      unfold rgM
      rw [f2, if_neg (by decide), if_pos rfl, f1, hk1]
    rw [hm]
    split <;> omega
theorem pc_full : ∀ n, n ≤ 8 → pcB (2 ^ n - 1) = n ∧ ∀ g, g < 2 ^ n - 1 → pcB g < n := by decide +kernel
theorem or_ltn : ∀ n, n ≤ 8 → ∀ g, g < 2 ^ n → ∀ k, k < n → g ||| 2 ^ k < 2 ^ n := by decide +kernel
theorem or_gt : ∀ g, g < 256 → ∀ k, k < 8 → g.testBit k = false → g < g ||| 2 ^ k := by decide +kernel
theorem ee_lt : ∀ a, a < 20 → ∀ b, b < 20 → (nt a - 1 < nt b - 1 ↔ a < b) := by decide +kernel
theorem pow_8 : ∀ n, n ≤ 8 → 2 ^ n ≤ 256 := by decide
section
variable {t : TS} {n : Nat} {w : Nat → Nat}
/-- one entry of the table -/
def tbR (w : Nat → Nat) (n g : Nat) : Int32 := nt (rgV w n (n - pcB g) g) - 1
theorem mwith_eq (hL : Ilen t) (hn : n ≤ 8) (hw0 : ∀ i, i < n → tA t 2800 0 i = nt (w i) ∧ w i < 256) {g k d fr : Nat} (hg : g < 2 ^ n) (hk : pcB g = k) (hd : n - (d + 1) = k) (hd1 : d + 1 ≤ n) (hfr : fr < n) (hT : g.testBit fr = false → tA t 2804 0 (g ||| 2 ^ fr) = tbR w n (g ||| 2 ^ fr)) : F_X8_mostWith t (nt g) (nt k) (nt fr) = some (nt (rgM w (rgV w n d) g k fr) - 1) := by
  have h8 := pow_8 n hn
  have hg8 : g < 256 := by omega
  have hpt : g.testBit fr = false → tA t 2804 0 (g ||| 2 ^ fr) = nt (rgV w n d (g ||| 2 ^ fr)) - 1 := by
    intro q
    rw [hT q]
    unfold tbR
    rw [pc_or g hg8 fr (by omega) q, hk, show n - (k + 1) = d by omega]
  have h23 : ∀ s : Int32, B_X8_mostWith_23 t (nt g) (nt k) (nt fr) s = if g.testBit fr = true then some (nt 0 - 1) else if s = 0 then some (nt 0 - 1) else (if rgV w n d (g ||| 2 ^ fr) = 0 then some (nt 0 - 1) else if fr = k then some (nt (rgV w n d (g ||| 2 ^ fr)) - 1) else some (nt (rgV w n d (g ||| 2 ^ fr) + 1) - 1)) := by
    intro s
    unfold B_X8_mostWith_23 B_X8_mostWith_62
    rw [bit_bb (by omega) (by omega), gw1]
    cases c : g.testBit fr with
    | true => rw [if_pos rfl, if_pos rfl]; rfl
    | false =>
      have ff : ¬ false = true := by decide
      rw [if_neg ff, if_neg ff]
      by_cases e : s = 0
      · rw [if_neg (fun q => q e), if_pos e]; rfl
      · have hlt := or_ltn n hn g hg fr hfr
        have hB := rgV_le w n d (g ||| 2 ^ fr)
        rw [if_pos e, if_neg e, or_pow (by omega), (show tL _ 2804 0 = 256 from hL 2804 rfl), gd_nt _ (by omega) (by omega), nt_cl (by omega), hpt c, ifP (propext (enc_0 _ (by omega)))]
        by_cases e2 : rgV w n d (g ||| 2 ^ fr) = 0
        · rw [if_pos e2, if_pos e2, e2]
        · rw [if_neg e2, if_neg e2]
          by_cases e3 : fr = k
          · rw [if_neg (fun q => q (by rw [e3])), if_pos e3]
          · rw [if_pos (by rw [eq_nt (by omega) (by omega)]; exact e3), if_neg e3, enc_s, Int32.sub_add_cancel]
  have h1 : ¬ (1 : Int32) = 0 := by decide
  have hkn : k < n := by omega
  unfold F_X8_mostWith B_X8_mostWith_18 rgM
  rw [ieQ (by omega) (by omega), (show tL _ 2800 0 = 8 from hL 2800 rfl), gd_nt _ (by omega) (by omega), nt_cl (by omega), (hw0 k hkn).1, bit_bb (by have := (hw0 k hkn).2; omega) (by omega), gw0, h23, h23, if_neg h1, if_pos rfl]
  by_cases c : g.testBit fr = true
  · simp only [if_pos c, ite_self]
  · simp only [if_neg c]
    by_cases e : fr = k
    · simp only [if_pos e]
      split
      · rename_i q; rw [q]
      · rfl
    · simp only [if_neg e]
      by_cases e2 : (w k).testBit fr = true
      · simp only [if_pos e2]
        split <;> rfl
      · simp only [if_neg e2]
end
