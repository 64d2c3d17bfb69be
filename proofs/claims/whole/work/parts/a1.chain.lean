/-! PART a1: chains of deals: one set. -/
section
variable {t : TS} {n v : Nat} {pl cl fe : Nat → Nat} {ow : Nat → Option Nat} {oth co : Nat → Int32}
def dz (cl fe : Nat → Nat) (ow : Nat → Option Nat) (v i : Nat) : Nat → Int
  | 0 => 0
  | k + 1 => dz cl fe ow v i k + (if v.testBit k then ((if ow k = some (cl i) then (fe k : Int) else 0) - (if cl k = cl i then (fe k : Int) else 0)) else 0)
theorem dz_bd (hfe : ∀ i, i < n → fe i ≤ 999999) (i : Nat) : ∀ k, k ≤ n → -(999999 * (k : Int)) ≤ dz cl fe ow v i k ∧ dz cl fe ow v i k ≤ 999999 * (k : Int)
  | 0, _ => ⟨by show -(999999 * (0 : Int)) ≤ 0; omega, by show (0 : Int) ≤ 999999 * 0; omega⟩
  | k + 1, hk => by
    have ih := dz_bd hfe i k (by omega)
    have hf := hfe k (by omega)
    unfold dz
    by_cases c : v.testBit k = true
    · rw [if_pos c]
      by_cases c1 : ow k = some (cl i) <;> by_cases c2 : cl k = cl i <;> simp only [c1, c2, if_true, if_false] <;> omega
    · rw [if_neg c]
      omega
def fitC (pl cl fe : Nat → Nat) (ow : Nat → Option Nat) (oth co : Nat → Int32) (n v i : Nat) : Prop := ¬ ow i = none ∧ (oth i < 0 ∨ ¬ (nt v >>> (oth i &&& 31)) &&& 1 = 0) ∧ (∀ j, j < n → v.testBit j = true → ¬ j = i → ¬ pl j = pl i) ∧ 0 ≤ (co i).toInt + dz cl fe ow v i n
def hdC (t : TS) (n : Nat) (pl cl fe : Nat → Nat) (ow : Nat → Option Nat) (oth co : Nat → Int32) : Prop := n ≤ 6 ∧ tI t 405 0 = nt n ∧ ∀ i, i < n → tQ t 2400 0 i = some (pl i) ∧ tQ t 2402 0 i = some (cl i) ∧ tA t 2403 0 i = nt (fe i) ∧ fe i ≤ 999999 ∧ tA t 2404 0 i = oth i ∧ tQ t 2401 0 i = ow i ∧ tI t 103 (cl i) = co i ∧ -2000000000 ≤ (co i).toInt ∧ (co i).toInt ≤ 2000000000
theorem itc_add (x : Int32) (f : Nat) (hf : f ≤ 1000000) (h1 : -2100000000 ≤ x.toInt) (h2 : x.toInt ≤ 2100000000) : (x + nt f).toInt = x.toInt + f ∧ (x - nt f).toInt = x.toInt - f := by
  have e := nt_int (a := f) (by omega)
  exact ⟨by rw [ni_add (by rw [e]; omega) (by rw [e]; omega), e], by rw [ni_sub (by rw [e]; omega) (by rw [e]; omega), e]⟩
theorem cfits_eq (hL : Ilen t) (hD : hdC t n pl cl fe ow oth co) (hv : v < 1024) {i : Nat} (hi : i < n) : ∃ r, F_X4_fits t (nt v) (nt i) = some r ∧ (r = 0 ↔ ¬ fitC pl cl fe ow oth co n v i) := by
  obtain ⟨hn, h405, hq⟩ := hD
  obtain ⟨a1, a2, a3, a4, a5, a6, a7, a8, a9⟩ := hq i hi
  unfold F_X4_fits
  rw [(show tL _ 2401 0 = 6 from hL 2401 rfl), (show tL _ 2404 0 = 6 from hL 2404 rfl), gd_nt _ (by omega) (by omega), gd_nt _ (by omega) (by omega), gd_nt _ (by omega) (by omega), nt_cl (by omega), a6, a5, nxt_e]
  unfold fitC
  by_cases c1 : ow i = none
  · rw [c1, oc_n]
    exact ⟨0, rfl, iff_of_true rfl (fun q => q.1 rfl)⟩
  obtain ⟨s, hs⟩ : ∃ s, ow i = some s := by
    cases h : ow i with
    | none => exact absurd h c1
    | some s => exact ⟨s, rfl⟩
  rw [hs, oc_s]
  have h33 : ∃ r, B_X4_fits_33 t (nt v) (nt i) = some r ∧ (r = 0 ↔ ¬ ((∀ j, j < n → v.testBit j = true → ¬ j = i → ¬ pl j = pl i) ∧ 0 ≤ (co i).toInt + dz cl fe ow v i n)) := by
    unfold B_X4_fits_33
    rw [(show tL _ 2402 0 = 6 from hL 2402 rfl), gd_nt _ (by omega) (by omega), nt_cl (by omega), a2, nxt_e, oc_s, a7]
    obtain ⟨N, hN⟩ : ∃ N : Nat, N = 10000 := ⟨_, rfl⟩
    rw [← hN]
    refine loop_wh (B := fun fu (x : Nat × Int32) => B_X4_fits_46 fu t (nt v) (nt i) x.2 (nt x.1)) (mu := fun x => n - x.1) (G := fun o => ∃ r, o = some r ∧ (r = 0 ↔ ¬ ((∀ j, j < n → v.testBit j = true → ¬ j = i → ¬ pl j = pl i) ∧ 0 ≤ (co i).toInt + dz cl fe ow v i n))) (P := fun x => x.1 ≤ n ∧ (∀ j, j < x.1 → v.testBit j = true → ¬ j = i → ¬ pl j = pl i) ∧ x.2.toInt = (co i).toInt + dz cl fe ow v i x.1) ?_ N (0, co i) ⟨Nat.zero_le _, fun j hj => absurd hj (Nat.not_lt_zero j), (Int.add_zero _).symm⟩ (by show n - 0 < N; omega)
    intro fu x hx
    obtain ⟨k, w⟩ := x
    have hk : k ≤ n := hx.1
    have hd : ∀ j, j < k → v.testBit j = true → ¬ j = i → ¬ pl j = pl i := hx.2.1
    have hw : w.toInt = (co i).toInt + dz cl fe ow v i k := hx.2.2
    show (∃ r, BB_X4_fits_46 (B_X4_fits_46 fu) t (nt v) (nt i) w (nt k) = _ ∧ _) ∨ ∃ a', BB_X4_fits_46 (B_X4_fits_46 fu) t (nt v) (nt i) w (nt k) = _ ∧ _
    have hbd := dz_bd (v := v) (cl := cl) (ow := ow) (fun i hi => (hq i hi).2.2.2.1) i k hk
    unfold BB_X4_fits_46
    rw [h405, igE (by omega) (by omega)]
    by_cases e : k = n
    · left
      subst e
      rw [if_pos (Nat.le_refl _)]
      unfold B_X4_fits_157
      have c0 : (w < 0) = (w.toInt < 0) := propext ni_lt
      rw [ifP c0, hw]
      by_cases c : (co i).toInt + dz cl fe ow v i k < 0
      · exact ⟨0, if_pos c, iff_of_true rfl (fun q => by have := q.2; omega)⟩
      · exact ⟨1, if_neg c, iff_of_false (by decide) (fun q => q ⟨hd, by omega⟩)⟩
    obtain ⟨d1, d2, d3, d4, d5, d6, d7, d8, d9⟩ := hq k (by omega)
    rw [if_neg (by omega), bit_bb hv (by omega), gw1]
    have hstep : dz cl fe ow v i (k + 1) = dz cl fe ow v i k + (if v.testBit k then ((if ow k = some (cl i) then (fe k : Int) else 0) - (if cl k = cl i then (fe k : Int) else 0)) else 0) := rfl
    by_cases c : v.testBit k = true
    case neg =>
      right
      rw [if_neg c]
      unfold B_X4_fits_151
      refine ⟨(k + 1, w), by rw [nt_succ], ⟨by show k + 1 ≤ n; omega, fun j hj hb hne => ?_, ?_⟩, by show n - (k + 1) < n - k; omega⟩
      · by_cases e2 : j = k
        · rw [e2] at hb; exact absurd hb c
        · have : j < k + 1 := hj
          exact hd j (by omega) hb hne
      · show w.toInt = (co i).toInt + dz cl fe ow v i (k + 1)
        rw [hstep, if_neg c, hw, Int.add_zero]
    rw [if_pos c]
    have h91 : B_X4_fits_91 (B_X4_fits_46 fu) t (nt v) (nt i) w (nt k) = B_X4_fits_46 fu t (nt v) (nt i) (w + (if ow k = some (cl i) then nt (fe k) else 0) - (if cl k = cl i then nt (fe k) else 0)) (nt (k + 1)) := by
      unfold B_X4_fits_91 B_X4_fits_119 B_X4_fits_149 B_X4_fits_151
      have c2 : ((some (cl k) : Option Nat) = some (cl i)) = (cl k = cl i) := propext ⟨fun q => Option.some.inj q, fun q => by rw [q]⟩
      simp (disch := omega) only [(show tL _ 2401 0 = 6 from hL 2401 rfl), (show tL _ 2402 0 = 6 from hL 2402 rfl), (show tL _ 2403 0 = 6 from hL 2403 rfl), gd_nt, nt_cl, d6, a2, d2, d3, nxt_e, nt_succ, c2]
      by_cases g1 : ow k = some (cl i)
      · rw [if_pos g1, if_pos g1]
        by_cases g2 : cl k = cl i
        · rw [if_pos g2, if_pos g2]
        · rw [if_neg g2, if_neg g2]
      · rw [if_neg g1, if_neg g1]
        by_cases g2 : cl k = cl i
        · rw [if_pos g2, if_pos g2]
        · rw [if_neg g2, if_neg g2]
    have hnew : (w + (if ow k = some (cl i) then nt (fe k) else 0) - (if cl k = cl i then nt (fe k) else 0)).toInt = (co i).toInt + dz cl fe ow v i (k + 1) := by
      have z0 : (0 : Int32) = nt 0 := rfl
      have e1 : (if ow k = some (cl i) then nt (fe k) else 0) = nt (if ow k = some (cl i) then fe k else 0) := by split <;> rfl
      have e2 : (if cl k = cl i then nt (fe k) else 0) = nt (if cl k = cl i then fe k else 0) := by split <;> rfl
      have i1 : (if ow k = some (cl i) then fe k else 0) ≤ 999999 := by split <;> omega
      have i2 : (if cl k = cl i then fe k else 0) ≤ 999999 := by split <;> omega
      have p1 := (itc_add w _ (Nat.le_trans i1 (by omega)) (by omega) (by omega)).1
      rw [e1, e2, (itc_add (w + nt (if ow k = some (cl i) then fe k else 0)) _ (Nat.le_trans i2 (by omega)) (by rw [p1]; omega) (by rw [p1]; omega)).2, p1, hw, hstep, if_pos c]
      by_cases g1 : ow k = some (cl i) <;> by_cases g2 : cl k = cl i <;> simp only [g1, g2, if_true, if_false] <;> omega
    by_cases e2 : k = i
    · right
      rw [ieQ (by omega) (by omega), if_pos e2, h91]
      refine ⟨(k + 1, _), rfl, ⟨by show k + 1 ≤ n; omega, fun j hj hb hne => ?_, hnew⟩, by show n - (k + 1) < n - k; omega⟩
      have : j < k + 1 := hj
      exact hd j (by omega) hb hne
    have c3 : ((some (pl k) : Option Nat) = some (pl i)) = (pl k = pl i) := propext ⟨fun q => Option.some.inj q, fun q => by rw [q]⟩
    rw [ieQ (by omega) (by omega), if_neg e2]
    simp (disch := omega) only [(show tL _ 2400 0 = 6 from hL 2400 rfl), gd_nt, nt_cl, d1, a1, nxt_e, h91, c3]
    by_cases e3 : pl k = pl i
    · left
      rw [if_pos e3]
      exact ⟨0, rfl, iff_of_true rfl (fun q => q.1 k (by omega) c e2 e3)⟩
    · right
      rw [if_neg e3]
      refine ⟨(k + 1, _), rfl, ⟨by show k + 1 ≤ n; omega, fun j hj hb hne => ?_, hnew⟩, by show n - (k + 1) < n - k; omega⟩
      by_cases e4 : j = k
      · rw [e4]; exact e3
      · have : j < k + 1 := hj
        exact hd j (by omega) hb hne
  obtain ⟨r, r1, r2⟩ := h33
  rw [r1]
  by_cases c2 : oth i < 0
  · rw [if_pos c2]
    exact ⟨r, rfl, r2.trans ⟨fun q q2 => q ⟨q2.2.2.1, q2.2.2.2⟩, fun q q2 => q ⟨by rw [hs] at c1; exact c1, Or.inl c2, q2.1, q2.2⟩⟩⟩
  rw [if_neg c2]
  by_cases c3 : (nt v >>> (oth i &&& 31)) &&& 1 = 0
  · rw [if_neg (fun q => q c3)]
    exact ⟨0, rfl, iff_of_true rfl (fun q => q.2.1.elim c2 (fun q2 => q2 c3))⟩
  · rw [if_pos c3]
    exact ⟨r, rfl, r2.trans ⟨fun q q2 => q ⟨q2.2.2.1, q2.2.2.2⟩, fun q q2 => q ⟨by rw [hs] at c1; exact c1, Or.inr c3, q2.1, q2.2⟩⟩⟩
end
