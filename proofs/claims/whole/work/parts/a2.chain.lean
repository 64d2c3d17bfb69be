/-! PART a2: chains of deals: both ask the same of a set. -/
section
variable {t : TS} {n v : Nat} {pl cl fe : Nat → Nat} {ow : Nat → Option Nat} {oth co : Nat → Int32}
def allC (pl cl fe : Nat → Nat) (ow : Nat → Option Nat) (oth co : Nat → Int32) (n v : Nat) : Prop := ∀ i, i < n → v.testBit i = true → fitC pl cl fe ow oth co n v i
theorem ccan_eq (hL : Ilen t) (hD : hdC t n pl cl fe ow oth co) (hv : v < 1024) : ∃ r, F_X4_canHappen t (nt v) = some r ∧ (r = 0 ↔ ¬ allC pl cl fe ow oth co n v) := by
  have hn := hD.1
  have h405 := hD.2.1
  unfold F_X4_canHappen
  obtain ⟨N, hN⟩ : ∃ N : Nat, N = 10000 := ⟨_, rfl⟩
  rw [← hN]
  refine loop_wh (B := fun fu (k : Nat) => B_X4_canHappen_2 fu t (nt v) (nt k)) (mu := fun k => n - k) (G := fun o => ∃ r, o = some r ∧ (r = 0 ↔ ¬ allC pl cl fe ow oth co n v)) (P := fun k => k ≤ n ∧ ∀ i, i < k → v.testBit i = true → fitC pl cl fe ow oth co n v i) ?_ N 0 ⟨Nat.zero_le _, fun i hi => absurd hi (Nat.not_lt_zero i)⟩ (by omega)
  intro fu k hx
  obtain ⟨hk, hz⟩ := hx
  show (∃ r, BB_X4_canHappen_2 (B_X4_canHappen_2 fu) t (nt v) (nt k) = _ ∧ _) ∨ ∃ a', BB_X4_canHappen_2 (B_X4_canHappen_2 fu) t (nt v) (nt k) = _ ∧ _
  unfold BB_X4_canHappen_2 B_X4_canHappen_29
  rw [h405, igE (by omega) (by omega)]
  by_cases e : k = n
  · left
    subst e
    exact ⟨1, if_pos (Nat.le_refl _), iff_of_false (by decide) (fun q => q hz)⟩
  rw [if_neg (by omega), bit_bb hv (by omega), gw0, nt_succ]
  by_cases c : v.testBit k = true
  case neg =>
    right
    rw [if_neg c]
    refine ⟨k + 1, rfl, ⟨by omega, fun i hi hb => ?_⟩, by omega⟩
    by_cases e2 : i = k
    · rw [e2] at hb; exact absurd hb c
    · exact hz i (by omega) hb
  rw [if_pos c]
  obtain ⟨r, r1, r2⟩ := cfits_eq hL hD hv (i := k) (by omega)
  rw [r1, ob_s]
  by_cases e3 : r = 0
  · left
    exact ⟨0, if_neg (fun q => q e3), iff_of_true rfl (fun q => r2.mp e3 (q k (by omega) c))⟩
  · right
    rw [if_pos e3]
    refine ⟨k + 1, rfl, ⟨by omega, fun i hi hb => ?_⟩, by omega⟩
    by_cases e2 : i = k
    · rw [e2]
      by_cases g : fitC pl cl fe ow oth co n v k
      · exact g
      · exact absurd (r2.mpr g) e3
    · exact hz i (by omega) hb
def hdM (t : TS) (n : Nat) (pl cl fe : Nat → Nat) (ow : Nat → Option Nat) (oth co : Nat → Int32) : Prop := n ≤ 6 ∧ tI t 1370 0 = nt n ∧ ∀ i, i < n → tA t 3371 0 i = nt (pl i) ∧ pl i < 150 ∧ tA t 3372 0 i = nt (cl i) ∧ cl i < 150 ∧ tA t 3373 0 i = nt (fe i) ∧ fe i ≤ 999999 ∧ tA t 3374 0 i = oth i ∧ F_X13_ownerOn t (nt (pl i)) (tI t 1301 0) = some (oel (ow i) (-1) nt) ∧ (∀ c, ow i = some c → c < 150) ∧ tA t 3310 0 (cl i) = co i ∧ -2000000000 ≤ (co i).toInt ∧ (co i).toInt ≤ 2000000000
theorem lj_ad (x : Int64) (f : Nat) (hf : f ≤ 1000000) (h1 : -4000000000 ≤ x.toInt) (h2 : x.toInt ≤ 4000000000) : (x + jn f).toInt = x.toInt + f ∧ (x - jn f).toInt = x.toInt - f := by
  have e := jn_int (a := f) (by omega)
  refine ⟨by rw [lj_add (by rw [e]; omega) (by rw [e]; omega), e], ?_⟩
  rw [Int64.toInt_sub, e]
  exact bm_i6 (by omega) (by omega)
theorem mfit_in (k2 : TS → Int32 → Int32 → Option Int32) (hL : Ilen t) (hD : hdM t n pl cl fe ow oth co) (hv : v < 1024) {i : Nat} (hi : i < n) : (((∀ j, j < n → v.testBit j = true → ¬ j = i → ¬ pl j = pl i) ∧ 0 ≤ (co i).toInt + dz cl fe ow v i n) → B_X13_canAll_62 k2 t (nt v) (nt i) = k2 t (nt v) (nt (i + 1))) ∧ (¬ ((∀ j, j < n → v.testBit j = true → ¬ j = i → ¬ pl j = pl i) ∧ 0 ≤ (co i).toInt + dz cl fe ow v i n) → B_X13_canAll_62 k2 t (nt v) (nt i) = some 0) := by
  obtain ⟨hn, h370, hq⟩ := hD
  obtain ⟨a1, a2, a3, a4, a5, a6, a7, a8, a9, a10, a11, a12⟩ := hq i hi
  have hLL := hL
  unfold B_X13_canAll_62
  simp (disch := omega) only [(show tL _ 3372 0 = 6 from hL 3372 rfl), (show tL _ 3310 0 = 150 from hL 3310 rfl), gd_nt, nt_cl, a3, a10]
  obtain ⟨N, hN⟩ : ∃ N : Nat, N = 10000 := ⟨_, rfl⟩
  rw [← hN]
  refine loop_wh (B := fun fu (x : Nat × Int64) => B_X13_canAll_78 k2 fu t (nt v) (nt i) x.2 (nt x.1)) (mu := fun x => n - x.1) (G := fun o => (((∀ j, j < n → v.testBit j = true → ¬ j = i → ¬ pl j = pl i) ∧ 0 ≤ (co i).toInt + dz cl fe ow v i n) → o = k2 t (nt v) (nt (i + 1))) ∧ (¬ ((∀ j, j < n → v.testBit j = true → ¬ j = i → ¬ pl j = pl i) ∧ 0 ≤ (co i).toInt + dz cl fe ow v i n) → o = some 0)) (P := fun x => x.1 ≤ n ∧ (∀ j, j < x.1 → v.testBit j = true → ¬ j = i → ¬ pl j = pl i) ∧ x.2.toInt = (co i).toInt + dz cl fe ow v i x.1) ?_ N (0, (co i).toInt64) ⟨Nat.zero_le _, fun j hj => absurd hj (Nat.not_lt_zero j), by rw [Int32.toInt_toInt64]; exact (Int.add_zero _).symm⟩ (by show n - 0 < N; omega)
  intro fu x hx
  obtain ⟨k, w⟩ := x
  have hk : k ≤ n := hx.1
  have hd : ∀ j, j < k → v.testBit j = true → ¬ j = i → ¬ pl j = pl i := hx.2.1
  have hw : w.toInt = (co i).toInt + dz cl fe ow v i k := hx.2.2
  show (_ → BB_X13_canAll_78 k2 (B_X13_canAll_78 k2 fu) t (nt v) (nt i) w (nt k) = _) ∧ (_ → BB_X13_canAll_78 k2 (B_X13_canAll_78 k2 fu) t (nt v) (nt i) w (nt k) = _) ∨ ∃ a', BB_X13_canAll_78 k2 (B_X13_canAll_78 k2 fu) t (nt v) (nt i) w (nt k) = _ ∧ _
  have hbd := dz_bd (v := v) (cl := cl) (ow := ow) (fun i hi => (hq i hi).2.2.2.2.2.1) i k hk
  unfold BB_X13_canAll_78
  rw [h370, igE (by omega) (by omega)]
  by_cases e : k = n
  · left
    subst e
    rw [if_pos (Nat.le_refl _)]
    unfold B_X13_canAll_191 B_X13_canAll_199
    have c0 : (0 ≤ lg_cmp w 0) = (0 ≤ w.toInt) := by rw [lc_ge]; rfl
    rw [ifP c0, hw, nt_succ]
    by_cases c : 0 ≤ (co i).toInt + dz cl fe ow v i k
    · exact ⟨fun _ => if_pos c, fun q => absurd ⟨hd, c⟩ q⟩
    · exact ⟨fun q => absurd q.2 c, fun _ => if_neg c⟩
  obtain ⟨d1, d2, d3, d4, d5, d6, d7, d8, d9, d10, d11, d12⟩ := hq k (by omega)
  rw [if_neg (by omega), bit_bb hv (by omega), gw1]
  have hstep : dz cl fe ow v i (k + 1) = dz cl fe ow v i k + (if v.testBit k then ((if ow k = some (cl i) then (fe k : Int) else 0) - (if cl k = cl i then (fe k : Int) else 0)) else 0) := rfl
  by_cases c : v.testBit k = true
  case neg =>
    right
    rw [if_neg c]
    unfold B_X13_canAll_185
    refine ⟨(k + 1, w), by rw [nt_succ], ⟨by show k + 1 ≤ n; omega, fun j hj hb hne => ?_, ?_⟩, by show n - (k + 1) < n - k; omega⟩
    · by_cases e2 : j = k
      · rw [e2] at hb; exact absurd hb c
      · have : j < k + 1 := hj
        exact hd j (by omega) hb hne
    · show w.toInt = (co i).toInt + dz cl fe ow v i (k + 1)
      rw [hstep, if_neg c, hw, Int.add_zero]
  rw [if_pos c]
  have hown : (oel (ow k) (-1) nt = nt (cl i)) = (ow k = some (cl i)) := by
    cases h : ow k with
    | none => exact propext ⟨fun q => absurd q.symm (nneg (by omega)), fun q => by cases q⟩
    | some s =>
      have hs := d9 s h
      exact propext ⟨fun q => by
        have q2 : nt s = nt (cl i) := q
        rw [nt_inj (by omega) (by omega)] at q2
        rw [q2], fun q => by rw [Option.some.inj q]; rfl⟩
  have hcl : (nt (cl k) = nt (cl i)) = (cl k = cl i) := eq_nt (by omega) (by omega)
  have h123 : B_X13_canAll_123 k2 (B_X13_canAll_78 k2 fu) t (nt v) (nt i) w (nt k) = B_X13_canAll_78 k2 fu t (nt v) (nt i) ((w - (if cl k = cl i then jn (fe k) else 0)) + (if ow k = some (cl i) then jn (fe k) else 0)) (nt (k + 1)) := by
    unfold B_X13_canAll_123 B_X13_canAll_150 B_X13_canAll_185
    simp (disch := omega) only [(show tL _ 3371 0 = 6 from hL 3371 rfl), (show tL _ 3372 0 = 6 from hL 3372 rfl), (show tL _ 3373 0 = 6 from hL 3373 rfl), gd_nt, nt_cl, d1, a3, d3, d5, d8, ob_s, nt_succ, nt_jn, hown, hcl]
    by_cases g1 : ow k = some (cl i) <;> by_cases g2 : cl k = cl i <;> simp only [g1, g2, if_true, if_false, not_true_eq_false, not_false_eq_true, Int64.sub_zero, Int64.add_zero]
  have hnew : ((w - (if cl k = cl i then jn (fe k) else 0)) + (if ow k = some (cl i) then jn (fe k) else 0)).toInt = (co i).toInt + dz cl fe ow v i (k + 1) := by
    have e1 : (if ow k = some (cl i) then jn (fe k) else 0) = jn (if ow k = some (cl i) then fe k else 0) := by split <;> rfl
    have e2 : (if cl k = cl i then jn (fe k) else 0) = jn (if cl k = cl i then fe k else 0) := by split <;> rfl
    have i1 : (if ow k = some (cl i) then fe k else 0) ≤ 999999 := by split <;> omega
    have i2 : (if cl k = cl i then fe k else 0) ≤ 999999 := by split <;> omega
    have p1 := (lj_ad w _ (Nat.le_trans i2 (by omega)) (by omega) (by omega)).2
    rw [e1, e2, (lj_ad (w - jn (if cl k = cl i then fe k else 0)) _ (Nat.le_trans i1 (by omega)) (by rw [p1]; omega) (by rw [p1]; omega)).1, p1, hw, hstep, if_pos c]
    by_cases g1 : ow k = some (cl i) <;> by_cases g2 : cl k = cl i <;> simp only [g1, g2, if_true, if_false] <;> omega
  by_cases e2 : k = i
  · right
    rw [ieQ (by omega) (by omega), if_pos e2, h123]
    refine ⟨(k + 1, _), rfl, ⟨by show k + 1 ≤ n; omega, fun j hj hb hne => ?_, hnew⟩, by show n - (k + 1) < n - k; omega⟩
    have : j < k + 1 := hj
    exact hd j (by omega) hb hne
  have c3 : (nt (pl k) = nt (pl i)) = (pl k = pl i) := eq_nt (by omega) (by omega)
  rw [ieQ (by omega) (by omega), if_neg e2]
  simp (disch := omega) only [(show tL _ 3371 0 = 6 from hL 3371 rfl), gd_nt, nt_cl, d1, a1, h123, c3]
  by_cases e3 : pl k = pl i
  · left
    rw [if_neg (fun q => q e3)]
    exact ⟨fun q => absurd e3 (q.1 k (by omega) c e2), fun _ => rfl⟩
  · right
    rw [if_pos e3]
    refine ⟨(k + 1, _), rfl, ⟨by show k + 1 ≤ n; omega, fun j hj hb hne => ?_, hnew⟩, by show n - (k + 1) < n - k; omega⟩
    by_cases e4 : j = k
    · rw [e4]; exact e3
    · have : j < k + 1 := hj
      exact hd j (by omega) hb hne
theorem mcan_eq (hL : Ilen t) (hD : hdM t n pl cl fe ow oth co) (hv : v < 1024) : ∃ r, F_X13_canAll t (nt v) = some r ∧ (r = 0 ↔ ¬ allC pl cl fe ow oth co n v) := by
  have hn := hD.1
  have h370 := hD.2.1
  unfold F_X13_canAll
  obtain ⟨N, hN⟩ : ∃ N : Nat, N = 10000 := ⟨_, rfl⟩
  rw [← hN]
  refine loop_wh (B := fun fu (k : Nat) => B_X13_canAll_2 fu t (nt v) (nt k)) (mu := fun k => n - k) (G := fun o => ∃ r, o = some r ∧ (r = 0 ↔ ¬ allC pl cl fe ow oth co n v)) (P := fun k => k ≤ n ∧ ∀ i, i < k → v.testBit i = true → fitC pl cl fe ow oth co n v i) ?_ N 0 ⟨Nat.zero_le _, fun i hi => absurd hi (Nat.not_lt_zero i)⟩ (by omega)
  intro fu k hx
  obtain ⟨hk, hz⟩ := hx
  show (∃ r, BB_X13_canAll_2 (B_X13_canAll_2 fu) t (nt v) (nt k) = _ ∧ _) ∨ ∃ a', BB_X13_canAll_2 (B_X13_canAll_2 fu) t (nt v) (nt k) = _ ∧ _
  unfold BB_X13_canAll_2
  rw [h370, igE (by omega) (by omega)]
  by_cases e : k = n
  · left
    subst e
    exact ⟨1, if_pos (Nat.le_refl _), iff_of_false (by decide) (fun q => q hz)⟩
  rw [if_neg (by omega), bit_bb hv (by omega), gw1]
  by_cases c : v.testBit k = true
  case neg =>
    right
    rw [if_neg c]
    unfold B_X13_canAll_199
    refine ⟨k + 1, by rw [nt_succ], ⟨by omega, fun i hi hb => ?_⟩, by omega⟩
    by_cases e2 : i = k
    · rw [e2] at hb; exact absurd hb c
    · exact hz i (by omega) hb
  obtain ⟨a1, a2, a3, a4, a5, a6, a7, a8, a9, a10, a11, a12⟩ := hD.2.2 k (by omega)
  obtain ⟨f1, f2⟩ := mfit_in (B_X13_canAll_2 fu) hL hD hv (i := k) (by omega)
  rw [if_pos c]
  simp (disch := omega) only [(show tL _ 3371 0 = 6 from hL 3371 rfl), (show tL _ 3374 0 = 6 from hL 3374 rfl), gd_nt, nt_cl, a1, a8, ob_s, a7]
  have hneg : (oel (ow k) (-1) nt < 0) = (ow k = none) := by
    cases h : ow k with
    | none => exact propext ⟨fun _ => rfl, fun _ => by rw [oel_n]; decide⟩
    | some s => exact propext ⟨fun q => absurd q (by rw [oel_s]; exact nt_neg (by have := a9 s h; omega)), fun q => by cases q⟩
  rw [ifP hneg]
  have ok : fitC pl cl fe ow oth co n v k → (∃ a', (B_X13_canAll_2 fu t (nt v) (nt (k + 1)) : Option Int32) = B_X13_canAll_2 fu t (nt v) (nt a') ∧ (a' ≤ n ∧ ∀ i, i < a' → v.testBit i = true → fitC pl cl fe ow oth co n v i) ∧ n - a' < n - k) := by
    intro g
    refine ⟨k + 1, rfl, ⟨by omega, fun i hi hb => ?_⟩, by omega⟩
    by_cases e2 : i = k
    · rw [e2]; exact g
    · exact hz i (by omega) hb
  have bad : ¬ fitC pl cl fe ow oth co n v k → (∃ r, (some 0 : Option Int32) = some r ∧ (r = 0 ↔ ¬ allC pl cl fe ow oth co n v)) := fun g => ⟨0, rfl, iff_of_true rfl (fun q => g (q k (by omega) c))⟩
  by_cases c1 : ow k = none
  · left
    rw [if_pos c1]
    exact bad (fun q => q.1 c1)
  rw [if_neg c1]
  by_cases cD : (∀ j, j < n → v.testBit j = true → ¬ j = k → ¬ pl j = pl k) ∧ 0 ≤ (co k).toInt + dz cl fe ow v k n
  · have e62 := f1 cD
    by_cases c2 : oth k < 0
    · right
      rw [if_pos c2, e62]
      exact ok ⟨c1, Or.inl c2, cD⟩
    rw [if_neg c2]
    by_cases c3 : (nt v >>> (oth k &&& 31)) &&& 1 = 0
    · left
      rw [if_neg (fun q => q c3)]
      exact bad (fun q => q.2.1.elim c2 (fun q2 => q2 c3))
    · right
      rw [if_pos c3, e62]
      exact ok ⟨c1, Or.inr c3, cD⟩
  · have e62 := f2 cD
    left
    rw [e62, ite_self, ite_self]
    exact bad (fun q => cD q.2.2)
end
