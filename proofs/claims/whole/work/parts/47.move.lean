/-! PART 47: moves; what is spread, caps of three years. -/
theorem nt_div {a b : Nat} (ha : a < 2147483648) (hb : b < 2147483648) : nt a / nt b = nt (a / b) := (Int32.ofNat_div ha hb).symm
theorem nt_irm {a b : Nat} (ha : a < 2147483648) (hb : b < 2147483648) : irm (nt a) (nt b) = nt (a % b) := by
  unfold irm
  have h1 : a / b * b ≤ a := Nat.div_mul_le_self a b
  rw [nt_div ha hb, nt_mul, nt_sub h1]
  congr 1
  have h2 := Nat.div_add_mod a b
  rw [Nat.mul_comm] at h2
  omega
def Ishare (nB m : Nat) (t : TS) : Prop := (tR t 614 m = none ∧ ∀ c, c < 150 → tA t 3347 0 (150 * m + c) = 0) ∨ (tR t 614 m = some m ∧ tL t 2614 m ≤ nB ∧ (∀ c, c < tL t 2614 m → tA t 2614 m c = tA t 3347 0 (150 * m + c)) ∧ ∀ c, tL t 2614 m ≤ c → c < 150 → tA t 3347 0 (150 * m + c) = 0)
def Imove1 (nB nS m : Nat) (t : TS) : Prop := tQ t 3206 0 m = some m ∧ tE t 6 m = true ∧ tI t 600 m = nt m ∧ (∃ p, p < nB ∧ isPl (tA t 3308 0 p) = true ∧ tR t 601 m = some p ∧ tA t 3328 0 m = nt p) ∧ (∃ c, c < nB ∧ isCl (tA t 3308 0 c) = true ∧ tR t 602 m = some c ∧ tA t 3329 0 m = nt c) ∧ (∃ c, c < nB ∧ isCl (tA t 3308 0 c) = true ∧ tR t 603 m = some c ∧ tA t 3330 0 m = nt c) ∧
  (∃ f, f ≤ 999999 ∧ tI t 604 m = nt f ∧ tA t 3331 0 m = nt f) ∧ (tI t 605 m = tA t 3333 0 m ∧ (tA t 3333 0 m = 0 ∨ tA t 3333 0 m = 1)) ∧ (∃ o, o ≤ 999999 ∧ tI t 606 m = nt o ∧ tA t 3339 0 m = nt o) ∧ (∃ s dd, s < nS ∧ dd ≤ 2999 ∧ tR t 607 m = some s ∧ tA t 3340 0 m = nt s ∧ tA t 3319 0 s = nt dd ∧ tA t 3332 0 m = nt dd) ∧ (tI t 608 m = tA t 3334 0 m ∧ (tA t 3334 0 m = 0 ∨ tA t 3334 0 m = 1)) ∧
  (tA t 3333 0 m = 0 → ∃ sp, 1 ≤ sp ∧ sp ≤ 5 ∧ tI t 609 m = nt sp ∧ tA t 3335 0 m = nt sp) ∧ (∃ k, k ≤ 50 ∧ tI t 610 m = nt k ∧ tA t 3336 0 m = nt k) ∧ (∃ k, k ≤ 500000 ∧ tI t 611 m = nt k ∧ tA t 3341 0 m = nt k) ∧ ((tR t 612 m = none ∧ tA t 3342 0 m = -1) ∨ ∃ c, c < nB ∧ tR t 612 m = some c ∧ tA t 3342 0 m = nt c) ∧ (∃ k, k ≤ 50000 ∧ tI t 613 m = nt k ∧ tA t 3343 0 m = nt k) ∧ Ishare nB m t ∧
  (∀ c, c < 150 → ∃ k, k ≤ 50000 ∧ tA t 3347 0 (150 * m + c) = nt k) ∧ tI t 615 m = tA t 3344 0 m ∧ (∃ k, k ≤ 999999 ∧ tI t 616 m = nt k ∧ tA t 3337 0 m = nt k) ∧ (¬ tA t 3337 0 m = 0 → tI t 617 m = tA t 3338 0 m) ∧ tI t 618 m = tA t 3346 0 m ∧ ∃ k, k ≤ 999999 ∧ tI t 619 m = nt k ∧ tA t 3345 0 m = nt k
def Imove (nB nS nM : Nat) (t : TS) : Prop := nM ≤ 200 ∧ tI t 1207 0 = nt nM ∧ tI t 1327 0 = nt nM ∧ (∀ m, m < nM → Imove1 nB nS m t) ∧ ∀ m, nM ≤ m → tE t 6 m = false ∧ tE t 2614 m = false ∧ tA t 3336 0 m = 0 ∧ tA t 3337 0 m = 0 ∧ tA t 3339 0 m = 0 ∧ tA t 3341 0 m = 0 ∧ tA t 3343 0 m = 0 ∧ tA t 3344 0 m = 0 ∧ tA t 3345 0 m = 0 ∧ tA t 3346 0 m = 0 ∧ ∀ c, c < 150 → tA t 3347 0 (150 * m + c) = 0
def kMove : List Nat := [6, 600, 601, 602, 603, 604, 605, 606, 607, 608, 609, 610, 611, 612, 613, 614, 615, 616, 617, 618, 619, 1207, 1327, 2614, 3206, 3308, 3319, 3328, 3329, 3330, 3331, 3332, 3333, 3334, 3335, 3336, 3337, 3338, 3339, 3340, 3341, 3342, 3343, 3344, 3345, 3346, 3347]
theorem Imove_f {D : Nat → Bool} {t t' : TS} {nB nS nM : Nat} (h : frm D t t') (hd : ∀ k, k ∈ kMove → D k = false) (hI : Imove nB nS nM t) : Imove nB nS nM t' := by
  unfold Imove Imove1 Ishare at hI ⊢
  simp only [(h.1 6 (hd 6 (by decide))).1, (h.1 600 (hd 600 (by decide))).2.1, (h.1 601 (hd 601 (by decide))).2.2.1, (h.1 602 (hd 602 (by decide))).2.2.1, (h.1 603 (hd 603 (by decide))).2.2.1, (h.1 604 (hd 604 (by decide))).2.1, (h.1 605 (hd 605 (by decide))).2.1, (h.1 606 (hd 606 (by decide))).2.1, (h.1 607 (hd 607 (by decide))).2.2.1, (h.1 608 (hd 608 (by decide))).2.1, (h.1 609 (hd 609 (by decide))).2.1, (h.1 610 (hd 610 (by decide))).2.1, (h.1 611 (hd 611 (by decide))).2.1, (h.1 612 (hd 612 (by decide))).2.2.1, (h.1 613 (hd 613 (by decide))).2.1, (h.1 614 (hd 614 (by decide))).2.2.1, (h.1 615 (hd 615 (by decide))).2.1, (h.1 616 (hd 616 (by decide))).2.1, (h.1 617 (hd 617 (by decide))).2.1, (h.1 618 (hd 618 (by decide))).2.1, (h.1 619 (hd 619 (by decide))).2.1, (h.1 1207 (hd 1207 (by decide))).2.1, (h.1 1327 (hd 1327 (by decide))).2.1, (h.1 2614 (hd 2614 (by decide))).1, (h.1 2614 (hd 2614 (by decide))).2.2.2.1, (h.1 2614 (hd 2614 (by decide))).2.2.2.2.1, (h.1 3206 (hd 3206 (by decide))).2.2.2.2.2.2, (h.1 3308 (hd 3308 (by decide))).2.2.2.2.1, (h.1 3319 (hd 3319 (by decide))).2.2.2.2.1, (h.1 3328 (hd 3328 (by decide))).2.2.2.2.1, (h.1 3329 (hd 3329 (by decide))).2.2.2.2.1, (h.1 3330 (hd 3330 (by decide))).2.2.2.2.1, (h.1 3331 (hd 3331 (by decide))).2.2.2.2.1, (h.1 3332 (hd 3332 (by decide))).2.2.2.2.1, (h.1 3333 (hd 3333 (by decide))).2.2.2.2.1, (h.1 3334 (hd 3334 (by decide))).2.2.2.2.1, (h.1 3335 (hd 3335 (by decide))).2.2.2.2.1, (h.1 3336 (hd 3336 (by decide))).2.2.2.2.1, (h.1 3337 (hd 3337 (by decide))).2.2.2.2.1, (h.1 3338 (hd 3338 (by decide))).2.2.2.2.1, (h.1 3339 (hd 3339 (by decide))).2.2.2.2.1, (h.1 3340 (hd 3340 (by decide))).2.2.2.2.1, (h.1 3341 (hd 3341 (by decide))).2.2.2.2.1, (h.1 3342 (hd 3342 (by decide))).2.2.2.2.1, (h.1 3343 (hd 3343 (by decide))).2.2.2.2.1, (h.1 3344 (hd 3344 (by decide))).2.2.2.2.1, (h.1 3345 (hd 3345 (by decide))).2.2.2.2.1, (h.1 3346 (hd 3346 (by decide))).2.2.2.2.1, (h.1 3347 (hd 3347 (by decide))).2.2.2.2.1]
  exact hI
/-- what the model alone knows of moves -/
def Mmove1 (nB nS m : Nat) (t : TS) : Prop := (∃ p, p < nB ∧ isPl (tA t 3308 0 p) = true ∧ tA t 3328 0 m = nt p) ∧ (∃ c, c < nB ∧ isCl (tA t 3308 0 c) = true ∧ tA t 3329 0 m = nt c) ∧ (∃ c, c < nB ∧ isCl (tA t 3308 0 c) = true ∧ tA t 3330 0 m = nt c) ∧ (∃ f, f ≤ 999999 ∧ tA t 3331 0 m = nt f) ∧ (tA t 3333 0 m = 0 ∨ tA t 3333 0 m = 1) ∧ (∃ o, o ≤ 999999 ∧ tA t 3339 0 m = nt o) ∧ (∃ s dd, s < nS ∧ dd ≤ 2999 ∧ tA t 3340 0 m = nt s ∧ tA t 3319 0 s = nt dd ∧ tA t 3332 0 m = nt dd) ∧ (tA t 3334 0 m = 0 ∨ tA t 3334 0 m = 1) ∧ (tA t 3333 0 m = 0 → ∃ sp, 1 ≤ sp ∧ sp ≤ 5 ∧ tA t 3335 0 m = nt sp) ∧ (∃ k, k ≤ 50 ∧ tA t 3336 0 m = nt k)
def Mmove (nB nS nM : Nat) (t : TS) : Prop := nM ≤ 200 ∧ tI t 1327 0 = nt nM ∧ ∀ m, m < nM → Mmove1 nB nS m t
theorem ImM {t : TS} {nB nS nM : Nat} (h : Imove nB nS nM t) : Mmove nB nS nM t := ⟨h.1, h.2.2.1, fun m hm => by
  obtain ⟨-, -, -, ⟨p, p1, p2, -, p3⟩, ⟨c, c1, c2, -, c3⟩, ⟨b, b1_, b2, -, b3⟩, ⟨f, f1, -, f2⟩, ⟨-, l⟩, ⟨o, o1, -, o2⟩, ⟨s, dd, s1, s2, -, s3, s4, s5⟩, ⟨-, u⟩, sp, ⟨k, k1, -, k2⟩, -⟩ := h.2.2.2.1 m hm
  exact ⟨⟨p, p1, p2, p3⟩, ⟨c, c1, c2, c3⟩, ⟨b, b1_, b2, b3⟩, ⟨f, f1, f2⟩, l, ⟨o, o1, o2⟩, ⟨s, dd, s1, s2, s3, s4, s5⟩, u, fun g => (by obtain ⟨x, x1, x2, -, x3⟩ := sp g; exact ⟨x, x1, x2, x3⟩), ⟨k, k1, k2⟩⟩⟩
def kMm : List Nat := [1327, 3308, 3319, 3328, 3329, 3330, 3331, 3332, 3333, 3334, 3335, 3336, 3339, 3340]
theorem Mmove_f {D : Nat → Bool} {t t' : TS} {nB nS nM : Nat} (h : frm D t t') (hd : ∀ k, k ∈ kMm → D k = false) (hI : Mmove nB nS nM t) : Mmove nB nS nM t' := by
  unfold Mmove Mmove1 at hI ⊢
  simp only [(h.1 1327 (hd 1327 (by decide))).2.1, (h.1 3308 (hd 3308 (by decide))).2.2.2.2.1, (h.1 3319 (hd 3319 (by decide))).2.2.2.2.1, (h.1 3328 (hd 3328 (by decide))).2.2.2.2.1, (h.1 3329 (hd 3329 (by decide))).2.2.2.2.1, (h.1 3330 (hd 3330 (by decide))).2.2.2.2.1, (h.1 3331 (hd 3331 (by decide))).2.2.2.2.1, (h.1 3332 (hd 3332 (by decide))).2.2.2.2.1, (h.1 3333 (hd 3333 (by decide))).2.2.2.2.1, (h.1 3334 (hd 3334 (by decide))).2.2.2.2.1, (h.1 3335 (hd 3335 (by decide))).2.2.2.2.1, (h.1 3336 (hd 3336 (by decide))).2.2.2.2.1, (h.1 3339 (hd 3339 (by decide))).2.2.2.2.1, (h.1 3340 (hd 3340 (by decide))).2.2.2.2.1]
  exact hI
/-- what a move spreads to a year, for a club -/
def spr (t : TS) (y m : Nat) : Int32 := if tA t 3333 0 m = 0 ∧ tA t 3334 0 m = 0 then (if 0 ≤ nt y - tA t 3332 0 m / 300 ∧ nt y - tA t 3332 0 m / 300 ≤ tA t 3335 0 m - 1 then tA t 3331 0 m / tA t 3335 0 m + (if nt y - tA t 3332 0 m / 300 = 0 then irm (tA t 3331 0 m) (tA t 3335 0 m) else 0) else 0) else 0
def capf (t : TS) (c y m : Nat) : Int32 := if tA t 3330 0 m = nt c then spr t y m else 0
section
variable {t : TS} {nB nS nM c y : Nat}
theorem X6_spreadTo_eq (hM : Imove nB nS nM t) (hS : Ispan nB nS nM t) {m : Nat} (hm : m < nM) (hy : y ≤ 9) : F_X6_spreadTo t m (nt y) = some (spr t y m) := by
  obtain ⟨-, -, -, -, -, -, ⟨f, hf, f1, f2⟩, ⟨l1, l2⟩, -, ⟨s, dd, hs, hdd, s1, s2, s3, s4⟩, ⟨u1, u2⟩, hsp, -⟩ := hM.2.2.2.1 m hm
  have hx : tI t 1103 s = nt dd := by
    obtain ⟨-, -, -, e2, -⟩ := hS.2.2.2.1 s hs
    rw [e2, s3]
  unfold F_X6_spreadTo spr
  rw [nxt_e, s1, oc_s, l1, u1, hx, s4, f1, f2]
  rcases l2 with g | g
  · rcases u2 with g2 | g2
    · obtain ⟨sp, h1, h2, h3, h4⟩ := hsp g
      have hz : ¬ nt sp = 0 := fun q => by rw [show (0 : Int32) = nt 0 from rfl, eq_nt (by omega) (by omega)] at q; omega
      have hd9 : dd / 300 ≤ 9 := by omega
      have e9 : nt dd / 300 = nt (dd / 300) := nt_div (b := 300) (by omega) (by omega)
      have e0 : nt y - nt (dd / 300) = it ((y : Int) - ((dd / 300 : Nat) : Int)) := by rw [← it_nt, ← it_nt, it_sub]
      have c1 : (0 ≤ nt y - nt (dd / 300) ∧ nt y - nt (dd / 300) ≤ nt sp - 1) = (dd / 300 ≤ y ∧ y < dd / 300 + sp) := by
        rw [e0, show (1 : Int32) = nt 1 from rfl, nt_sub h1, show (0 : Int32) = it 0 by decide, it_le (by omega) (by omega) (by omega) (by omega), ← it_nt (sp - 1), it_le (by omega) (by omega) (by omega) (by omega)]
        exact propext ⟨fun q => ⟨by omega, by omega⟩, fun q => ⟨by omega, by omega⟩⟩
      have c2 : (nt y - nt (dd / 300) = 0) = (y = dd / 300) := by
        rw [e0, show (0 : Int32) = it 0 by decide, ni_eq, it_int (by omega) (by omega), it_int (by omega) (by omega)]
        exact propext ⟨fun q => by omega, fun q => by omega⟩
      rw [g, g2, h3, h4, e9]
      simp only [c1, c2, not_true_eq_false, if_false, if_true, and_self, gz_ok _ hz]
      rw [show (1 : Int32) = nt 1 from rfl, ilT (by omega) (by omega), ilT (by omega) (by omega), nt_add, ilT (by omega) (by omega), if_neg (by omega)]
      have hn3 : (¬ nt y = nt (dd / 300)) = ¬ y = dd / 300 := by rw [eq_nt (by omega) (by omega)]
      simp only [hn3]
      by_cases q1 : y < dd / 300
      · rw [if_pos q1, if_neg (fun q => by omega)]
      · by_cases q2 : y < dd / 300 + sp
        · have q4 : dd / 300 ≤ y ∧ y < dd / 300 + sp := ⟨by omega, q2⟩
          by_cases q3 : y = dd / 300
          · rw [if_neg q1, if_pos q2, if_neg (fun q => q q3), if_pos q4, if_pos q3]
          · rw [if_neg q1, if_pos q2, if_pos q3, if_pos q4, if_neg q3]
        · rw [if_neg q1, if_neg q2, if_neg (fun q => by omega)]
    · rw [g, g2]
      simp
  · rw [g]
    simp
theorem X12_spreadTo_eq (hL : Ilen t) (hB : nB ≤ 150) (hM : Imove nB nS nM t) (hS : Ispan nB nS nM t) (hc : c < nB) (hy : y ≤ 9) : F_X12_spreadTo t (some c) (nt y) = some (sumI (capf t c y) nM) := by
  have h200 := hM.1
  unfold F_X12_spreadTo
  obtain ⟨N, hN⟩ : ∃ N : Nat, N = 10000 := ⟨_, rfl⟩
  rw [← hN]
  refine loop_wh (B := fun fu (k : Nat) => B_X12_spreadTo_5 fu t (some c) (nt y) (sumI (capf t c y) k) (nt k)) (mu := fun k => nM - k) (G := fun o => o = some (sumI (capf t c y) nM)) (P := fun k => k ≤ nM) ?_ N 0 (Nat.zero_le _) (by omega)
  intro fu k hk
  show BB_X12_spreadTo_5 (B_X12_spreadTo_5 fu) t _ _ _ _ = _ ∨ ∃ a', BB_X12_spreadTo_5 (B_X12_spreadTo_5 fu) t _ _ _ _ = _ ∧ _
  unfold BB_X12_spreadTo_5 B_X12_spreadTo_42
  rw [hM.2.1, igE (by omega) (by omega)]
  by_cases e : k = nM
  · left
    subst e
    rw [if_pos (Nat.le_refl _)]
  · right
    refine ⟨k + 1, ?_, by omega, by omega⟩
    obtain ⟨q1, -, -, -, -, ⟨b, hb, -, b1_, b2⟩, -⟩ := hM.2.2.2.1 k (by omega)
    rw [if_neg (by omega), (show tL _ 3206 0 = 200 from hL 3206 rfl), gd_nt _ (by omega) (by omega), gd_nt _ (by omega) (by omega), nt_cl (by omega), nxt_e, nxt_e, q1, oc_s, oc_s, nxt_e, b1_, X6_spreadTo_eq hM hS (by omega) hy, ob_s, nt_succ]
    show _ = B_X12_spreadTo_5 fu t (some c) (nt y) (sumI (capf t c y) k + (if tA t 3330 0 k = nt c then spr t y k else 0)) (nt (k + 1))
    rw [b2, ieQ (by omega) (by omega)]
    by_cases g : b = c
    · rw [if_pos (congrArg some g), if_pos g]
    · rw [if_neg (fun q => g (Option.some.inj q)), if_neg g, Int32.add_zero]
theorem X13_capOf_eqM (hL : Ilen t) (hB : Mbody nB t) (hM : Mmove nB nS nM t) (hS : Mspan nB nS t) (hc : c < nB) (hy : y ≤ 9) : F_X13_capOf t (nt c) (nt y) = some (wg t nB nS c (tI t 1301 0) + sumI (capf t c y) nM) := by
  have h200 := hM.1
  have hnB := hB.1
  unfold F_X13_capOf
  rw [X13_wages_eqM hL hB hS hc, ob_s]
  have h0 : wg t nB nS c (tI t 1301 0) = wg t nB nS c (tI t 1301 0) + sumI (capf t c y) 0 := (Int32.add_zero _).symm
  obtain ⟨N, hN⟩ : ∃ N : Nat, N = 10000 := ⟨_, rfl⟩
  rw [← hN]
  have h := loop_wh (B := fun fu (k : Nat) => B_X13_capOf_9 fu t (nt c) (nt y) (wg t nB nS c (tI t 1301 0) + sumI (capf t c y) k) (nt k)) (mu := fun k => nM - k) (G := fun o => o = some (wg t nB nS c (tI t 1301 0) + sumI (capf t c y) nM)) (P := fun k => k ≤ nM) ?_ N 0 (Nat.zero_le _) (by omega)
  · rw [← h0] at h
    exact h
  intro fu k hk
  show BB_X13_capOf_9 (B_X13_capOf_9 fu) t _ _ _ _ = _ ∨ ∃ a', BB_X13_capOf_9 (B_X13_capOf_9 fu) t _ _ _ _ = _ ∧ _
  unfold BB_X13_capOf_9 B_X13_capOf_125 B_X13_capOf_128
  rw [hM.2.1, igE (by omega) (by omega)]
  by_cases e : k = nM
  · left
    subst e
    rw [if_pos (Nat.le_refl _)]
  · right
    refine ⟨k + 1, ?_, by omega, by omega⟩
    obtain ⟨-, -, ⟨b, hb, -, b2⟩, ⟨f, hf, f2⟩, l2, -, -, u2, hsp, -⟩ := hM.2.2 k (by omega)
    rw [if_neg (by omega)]
    simp only [(show tL _ 3332 0 = 200 from hL 3332 rfl), (show tL _ 3333 0 = 200 from hL 3333 rfl), (show tL _ 3334 0 = 200 from hL 3334 rfl), (show tL _ 3330 0 = 200 from hL 3330 rfl), (show tL _ 3335 0 = 200 from hL 3335 rfl), (show tL _ 3331 0 = 200 from hL 3331 rfl), gd_nt _ (show k < 200 by omega) (show k < 2147483648 by omega), nt_cl (show k < 2147483648 by omega), nt_succ, in_eq, ob_s, gw1]
    show _ = B_X13_capOf_9 fu t (nt c) (nt y) (wg t nB nS c (tI t 1301 0) + (sumI (capf t c y) k + (if tA t 3330 0 k = nt c then spr t y k else 0))) (nt (k + 1))
    unfold spr
    rcases l2 with g | g
    · rcases u2 with g2 | g2
      · obtain ⟨sp, h1, h2, h4⟩ := hsp g
        have hz : ¬ nt sp = 0 := fun q => by rw [show (0 : Int32) = nt 0 from rfl, eq_nt (by omega) (by omega)] at q; omega
        rw [g, g2, h4]
        simp only [not_true_eq_false, if_false, gz_ok _ hz, and_self, if_true]
        by_cases g3 : tA t 3330 0 k = nt c
        · rw [if_neg (fun q => q g3), if_pos g3]
          by_cases g4 : 0 ≤ nt y - tA t 3332 0 k / 300 ∧ nt y - tA t 3332 0 k / 300 ≤ nt sp - 1
          · rw [if_pos (decide_eq_true g4), if_pos g4]
            by_cases g5 : nt y - tA t 3332 0 k / 300 = 0
            · rw [if_neg (fun q => q g5), if_pos g5, Int32.add_assoc]
            · rw [if_pos g5, if_neg g5, Int32.add_assoc]
          · rw [if_neg (fun q => g4 (of_decide_eq_true q)), if_neg g4, Int32.add_zero]
        · rw [if_pos g3, if_neg g3, Int32.add_zero]
      · rw [g, g2]
        simp
    · rw [g]
      simp
theorem X13_capOf_eq (hL : Ilen t) (hB : Ibody nB t) (hM : Imove nB nS nM t) (hS : Ispan nB nS nM t) (hc : c < nB) (hy : y ≤ 9) : F_X13_capOf t (nt c) (nt y) = some (wg t nB nS c (tI t 1301 0) + sumI (capf t c y) nM) := X13_capOf_eqM hL (IbM hB) (ImM hM) (IsM hS) hc hy
end
