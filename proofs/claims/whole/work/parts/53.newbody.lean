/-! PART 53: a body that comes. -/
def pu {α : Type} (f f' : Nat → α) (n : Nat) (v : α) : Prop := f' n = v ∧ ∀ i, ¬ i = n → f' i = f i
theorem pu_m {α : Type} {f : Nat → α} {n : Nat} {v : α} : pu f (mm_u1 f n v) n v := ⟨m1_s, fun _ h => m1_n h⟩
theorem pu_r {α : Type} {f : Nat → α} {n : Nat} {v : α} (h : f n = v) : pu f f n v := ⟨h, fun _ _ => rfl⟩
/-- all that speaks of bodies -/
theorem k2_l {a b : Nat → Bool} : ∀ k, k2 a b k = false → a k = false := fun k h => (Bool.or_eq_false_iff.mp h).1
theorem pu_mm {α : Type} {f : Nat → α} {n : Nat} {v w : α} : pu f (mm_u1 (mm_u1 f n w) n v) n v := ⟨m1_s, fun _ h => by rw [m1_n h, m1_n h]⟩
def Iall (nB nS nM : Nat) (t : TS) : Prop := Ibody nB t ∧ Icoin nB t ∧ Iinc nB t ∧ Imat nB t ∧ Ilack nB t ∧ Ispan nB nS nM t ∧ Imove nB nS nM t
def kNew : Nat → Bool := k2 (ko 1) (ks [2104, 3203, 1204, 1307, 3308, 3309, 3310, 3312, 3313, 3314])
theorem Iall_new {t t' : TS} {nB nS nM : Nat} {k lg co bo wo ai : Int32} {ag : Option Nat} (hA : Iall nB nS nM t) (hn : nB < 150) (hf : ∀ q, kNew q = false → tE t' q = tE t q ∧ tI t' q = tI t q ∧ tR t' q = tR t q ∧ tL t' q = tL t q ∧ tA t' q = tA t q ∧ tJ t' q = tJ t q ∧ tQ t' q = tQ t q)
    (hk : ∃ j, j < 8 ∧ k = nt j) (hlg : ∃ l, l < 4 ∧ lg = nt l) (hbo : -9000 ≤ bo ∧ bo ≤ 0) (hag : (ag = none ∧ ai = -1) ∨ ∃ j, j < nB ∧ ag = some j ∧ ai = nt j)
    (r1 : tI t' 1204 0 = nt (nB + 1)) (r2 : tI t' 1307 0 = nt (nB + 1)) (rE : pu (tE t 1) (tE t' 1) nB true) (rQ : pu (tQ t 3203 0) (tQ t' 3203 0) nB (some nB)) (r100 : pu (tI t 100) (tI t' 100) nB (nt nB)) (r101 : pu (tI t 101) (tI t' 101) nB k) (r102 : pu (tI t 102) (tI t' 102) nB lg) (r103 : pu (tI t 103) (tI t' 103) nB co) (r105 : pu (tI t 105) (tI t' 105) nB bo) (r106 : pu (tI t 106) (tI t' 106) nB wo) (r108 : pu (tI t 108) (tI t' 108) nB 0) (r111 : pu (tI t 111) (tI t' 111) nB 0)
    (r104 : (∀ i, ¬ i = nB → tR t' 104 i = tR t 104 i) ∧ (isCl k = true → tR t' 104 nB = some nB ∧ tL t' 2104 nB = 10 ∧ ∀ y, tA t' 2104 nB y = 0) ∧ ∀ i, ¬ i = nB → tL t' 2104 i = tL t 2104 i ∧ tA t' 2104 i = tA t 2104 i ∧ tE t' 2104 i = tE t 2104 i)
    (r107 : pu (tR t 107) (tR t' 107) nB ag) (r109 : pu (tR t 109) (tR t' 109) nB none) (r110 : pu (tR t 110) (tR t' 110) nB none) (r112 : pu (tR t 112) (tR t' 112) nB none)
    (a3308 : pu (tA t 3308 0) (tA t' 3308 0) nB k) (a3309 : pu (tA t 3309 0) (tA t' 3309 0) nB lg) (a3310 : pu (tA t 3310 0) (tA t' 3310 0) nB co) (a3312 : pu (tA t 3312 0) (tA t' 3312 0) nB bo) (a3313 : pu (tA t 3313 0) (tA t' 3313 0) nB wo) (a3314 : pu (tA t 3314 0) (tA t' 3314 0) nB ai) : Iall (nB + 1) nS nM t' := by
  obtain ⟨hB, hC, hI, hMt, hLk, hS, hM⟩ := hA
  obtain ⟨b1_, b2, b3, b4, b5⟩ := hB
  have hne : ∀ i, i < nB → ¬ i = nB := fun i hi => by omega
  have hkind : ∀ i, i < nB → tA t' 3308 0 i = tA t 3308 0 i := fun i hi => a3308.2 i (hne i hi)
  have A : ∀ q, kNew q = false → tA t' q = tA t q := fun q hq => (hf q hq).2.2.2.2.1
  have I : ∀ q, kNew q = false → tI t' q = tI t q := fun q hq => (hf q hq).2.1
  have R : ∀ q, kNew q = false → tR t' q = tR t q := fun q hq => (hf q hq).2.2.1
  have E : ∀ q, kNew q = false → tE t' q = tE t q := fun q hq => (hf q hq).1
  have L : ∀ q, kNew q = false → tL t' q = tL t q := fun q hq => (hf q hq).2.2.2.1
  have Q : ∀ q, kNew q = false → tQ t' q = tQ t q := fun q hq => (hf q hq).2.2.2.2.2.2
  refine ⟨⟨by omega, r1, r2, fun i hi => ?_, fun i hi => ?_⟩, ⟨fun i hi => ?_, fun i hi => ?_⟩, ⟨fun i hi hcl => ?_, fun i hi => ?_⟩, ⟨fun i hi => ?_, fun i hi => ?_⟩, ⟨fun i hi => ?_, fun i hi => ?_⟩, ?_, ?_⟩
  · by_cases e : i = nB
    · subst e
      refine ⟨rQ.1, rE.1, r100.1, ?_, ?_, ?_, ?_, ?_, ?_, ?_, ?_, ?_⟩
      · rw [r101.1, a3308.1]
      · rw [r102.1, a3309.1]
      · rw [r105.1, a3312.1]
      · rw [r106.1, a3313.1]
      · rw [r107.1, a3314.1]
        rcases hag with g | ⟨j, g1, g2, g3⟩
        · exact Or.inl g
        · exact Or.inr ⟨j, by omega, g2, g3⟩
      · obtain ⟨j, g1, g2⟩ := hk
        exact ⟨j, g1, by rw [a3308.1, g2]⟩
      · obtain ⟨j, g1, g2⟩ := hlg
        exact ⟨j, g1, by rw [a3309.1, g2]⟩
      · rw [a3312.1]; exact hbo.1
      · rw [a3312.1]; exact hbo.2
    · obtain ⟨c1, c2, c3, c4, c5, c6, c7, c8, c9, c10, c11, c12⟩ := b4 i (by omega)
      rw [rQ.2 i e, rE.2 i e, r100.2 i e, r101.2 i e, r102.2 i e, r105.2 i e, r106.2 i e, r107.2 i e, a3308.2 i e, a3309.2 i e, a3312.2 i e, a3313.2 i e, a3314.2 i e]
      refine ⟨c1, c2, c3, c4, c5, c6, c7, ?_, c9, c10, c11, c12⟩
      rcases c8 with g | ⟨j, g1, g2, g3⟩
      · exact Or.inl g
      · exact Or.inr ⟨j, by omega, g2, g3⟩
  · have e : ¬ i = nB := by omega
    rw [rE.2 i e, a3309.2 i e, a3312.2 i e, a3313.2 i e]
    exact b5 i (by omega)
  · by_cases e : i = nB
    · subst e
      rw [r103.1, a3310.1]
    · rw [r103.2 i e, a3310.2 i e]
      exact hC.1 i (by omega)
  · rw [a3310.2 i (by omega)]
    exact hC.2 i (by omega)
  · by_cases e : i = nB
    · subst e
      rw [a3308.1] at hcl
      obtain ⟨g1, g2, g3⟩ := r104.2.1 hcl
      refine ⟨g1, g2, fun y hy => ?_⟩
      rw [g3 y, A 3311 rfl, ((hI.2 i (Nat.le_refl _)).2 y hy)]
    · rw [a3308.2 i e] at hcl
      obtain ⟨g1, g2, g3⟩ := hI.1 i (by omega) hcl
      obtain ⟨k1, k2, k3⟩ := r104.2.2 i e
      rw [r104.1 i e, k1, k2, A 3311 rfl]
      exact ⟨g1, g2, g3⟩
  · rw [(r104.2.2 i (by omega)).2.2, A 3311 rfl]
    exact hI.2 i (by omega)
  · by_cases e : i = nB
    · subst e
      obtain ⟨g1, g2⟩ := hMt.2 i (Nat.le_refl _)
      exact Or.inl ⟨r112.1, by rw [E 2112 rfl]; exact g1, by rw [A 3348 rfl]; exact g2⟩
    · rw [r112.2 i e, E 2112 rfl, L 2112 rfl, A 2112 rfl, A 3348 rfl]
      exact hMt.1 i (by omega)
  · rw [E 2112 rfl, A 3348 rfl]
    exact hMt.2 i (by omega)
  · by_cases e : i = nB
    · subst e
      rw [r108.1, A 3315 rfl, hLk.2 i (Nat.le_refl _)]
      exact ⟨rfl, Or.inl rfl⟩
    · rw [r108.2 i e, A 3315 rfl]
      exact hLk.1 i (by omega)
  · rw [A 3315 rfl]
    exact hLk.2 i (by omega)
  · obtain ⟨s1, s2, s3, s4, s5, s6⟩ := hS
    have hpS : ∀ q, pS t' q = pS t q := fun q => by
      funext s
      unfold pS
      rw [A 3317 rfl]
    refine ⟨s1, by rw [I 1205 rfl]; exact s2, by rw [I 1316 rfl]; exact s3, fun s hs => ?_, fun s hs => by rw [E 11 rfl]; exact s5 s hs, fun p hp => ?_⟩
    · obtain ⟨c1, c2, c3, c4, c5, c6, c7, ⟨c, d1, d2, d3, d4⟩, ⟨p, f1, f2, f3⟩, c8⟩ := s4 s hs
      rw [E 11 rfl, I 1100 rfl, I 1102 rfl, I 1103 rfl, I 1104 rfl, I 1105 rfl, I 1106 rfl, R 1101 rfl, R 1107 rfl, R 1108 rfl, A 3317 rfl, A 3318 rfl, A 3319 rfl, A 3320 rfl, A 3321 rfl, A 3322 rfl, A 3323 rfl, A 3324 rfl]
      exact ⟨c1, c2, c3, c4, c5, c6, c7, ⟨c, by omega, by rw [hkind c d1]; exact d2, d3, d4⟩, ⟨p, by omega, by rw [hkind p f1]; exact f2, f3⟩, c8⟩
    · rw [hpS]
      by_cases e : p = nB
      · subst e
        have hno : ∀ j, j < nS → pS t p j = false := by
          intro j hj
          obtain ⟨-, -, -, -, -, -, -, -, ⟨q, f1, f2, f3⟩, -⟩ := s4 j hj
          unfold pS
          rw [f3]
          exact decide_eq_false (fun g => by rw [eq_nt (by omega) (by omega)] at g; omega)
        have hc : ∀ n, n ≤ nS → cntP (pS t p) n = 0 := by
          intro n
          induction n with
          | zero => intro _; rfl
          | succ n ih => intro h; rw [cntP_s, ih (by omega), hno n (by omega)]; rfl
        refine ⟨?_, ?_, ?_⟩
        · rw [r109.1]; exact (nx_no.mpr (fun j _ hj => hno j (by omega))).symm
        · rw [r110.1]; exact (lastP_none.mpr hno).symm
        · rw [r111.1, hc nS (Nat.le_refl _)]; rfl
      · rw [r109.2 p e, r110.2 p e, r111.2 p e]
        exact s6 p (by omega)
  · obtain ⟨s1, s2, s3, s4, s5⟩ := hM
    refine ⟨s1, by rw [I 1207 rfl]; exact s2, by rw [I 1327 rfl]; exact s3, fun m hm => ?_, fun m hm => ?_⟩
    · unfold Imove1 Ishare
      rw [Q 3206 rfl, E 6 rfl, I 600 rfl, R 601 rfl, R 602 rfl, R 603 rfl, I 604 rfl, I 605 rfl, I 606 rfl, R 607 rfl, I 608 rfl, I 609 rfl, I 610 rfl, I 611 rfl, R 612 rfl, I 613 rfl, R 614 rfl, I 615 rfl, I 616 rfl, I 617 rfl, I 618 rfl, I 619 rfl, L 2614 rfl, A 2614 rfl, A 3319 rfl, A 3328 rfl, A 3329 rfl, A 3330 rfl, A 3331 rfl, A 3332 rfl, A 3333 rfl, A 3334 rfl, A 3335 rfl, A 3336 rfl, A 3337 rfl, A 3338 rfl, A 3339 rfl, A 3340 rfl, A 3341 rfl, A 3342 rfl, A 3343 rfl, A 3344 rfl, A 3345 rfl, A 3346 rfl, A 3347 rfl]
      obtain ⟨c1, c2, c3, ⟨p, d1, d2, d3, d4⟩, ⟨x, e1, e2, e3, e4⟩, ⟨y, f1, f2, f3, f4⟩, c4, c5, c6, c7, c8, c9, c10, c11, c12, c13, c14, c15⟩ := s4 m hm
      refine ⟨c1, c2, c3, ⟨p, by omega, by rw [hkind p d1]; exact d2, d3, d4⟩, ⟨x, by omega, by rw [hkind x e1]; exact e2, e3, e4⟩, ⟨y, by omega, by rw [hkind y f1]; exact f2, f3, f4⟩, c4, c5, c6, c7, c8, c9, c10, c11, ?_, c13, ?_, c15⟩
      · rcases c12 with g | ⟨j, g1, g2, g3⟩
        · exact Or.inl g
        · exact Or.inr ⟨j, by omega, g2, g3⟩
      · rcases c14 with g | ⟨g1, g2, g3⟩
        · exact Or.inl g
        · exact Or.inr ⟨g1, by omega, g3⟩
    · rw [E 6 rfl, E 2614 rfl, A 3336 rfl, A 3337 rfl, A 3339 rfl, A 3341 rfl, A 3343 rfl, A 3344 rfl, A 3345 rfl, A 3346 rfl, A 3347 rfl]
      exact s5 m hm
