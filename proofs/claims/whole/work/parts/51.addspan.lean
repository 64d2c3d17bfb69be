/-! PART 51: a span that comes. -/
theorem cntP_s (p : Nat → Bool) (n : Nat) : cntP p (n + 1) = cntP p n + (if p n then 1 else 0) := rfl
theorem Ispan_add {t t' : TS} {nB nS nM nM' p c : Nat} {so fr to wa mi : Int32} {mv : Option Nat} (hS : Ispan nB nS nM t) (hn : nS < 600) (hnB : nB ≤ 150) (hMM : nM ≤ nM') (hp : p < nB) (hpp : isPl (tA t 3308 0 p) = true) (hc : c < nB) (hcc : isCl (tA t 3308 0 c) = true)
    (hb : -9999 ≤ fr ∧ fr ≤ 2999 ∧ -9999 ≤ to ∧ to ≤ 2999) (hm : (mv = none ∧ mi = -1) ∨ ∃ m, m < nM' ∧ mv = some m ∧ mi = nt m)
    (r1 : tI t' 1205 0 = nt (nS + 1)) (r2 : tI t' 1316 0 = nt (nS + 1)) (rE : tE t' 11 = mm_u1 (tE t 11) nS true) (r1100 : tI t' 1100 = mm_u1 (tI t 1100) nS (nt nS)) (r1102 : tI t' 1102 = mm_u1 (tI t 1102) nS so) (r1103 : tI t' 1103 = mm_u1 (tI t 1103) nS fr) (r1104 : tI t' 1104 = mm_u1 (tI t 1104) nS to) (r1105 : tI t' 1105 = mm_u1 (tI t 1105) nS wa) (r1106 : tI t' 1106 = mm_u1 (tI t 1106) nS 1000000) (r1101 : tR t' 1101 = mm_u1 (tR t 1101) nS (some c)) (r1107 : tR t' 1107 = mm_u1 (tR t 1107) nS mv)
    (r1108 : tR t' 1108 = oel (tR t 110 p) (mm_u1 (tR t 1108) nS none) (fun j => mm_u1 (mm_u1 (tR t 1108) nS none) j (some nS))) (r109 : tR t' 109 = oel (tR t 110 p) (mm_u1 (tR t 109) p (some nS)) (fun _ => tR t 109)) (r110 : tR t' 110 = mm_u1 (tR t 110) p (some nS)) (r111 : tI t' 111 = mm_u1 (tI t 111) p (tI t 111 p + 1))
    (r3308 : tA t' 3308 = tA t 3308) (r3317 : tA t' 3317 0 = mm_u1 (tA t 3317 0) nS (nt p)) (r3318 : tA t' 3318 0 = mm_u1 (tA t 3318 0) nS (nt c)) (r3319 : tA t' 3319 0 = mm_u1 (tA t 3319 0) nS fr) (r3320 : tA t' 3320 0 = mm_u1 (tA t 3320 0) nS to) (r3321 : tA t' 3321 0 = mm_u1 (tA t 3321 0) nS so) (r3322 : tA t' 3322 0 = mm_u1 (tA t 3322 0) nS 1000000) (r3323 : tA t' 3323 0 = mm_u1 (tA t 3323 0) nS wa) (r3324 : tA t' 3324 0 = mm_u1 (tA t 3324 0) nS mi) : Ispan nB (nS + 1) nM' t' := by
  have hlast := (hS.2.2.2.2.2 p hp).2.1
  have hpS : ∀ q s, pS t' q s = if s = nS then decide (nt p = nt q) else pS t q s := by
    intro q s
    unfold pS
    rw [r3317]
    unfold mm_u1
    split <;> rfl
  have hpS1 : ∀ q s, s < nS → pS t' q s = pS t q s := fun q s hs => by rw [hpS, if_neg (by omega)]
  have hpn : ∀ q, q < nB → (nt p = nt q) = (p = q) := fun q hq => eq_nt (by omega) (by omega)
  have hpS2 : ∀ q, q < nB → pS t' q nS = decide (p = q) := fun q hq => by rw [hpS, if_pos rfl]; simp only [hpn q hq]
  refine ⟨by omega, r1, r2, fun s hs => ?_, fun s hs => ?_, fun q hq => ⟨?_, ?_, ?_⟩⟩
  · by_cases e : s = nS
    · subst e
      have hj : ∀ j, tR t 110 p = some j → ¬ s = j := fun j hj => by rw [hlast] at hj; have := (lastP_lt hj).1; omega
      rw [rE, r1100, r1101, r1102, r1103, r1104, r1105, r1106, r1107, r3308, r3317, r3318, r3319, r3320, r3321, r3322, r3323, r3324]
      simp only [m1_s]
      refine ⟨trivial, trivial, trivial, trivial, trivial, trivial, trivial, ⟨c, hc, hcc, rfl, rfl⟩, ⟨p, hp, hpp, rfl⟩, ?_, hm, hb.1, hb.2.1, hb.2.2.1, hb.2.2.2, by decide, by decide⟩
      rw [r1108, show s + 1 - (s + 1) = 0 by omega]
      show _ = none
      cases ej : tR t 110 p with
      | none => rw [oel_n, m1_s]
      | some j => rw [oel_s, m1_n (hj j ej), m1_s]
    · have hs' : s < nS := by omega
      obtain ⟨a1, a2, a3, a4, a5, a6, a7, ⟨c', b1_, b2, b3, b4⟩, ⟨q, d1, d2, d3⟩, a8, a9, a10⟩ := hS.2.2.2.1 s hs'
      rw [rE, r1100, r1101, r1102, r1103, r1104, r1105, r1106, r1107, r3308, r3318, r3319, r3320, r3321, r3322, r3323, r3324]
      simp only [m1_n e]
      have e17 : tA t' 3317 0 s = tA t 3317 0 s := by rw [r3317, m1_n e]
      refine ⟨a1, a2, a3, a4, a5, a6, a7, ⟨c', b1_, b2, b3, b4⟩, ⟨q, d1, d2, by rw [e17]; exact d3⟩, ?_, ?_, a10⟩
      · have hfun : (fun s' => decide (tA t' 3317 0 s' = tA t' 3317 0 s)) = pS t' q := by
          funext s'
          unfold pS
          rw [e17, d3]
        have hq0 : pS t q s = true := decide_eq_true d3
        have hold := sp_next hS hs' hq0
        rw [hfun, show nS + 1 - (s + 1) = (nS - (s + 1)) + 1 by omega, nx_snoc, show s + 1 + (nS - (s + 1)) = nS by omega, hpS2 q d1, nx_c (p := pS t' q) (q := pS t q) _ _ (fun i hi => hpS1 q _ (by omega)), ← hold, r1108]
        by_cases g : p = q
        · subst g
          rw [decide_eq_true rfl, if_pos rfl]
          cases ej : tR t 110 p with
          | none =>
            rw [hlast] at ej
            rw [lastP_no ej hs'] at hq0
            cases hq0
          | some j =>
            rw [hlast] at ej
            have hjl := lastP_lt ej
            rw [oel_s]
            by_cases g2 : s = j
            · subst g2
              rw [m1_s, hold, ((lastP_nx hs').mp ej).2]
              rfl
            · rw [m1_n g2, m1_n e]
              cases eo : tR t 1108 s with
              | none =>
                rw [hold] at eo
                have := (lastP_nx hs').mpr ⟨hq0, eo⟩
                rw [ej] at this
                exact absurd (Option.some.inj this).symm g2
              | some o => rfl
        · rw [decide_eq_false g, if_neg (by decide)]
          have h8 : oel (tR t 110 p) (mm_u1 (tR t 1108) nS none) (fun j => mm_u1 (mm_u1 (tR t 1108) nS none) j (some nS)) s = tR t 1108 s := by
            cases ej : tR t 110 p with
            | none => rw [oel_n, m1_n e]
            | some j =>
              rw [hlast] at ej
              have hjl := lastP_lt ej
              rw [oel_s, m1_n (fun g2 => by subst g2; have h9 := hjl.2; unfold pS at h9; rw [d3] at h9; exact g (by have := of_decide_eq_true h9; rw [eq_nt (by omega) (by omega)] at this; exact this.symm)), m1_n e]
          rw [h8]
          cases tR t 1108 s <;> rfl
      · rcases a9 with a9 | ⟨m, m1, m2, m3⟩
        · exact Or.inl a9
        · exact Or.inr ⟨m, by omega, m2, m3⟩
  · rw [rE, m1_n (by omega)]
    exact hS.2.2.2.2.1 s (by omega)
  · obtain ⟨a1, a2, a3⟩ := hS.2.2.2.2.2 q hq
    rw [r109, nx_snoc, Nat.zero_add, hpS2 q hq, nx_c (p := pS t' q) (q := pS t q) _ _ (fun i hi => by rw [Nat.zero_add]; exact hpS1 q i hi), ← a1]
    by_cases g : p = q
    · subst g
      rw [decide_eq_true rfl, if_pos rfl]
      cases ej : tR t 110 p with
      | none =>
        rw [hlast] at ej
        rw [oel_n, m1_s, a1, nx_fst.mpr ej]
        rfl
      | some j =>
        rw [oel_s]
        cases e1 : tR t 109 p with
        | none =>
          rw [a1] at e1
          rw [hlast, nx_fst.mp e1] at ej
          cases ej
        | some o => rfl
    · rw [decide_eq_false g, if_neg (by decide)]
      have : oel (tR t 110 p) (mm_u1 (tR t 109) p (some nS)) (fun _ => tR t 109) q = tR t 109 q := by
        cases tR t 110 p with
        | none => rw [oel_n, m1_n (fun q' => g q'.symm)]
        | some j => rfl
      rw [this]
      cases tR t 109 q <;> rfl
  · obtain ⟨a1, a2, a3⟩ := hS.2.2.2.2.2 q hq
    rw [r110]
    show _ = (if pS t' q nS = true then some nS else lastP (pS t' q) nS)
    rw [hpS2 q hq, lastP_congr (p := pS t' q) (q := pS t q) (fun j hj => hpS1 q j hj), ← a2]
    by_cases g : p = q
    · subst g
      rw [m1_s, if_pos (decide_eq_true rfl)]
    · rw [m1_n (fun q' => g q'.symm), if_neg (fun q' => g (of_decide_eq_true q'))]
  · obtain ⟨a1, a2, a3⟩ := hS.2.2.2.2.2 q hq
    rw [r111, cntP_s, hpS2 q hq, cntP_c (p := pS t' q) (q := pS t q) _ (fun j hj => hpS1 q j hj)]
    by_cases g : p = q
    · subst g
      rw [m1_s, a3, if_pos (decide_eq_true rfl), nt_succ]
    · rw [m1_n (fun q' => g q'.symm), if_neg (fun q' => g (of_decide_eq_true q')), a3]
      rfl
