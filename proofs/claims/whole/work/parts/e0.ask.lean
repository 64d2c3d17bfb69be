/-! PART e0: a rule asked by the model at any state that leaves what it reads alone. -/
def kAsk : List Nat := kMb ++ (kMs ++ (kMm ++ (kFig ++ (kLeag ++ (kHol ++ [3359, 3360, 3361, 3362, 1301, 1302, 1355, 3306, 3308, 3309, 3310, 3318, 3321, 3349, 3356, 3357, 3358, 2500, 2501, 1316, 1327])))))
theorem kAsk_in {l : List Nat} (h : l.all (fun k => kAsk.contains k) = true) : ∀ k, k ∈ l → k ∈ kAsk := fun k hk => List.contains_iff_mem.mp (List.all_eq_true.mp h k hk)
theorem scr_ask : ∀ k, k ∈ kAsk → scr k = false := by decide
section
variable {t : TS} {nB nS nM nR c l d u : Nat} {who : Option Nat}
theorem askD {D : Nat → Bool} (hD : ∀ k, k ∈ kAsk → D k = false) (hL : Ilen t) (hB : Ibody nB t) (hC : Icoin nB t) (hI : Iinc nB t) (hS : Ispan nB nS nM t) (hM : Imove nB nS nM t) (hH : Irh nR t) (hU : Irule nR t) (hc : c < nB) (hcl : isCl (tA t 3308 0 c) = true) (hd : d ≤ 2999) (hday : tI t 1200 0 = nt d) (hday2 : tI t 1301 0 = nt d) (hl : l < 4) (hlg : tA t 3309 0 c = nt l) (hw : ∀ q, who = some q → q < nB) (hu : u < 3) (joins : Bool) {r0 : Option Nat} (hr0 : (r0 = lastP (rf t (10 * nt l + nt u) (nt d) (nt d)) nR) ∨ ∃ r, r0 = some r ∧ r < nR ∧ irm (tA t 3356 0 r) 10 = nt u) : ∃ x t1, F_X12_brokenLine t r0 (some c) (if u = 0 then who else none) (if joins then who else none) = some (x, t1) ∧ frm scr t t1 ∧ (x = -1 ∨ 0 ≤ x) ∧ ∀ s, frm D t s → ∃ t2, F_X13_firstBroken s (oel r0 (-2) nt) (nt c) (enc who) (b1 joins) = some (x, t2) ∧ frm scr s t2 := by
  have h16 := hH.1
  obtain ⟨e1, e2⟩ := irm_u hl hu
  have hcase : r0 = none ∨ ∃ r, r0 = some r ∧ r < nR ∧ irm (tA t 3356 0 r) 10 = nt u := by
    rcases hr0 with h | h
    · cases ho : lastP (rf t (10 * nt l + nt u) (nt d) (nt d)) nR with
      | none => exact Or.inl (h.trans ho)
      | some r =>
        refine Or.inr ⟨r, h.trans ho, (lastP_lt ho).1, ?_⟩
        have hp := (lastP_lt ho).2
        unfold rf at hp
        simp only [Bool.and_eq_true, decide_eq_true_eq] at hp
        rw [hp.1, e1, e2]
    · exact Or.inr h
  rcases hcase with h | ⟨r, h, hr, hirm⟩
  · subst h
    refine ⟨-1, t, rfl, frm_rf, Or.inl rfl, fun s hs => ⟨s, ?_, frm_rf⟩⟩
    unfold F_X13_firstBroken
    rw [oel_n, if_neg (by decide)]
  · subst h
    have hwc : ∀ q, (if u = 0 then who else none) = some q → q < nB := fun q hq => by
      by_cases e : u = 0
      · rw [if_pos e] at hq; exact hw q hq
      · rw [if_neg e] at hq; cases hq
    obtain ⟨ls, t1, a1, a2, a3, a4, a5, a6⟩ := brokenLine_c (more := if joins then who else none) hL hB hC hI hS hM hc hcl hd hday hl hlg hwc (hU.1 r hr)
    refine ⟨_, t1, a5, a6, ?_, fun s hs => ?_⟩
    · cases hz : fz (fun w => figv t nB nS nM c l d (if u = 0 then who else none) (if joins then who else none) w.toNatClampNeg) ls with
      | none => exact Or.inl rfl
      | some i =>
        right
        have : i ≤ ls.length := by
          have hfz : ∀ (V : Int32 → Int32) (xs : List (List (Int32 × Int32))) i, fz V xs = some i → i < xs.length := by
            intro V xs
            induction xs with
            | nil => intro i h; cases h
            | cons y ys ih =>
              intro i h
              unfold fz at h
              by_cases e : vl V y = 0
              · rw [if_pos e] at h; cases h; exact Nat.zero_lt_succ _
              · rw [if_neg e] at h
                cases hy : fz V ys with
                | none => rw [hy, oel_n] at h; cases h
                | some k =>
                  rw [hy, oel_s] at h
                  cases h
                  have := ih k hy
                  show k + 1 < ys.length + 1
                  omega
          exact Nat.le_of_lt (hfz _ ls i hz)
        rw [oel_s]
        exact nt_nn (by omega)
    · have hLs := Ilen_f hs hL
      have hst : rSt s r ls := by
        unfold rSt at a1 ⊢
        rw [(hs.1 3359 (hD 3359 (by decide))).2.2.2.2.1, (hs.1 3360 (hD 3360 (by decide))).2.2.2.2.1, (hs.1 3361 (hD 3361 (by decide))).2.2.2.2.1, (hs.1 3362 (hD 3362 (by decide))).2.2.2.2.1]
        exact a1
      obtain ⟨t2, b1_, b2⟩ := firstBroken_m (t := s) (who := who) hLs (Mbody_f hs (fun k hk => hD k (kAsk_in (by decide) k hk)) (IbM hB)) (Mspan_f hs (fun k hk => hD k (kAsk_in (by decide) k hk)) (IsM hS)) (Mmove_f hs (fun k hk => hD k (kAsk_in (by decide) k hk)) (ImM hM)) hc hd (by rw [(hs.1 1301 (hD 1301 (by decide))).2.1]; exact hday2) hl (by rw [(hs.1 3309 (hD 3309 (by decide))).2.2.2.2.1]; exact hlg) hw (show r < 16 by omega) hst a2 a3 a4 joins
      have e56 : tA s 3356 0 r = tA t 3356 0 r := by rw [(hs.1 3356 (hD 3356 (by decide))).2.2.2.2.1]
      have hwh : (if irm (tA s 3356 0 r) 10 = 0 then who else none) = if u = 0 then who else none := by
        rw [e56, hirm]
        have : (nt u = 0) = (u = 0) := eq_nt (n := 0) (by omega) (by omega)
        exact ifP this
      have hfg : (fun w : Int32 => figv s nB nS nM c l d (if irm (tA s 3356 0 r) 10 = 0 then who else none) (if joins then who else none) w.toNatClampNeg) = fun w => figv t nB nS nM c l d (if u = 0 then who else none) (if joins then who else none) w.toNatClampNeg := by
        funext w
        rw [hwh]
        exact figv_f hs (fun k hk => hD k (kAsk_in (by decide) k hk))
      rw [hfg] at b1_
      exact ⟨t2, b1_, b2⟩
end
