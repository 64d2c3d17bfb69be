/-! PART 48: squads. -/
def sq (t : TS) (nS c : Nat) (more : Option Nat) (d p : Nat) : Bool := isPl (tA t 3308 0 p) && (decide (more = some p) || decide (oel (hol t nS p (nt d)) (-1) (fun s => tA t 3318 0 s) = nt c))
def sqw (t : TS) (nS c l : Nat) (more : Option Nat) (d w p : Nat) : Bool := sq t nS c more d p && (if w = 2 then decide (900 ≤ tlg t nS p d l) else if w = 3 then true else decide (tA t 3308 0 p = 4))
theorem sq_f {D : Nat → Bool} {t t' : TS} {nS c d p : Nat} {more : Option Nat} (h : frm D t t') (hd : ∀ k, k ∈ kHol → D k = false) (hd8 : D 3308 = false) : sq t' nS c more d p = sq t nS c more d p := by
  unfold sq
  rw [hol_f h hd]
  simp only [(h.1 3318 (hd 3318 (by decide))).2.2.2.2.1, (h.1 3308 hd8).2.2.2.2.1]
section
variable {t : TS} {nB nS nM c l d : Nat} {more : Option Nat}
theorem X12_countHeld_eq (hL : Ilen t) (hB : Ibody nB t) (hS : Ispan nB nS nM t) (hc : c < nB) (hd : d ≤ 2999) (hday : tI t 1200 0 = nt d) (hl : l < 4) (hcl : tA t 3309 0 c = nt l) {w : Nat} (hw : w = 2 ∨ w = 3 ∨ w = 4) :
    ∃ t2, F_X12_countHeld t (some c) more (nt w) = some (nt (cntP (sqw t nS c l more d w) nB), t2) ∧ frm (ks [3209, 3210]) t t2 := by
  have hnB := hB.1
  unfold F_X12_countHeld
  obtain ⟨N, hN⟩ : ∃ N : Nat, N = 10000 := ⟨_, rfl⟩
  rw [← hN]
  refine loop_wh (B := fun fu (a : TS × Nat) => B_X12_countHeld_6 fu a.1 (some c) more (nt w) (nt (cntP (sqw t nS c l more d w) a.2)) (nt a.2)) (mu := fun a => nB - a.2) (G := fun o => ∃ t2, o = some (nt (cntP (sqw t nS c l more d w) nB), t2) ∧ frm (ks [3209, 3210]) t t2) (P := fun a => a.2 ≤ nB ∧ frm (ks [3209, 3210]) t a.1) ?_ N (t, 0) ⟨Nat.zero_le _, frm_rf⟩ (by show nB - 0 < N; omega)
  rintro fu ⟨t1, k⟩ ⟨hk, hf⟩
  dsimp only at hk hf
  have hL1 : Ilen t1 := Ilen_f hf hL
  have hB1 := Ibody_f hf (by decide) hB
  have hS1 := Ispan_f hf (by decide) hS
  have hday1 : tI t1 1200 0 = nt d := by rw [(hf.1 1200 rfl).2.1, hday]
  show (∃ t2, BB_X12_countHeld_6 (B_X12_countHeld_6 fu) t1 _ _ _ _ _ = _ ∧ _) ∨ ∃ a', BB_X12_countHeld_6 (B_X12_countHeld_6 fu) t1 _ _ _ _ _ = _ ∧ _
  unfold BB_X12_countHeld_6
  rw [hB1.2.1, igE (by omega) (by omega)]
  by_cases e : k = nB
  · left
    subst e
    exact ⟨t1, by rw [if_pos (Nat.le_refl _)], hf⟩
  · right
    obtain ⟨q1, -, -, q3, -⟩ := hB1.2.2.2.1 k (by omega)
    have hkd : tA t1 3308 0 k = tA t 3308 0 k := by rw [(hf.1 3308 rfl).2.2.2.2.1]
    rw [if_neg (by omega), (show tL _ 3203 0 = 150 from hL1 3203 rfl), gd_nt _ (by omega) (by omega), nt_cl (by omega), nxt_e, q1, oc_s, X1_isPlayer_eq, ob_s, gw1, q3, hkd, X1_holding_eq hS1 (by omega), ob_s, hday1, hol_f hf (by decide)]
    have hcnt : cntP (sqw t nS c l more d w) (k + 1) = cntP (sqw t nS c l more d w) k + (if sqw t nS c l more d w k then 1 else 0) := rfl
    -- what one that counts adds
    have h69 : sq t nS c more d k = true → ∃ t2, B_X12_countHeld_69 (B_X12_countHeld_6 fu) t1 (some c) more (nt w) (nt (cntP (sqw t nS c l more d w) k)) (nt k) k = B_X12_countHeld_6 fu t2 (some c) more (nt w) (nt (cntP (sqw t nS c l more d w) (k + 1))) (nt (k + 1)) ∧ frm (ks [3209, 3210]) t t2 := by
      intro hsq
      rw [hcnt]
      unfold B_X12_countHeld_69
      rcases hw with rfl | rfl | rfl
      · obtain ⟨t2, g1, g2, g3, g4⟩ := ct_eq (p := k) hL1 hB1 hS1 (by omega) hd hday1
        have hL2 : Ilen t2 := Ilen_f g2 hL1
        obtain ⟨-, -, -, -, q5, -⟩ := (Ibody_f g2 (by decide) hB1).2.2.2.1 c hc
        have q6 : tI t2 102 c = nt l := by rw [q5, (g2.1 3309 rfl).2.2.2.2.1, (hf.1 3309 rfl).2.2.2.2.1, hcl]
        have q7 : tlg t1 nS k d l = tlg t nS k d l := by
          unfold tlg lz D0 NN lastZ D0
          simp only [cz_f hf (show ∀ k, k ∈ kHol → ks [3209, 3210] k = false by decide), (hf.1 3309 rfl).2.2.2.2.1, (hf.1 3312 rfl).2.2.2.2.1]
        have q8 := g4 l hl
        have q9 : tlg t nS k d l ≤ 3300 := Nat.le_trans (cnk_le _) (last_bd hB (show k < nB by omega) hd).2.2.2.2
        have hw2 : sqw t nS c l more d 2 k = decide (900 ≤ tlg t nS k d l) := by unfold sqw; rw [hsq]; rfl
        refine ⟨t2, ?_, frm_tr hf g2⟩
        rw [hw2, if_neg (fun q => q rfl), g1, ob_s, oc_s, q6, (show tL _ 3210 0 = 4 from hL2 3210 rfl), gd_nt _ (by omega) (by omega), nt_cl (by omega), q8, q7, show (900 : Int32) = nt 900 from rfl, ilT (by omega) (by omega)]
        unfold B_X12_countHeld_102 B_X12_countHeld_138
        by_cases g : tlg t nS k d l < 900
        · rw [if_pos g, show F_X12_bit t2 0 = some 0 from rfl, ob_s, nt_succ, decide_eq_false (by omega), if_neg (by decide)]
          exact congrArg (fun x => B_X12_countHeld_6 fu t2 (some c) more (nt 2) x (nt (k + 1))) (nt_add _ 0)
        · rw [if_neg g, show F_X12_bit t2 1 = some 1 from rfl, ob_s, nt_succ, nt_succ, decide_eq_true (by omega), if_pos rfl]
      · have hw3 : sqw t nS c l more d 3 k = true := by unfold sqw; rw [hsq]; rfl
        refine ⟨t1, ?_, hf⟩
        rw [hw3, if_pos (by decide), if_pos (by decide)]
        unfold B_X12_countHeld_127 B_X12_countHeld_132 B_X12_countHeld_138
        rw [show F_X12_bit t1 1 = some 1 from rfl, ob_s, nt_succ, nt_succ, if_pos rfl]
      · have hw4 : sqw t nS c l more d 4 k = decide (tA t 3308 0 k = 4) := by unfold sqw; rw [hsq]; rfl
        refine ⟨t1, ?_, hf⟩
        rw [hw4, if_pos (by decide), if_neg (by decide), q3, hkd]
        unfold B_X12_countHeld_127 B_X12_countHeld_132 B_X12_countHeld_138
        by_cases g : tA t 3308 0 k = 4
        · rw [if_neg (fun q => q g), show F_X12_bit t1 1 = some 1 from rfl, ob_s, nt_succ, nt_succ, decide_eq_true g, if_pos rfl]
        · rw [if_pos g, show F_X12_bit t1 0 = some 0 from rfl, ob_s, nt_succ, decide_eq_false g, if_neg (by decide)]
          exact congrArg (fun x => B_X12_countHeld_6 fu t1 (some c) more (nt 4) x (nt (k + 1))) (nt_add _ 0)
    have h138 : sq t nS c more d k = false → B_X12_countHeld_138 (B_X12_countHeld_6 fu) t1 (some c) more (nt w) (nt (cntP (sqw t nS c l more d w) k)) (nt k) = B_X12_countHeld_6 fu t1 (some c) more (nt w) (nt (cntP (sqw t nS c l more d w) (k + 1))) (nt (k + 1)) := by
      intro hsq
      have hw0 : sqw t nS c l more d w k = false := by unfold sqw; rw [hsq]; rfl
      rw [hcnt, hw0, if_neg (by decide)]
      unfold B_X12_countHeld_138
      rw [nt_succ]
      rfl
    have hsq0 : sq t nS c more d k = (isPl (tA t 3308 0 k) && (decide (more = some k) || decide (oel (hol t nS k (nt d)) (-1) (fun s => tA t 3318 0 s) = nt c))) := rfl
    have key : ∃ t2, (if isPl (tA t 3308 0 k) = true then (if (some k : Option Nat) = more then B_X12_countHeld_69 (B_X12_countHeld_6 fu) t1 (some c) more (nt w) (nt (cntP (sqw t nS c l more d w) k)) (nt k) k else oc (hol t nS k (nt d)) (B_X12_countHeld_138 (B_X12_countHeld_6 fu) t1 (some c) more (nt w) (nt (cntP (sqw t nS c l more d w) k)) (nt k)) (fun j25 => nxt (tR t1 1101 j25) (fun o26 => if (o26 : Option Nat) = some c then B_X12_countHeld_69 (B_X12_countHeld_6 fu) t1 (some c) more (nt w) (nt (cntP (sqw t nS c l more d w) k)) (nt k) k else B_X12_countHeld_138 (B_X12_countHeld_6 fu) t1 (some c) more (nt w) (nt (cntP (sqw t nS c l more d w) k)) (nt k)))) else B_X12_countHeld_138 (B_X12_countHeld_6 fu) t1 (some c) more (nt w) (nt (cntP (sqw t nS c l more d w) k)) (nt k)) = B_X12_countHeld_6 fu t2 (some c) more (nt w) (nt (cntP (sqw t nS c l more d w) (k + 1))) (nt (k + 1)) ∧ frm (ks [3209, 3210]) t t2 := by
      cases hp : isPl (tA t 3308 0 k)
      · exact ⟨t1, h138 (by rw [hsq0, hp]; rfl), hf⟩
      · simp only [if_true]
        by_cases g : (some k : Option Nat) = more
        · rw [if_pos g]
          exact h69 (by rw [hsq0, hp, decide_eq_true g.symm]; rfl)
        · rw [if_neg g]
          have g' : decide (more = some k) = false := decide_eq_false (fun q => g q.symm)
          cases eh : hol t nS k (nt d) with
          | none =>
            refine ⟨t1, h138 ?_, hf⟩
            rw [hsq0, hp, g', eh, oel_n, decide_eq_false (fun q : (-1 : Int32) = nt c => nt_neg (show c < 2147483648 by omega) (by rw [← q]; decide))]
            rfl
          | some s =>
            have hs := hol_lt eh
            obtain ⟨c', hc', -, hc1, hc2⟩ := sp_club hnB hS1 hs
            have hc3 : tA t 3318 0 s = nt c' := by rw [← hc2, (hf.1 3318 rfl).2.2.2.2.1]
            rw [oc_s, nxt_e, hc1]
            by_cases g2 : c' = c
            · rw [if_pos (congrArg some g2)]
              exact h69 (by rw [hsq0, hp, g', eh, oel_s, hc3, decide_eq_true (congrArg nt g2)]; rfl)
            · rw [if_neg (fun q => g2 (Option.some.inj q))]
              refine ⟨t1, h138 ?_, hf⟩
              rw [hsq0, hp, g', eh, oel_s, hc3, decide_eq_false (fun q => by rw [eq_nt (by omega) (by omega)] at q; exact g2 q)]
              rfl
    obtain ⟨t2, k1, k2⟩ := key
    exact ⟨(t2, k + 1), k1, ⟨by show k + 1 ≤ nB; omega, k2⟩, by show nB - (k + 1) < nB - k; omega⟩
end
