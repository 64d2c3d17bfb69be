/-! PART 46: owners, wages. -/
def sumI (f : Nat → Int32) : Nat → Int32
  | 0 => 0
  | n + 1 => sumI f n + f n
theorem sumI_c {f g : Nat → Int32} : ∀ n, (∀ j, j < n → f j = g j) → sumI f n = sumI g n
  | 0, _ => rfl
  | n + 1, h => by
    unfold sumI
    rw [h n (by omega), sumI_c n (fun j hj => h j (by omega))]
section
variable {t : TS} {nB nS nM p : Nat} {d : Int32}
theorem own_lt {s : Nat} (h : own t nS p d = some s) : s < nS ∧ ow0 t nS p d = some s ∧ ¬ tA t 3320 0 s < d := by
  unfold own at h
  cases e : ow0 t nS p d with
  | none => rw [e] at h; cases h
  | some q =>
    rw [e, oel_s] at h
    by_cases g : tA t 3320 0 q < d
    · rw [if_pos g] at h; cases h
    · rw [if_neg g] at h
      cases h
      exact ⟨(lastP_lt e).1, rfl, g⟩
theorem own_npM (hS : Mspan nB nS t) (hp : isPl (tA t 3308 0 p) = false) (hp2 : p < 150) (hB : nB ≤ 150) : own t nS p d = none := by
  unfold own
  have : ow0 t nS p d = none := lastP_none.mpr (fun j hj => by
    obtain ⟨-, ⟨q, hq, hq2, hq3⟩⟩ := hS.2.2 j hj
    unfold oS pS
    rw [hq3, decide_eq_false (fun e => by rw [eq_nt (by omega) (by omega)] at e; rw [e, hp] at hq2; cases hq2)]
    rfl)
  rw [this]; rfl
theorem own_np (hS : Ispan nB nS nM t) (hp : isPl (tA t 3308 0 p) = false) (hp2 : p < 150) (hB : nB ≤ 150) : own t nS p d = none := own_npM (IsM hS) hp hp2 hB
theorem ownerOn_eqM (hL : Ilen t) (hS : Mspan nB nS t) : F_X13_ownerOn t (nt p) d = some (oel (own t nS p d) (-1) (fun s => tA t 3318 0 s)) := by
  have h600 := hS.1
  unfold F_X13_ownerOn B_X13_ownerOn_21
  rw [ownSpan_eqM hL hS, ob_s]
  unfold own
  cases e : ow0 t nS p d with
  | none =>
    rw [if_pos (show enc none < 0 by decide)]; rfl
  | some s =>
    have hs := (lastP_lt e).1
    rw [show enc (some s) = nt s from rfl, if_neg (nt_neg (by omega)), (show tL _ 3320 0 = 600 from hL 3320 rfl), (show tL _ 3318 0 = 600 from hL 3318 rfl), gd_nt _ (by omega) (by omega), gd_nt _ (by omega) (by omega), nt_cl (by omega), oel_s]
    by_cases g : tA t 3320 0 s < d
    · rw [if_neg (Int32.not_le.mpr g), if_pos g]; rfl
    · rw [if_pos (Int32.not_lt.mp g), if_neg g, oel_s]
theorem ownerOn_eq (hL : Ilen t) (hS : Ispan nB nS nM t) : F_X13_ownerOn t (nt p) d = some (oel (own t nS p d) (-1) (fun s => tA t 3318 0 s)) := ownerOn_eqM hL (IsM hS)
theorem holderOn_eqM (hL : Ilen t) (hS : Mspan nB nS t) : F_X13_holderOn t (nt p) d = some (oel (hol t nS p d) (-1) (fun s => tA t 3318 0 s)) := by
  have h600 := hS.1
  unfold F_X13_holderOn
  rw [spanOn_eqM hL hS, ob_s]
  cases e : hol t nS p d with
  | none =>
    rw [if_neg (show ¬ (0 : Int32) ≤ enc none by decide)]; rfl
  | some s =>
    have hs := hol_lt e
    rw [show enc (some s) = nt s from rfl, if_pos (nt_nn (by omega)), (show tL _ 3318 0 = 600 from hL 3318 rfl), gd_nt _ (by omega) (by omega), nt_cl (by omega), oel_s]
theorem holderOn_eq (hL : Ilen t) (hS : Ispan nB nS nM t) : F_X13_holderOn t (nt p) d = some (oel (hol t nS p d) (-1) (fun s => tA t 3318 0 s)) := holderOn_eqM hL (IsM hS)
/-- a span's club on both sides -/
theorem sp_club (hB : nB ≤ 150) (hS : Ispan nB nS nM t) {s : Nat} (hs : s < nS) : ∃ c, c < nB ∧ isCl (tA t 3308 0 c) = true ∧ tR t 1101 s = some c ∧ tA t 3318 0 s = nt c := by
  obtain ⟨-, -, -, -, -, -, -, ⟨c, hc, hcl, hc1, hc2⟩, -⟩ := hS.2.2.2.1 s hs
  exact ⟨c, hc, hcl, hc1, hc2⟩
def wgf (t : TS) (nS c : Nat) (d : Int32) (i : Nat) : Int32 := oel (own t nS i d) 0 (fun s => if tA t 3318 0 s = nt c then tA t 3323 0 s else 0)
def wg (t : TS) (nB nS c : Nat) (d : Int32) : Int32 := sumI (wgf t nS c d) nB
theorem X12_wages_eq (hL : Ilen t) (hB : Ibody nB t) (hS : Ispan nB nS nM t) {c : Nat} (hc : c < nB) : F_X12_wages t (some c) = some (wg t nB nS c (tI t 1200 0)) := by
  have hnB := hB.1
  unfold F_X12_wages
  obtain ⟨N, hN⟩ : ∃ N : Nat, N = 10000 := ⟨_, rfl⟩
  rw [← hN]
  refine loop_wh (B := fun fu (k : Nat) => B_X12_wages_4 fu t (some c) (sumI (wgf t nS c (tI t 1200 0)) k) (nt k)) (mu := fun k => nB - k) (G := fun o => o = some (wg t nB nS c (tI t 1200 0))) (P := fun k => k ≤ nB) ?_ N 0 (Nat.zero_le _) (by omega)
  intro fu k hk
  show BB_X12_wages_4 (B_X12_wages_4 fu) t _ _ _ = _ ∨ ∃ a', BB_X12_wages_4 (B_X12_wages_4 fu) t _ _ _ = _ ∧ _
  unfold BB_X12_wages_4 B_X12_wages_49
  rw [hB.2.1, igE (by omega) (by omega)]
  by_cases e : k = nB
  · left
    subst e
    rw [if_pos (Nat.le_refl _)]
    rfl
  · right
    refine ⟨k + 1, ?_, by omega, by omega⟩
    rw [if_neg (by omega), (show tL _ 3203 0 = 150 from hL 3203 rfl), gd_nt _ (by omega) (by omega), nt_cl (by omega), nxt_e, (hB.2.2.2.1 k (by omega)).1, oc_s, X1_owning_eq hS (by omega), ob_s, nt_succ]
    show _ = B_X12_wages_4 fu t (some c) (sumI (wgf t nS c (tI t 1200 0)) k + oel (own t nS k (tI t 1200 0)) 0 (fun s => if tA t 3318 0 s = nt c then tA t 3323 0 s else 0)) (nt (k + 1))
    cases eo : own t nS k (tI t 1200 0) with
    | none => rw [oc_n, oel_n, Int32.add_zero]
    | some s =>
      obtain ⟨hs, -, -⟩ := own_lt eo
      obtain ⟨c', hc', -, hc1, hc2⟩ := sp_club hnB hS hs
      obtain ⟨-, -, -, -, -, e5, -⟩ := hS.2.2.2.1 s hs
      rw [oc_s, oel_s, nxt_e, hc1, hc2, e5]
      by_cases g : c' = c
      · subst g
        rw [if_pos rfl, if_pos rfl]
      · rw [if_neg (fun q => g (Option.some.inj q)), if_neg (fun q => by rw [eq_nt (by omega) (by omega)] at q; exact g q), Int32.add_zero]
theorem X13_wages_eqM (hL : Ilen t) (hB : Mbody nB t) (hS : Mspan nB nS t) {c : Nat} (hc : c < nB) : F_X13_wagesOf t (nt c) = some (wg t nB nS c (tI t 1301 0)) := by
  have hnB := hB.1
  have h600 := hS.1
  unfold F_X13_wagesOf
  obtain ⟨N, hN⟩ : ∃ N : Nat, N = 10000 := ⟨_, rfl⟩
  rw [← hN]
  refine loop_wh (B := fun fu (k : Nat) => B_X13_wagesOf_4 fu t (nt c) (sumI (wgf t nS c (tI t 1301 0)) k) (nt k)) (mu := fun k => nB - k) (G := fun o => o = some (wg t nB nS c (tI t 1301 0))) (P := fun k => k ≤ nB) ?_ N 0 (Nat.zero_le _) (by omega)
  intro fu k hk
  show BB_X13_wagesOf_4 (B_X13_wagesOf_4 fu) t _ _ _ = _ ∨ ∃ a', BB_X13_wagesOf_4 (B_X13_wagesOf_4 fu) t _ _ _ = _ ∧ _
  unfold BB_X13_wagesOf_4 B_X13_wagesOf_50
  rw [hB.2.1, igE (by omega) (by omega)]
  by_cases e : k = nB
  · left
    subst e
    rw [if_pos (Nat.le_refl _)]
    rfl
  · right
    refine ⟨k + 1, ?_, by omega, by omega⟩
    rw [if_neg (by omega), isPlayer_eqM hL hB, ob_s, gw0, ownerOn_eqM hL hS, ob_s, ownSpan_eqM hL hS, ob_s, nt_succ]
    show _ = B_X13_wagesOf_4 fu t (nt c) (sumI (wgf t nS c (tI t 1301 0)) k + oel (own t nS k (tI t 1301 0)) 0 (fun s => if tA t 3318 0 s = nt c then tA t 3323 0 s else 0)) (nt (k + 1))
    unfold six
    rw [ix_nt (by omega) (by omega), oel_s]
    cases hp : isPl (tA t 3308 0 k)
    · rw [own_npM hS hp (by omega) hnB]
      simp only [Bool.false_eq_true, if_false, isS_n, if_true]
      rw [oel_n, Int32.add_zero]
    · simp only [if_true, isS_s, Bool.true_eq_false, if_false]
      cases eo : own t nS k (tI t 1301 0) with
      | none =>
        rw [oel_n, oel_n, if_pos (fun q : (-1 : Int32) = nt c => nt_neg (show c < 2147483648 by omega) (by rw [← q]; decide)), Int32.add_zero]
      | some s =>
        obtain ⟨hs, ho, -⟩ := own_lt eo
        rw [oel_s, oel_s, ho, show enc (some s) = nt s from rfl, (show tL _ 3323 0 = 600 from hL 3323 rfl), gd_nt _ (by omega) (by omega), nt_cl (by omega)]
        by_cases g : tA t 3318 0 s = nt c
        · rw [if_neg (fun q => q g), if_pos g]
        · rw [if_pos g, if_neg g, Int32.add_zero]
theorem X13_wages_eq (hL : Ilen t) (hB : Ibody nB t) (hS : Ispan nB nS nM t) {c : Nat} (hc : c < nB) : F_X13_wagesOf t (nt c) = some (wg t nB nS c (tI t 1301 0)) := X13_wages_eqM hL (IbM hB) (IsM hS) hc
end
