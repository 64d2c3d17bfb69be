/-! PART 74: counts. -/
section
variable {t : TS} {nB nS nM : Nat}
theorem loop_cnt {B : Nat → Int32 → Int32 → Option Int32} {p : Nat → Bool} {n : Nat} (hn : n < 10000) (hend : ∀ fu v, B (fu + 1) v (nt n) = some v) (hstep : ∀ fu v k, k < n → B (fu + 1) v (nt k) = B fu (if p k then v + 1 else v) (nt (k + 1))) : B 10000 0 0 = some (nt (cntP p n)) := by
  obtain ⟨N, hN⟩ : ∃ N : Nat, N = 10000 := ⟨_, rfl⟩
  rw [← hN]
  refine loop_wh (B := fun fu (k : Nat) => B fu (nt (cntP p k)) (nt k)) (mu := fun k => n - k) (G := fun o => o = some (nt (cntP p n))) (P := fun k => k ≤ n) ?_ N 0 (Nat.zero_le _) (by omega)
  intro fu k hk
  by_cases e : k = n
  · left
    subst e
    exact hend fu _
  · right
    refine ⟨k + 1, ?_, by omega, by omega⟩
    show B (fu + 1) (nt (cntP p k)) (nt k) = B fu (nt (cntP p (k + 1))) (nt (k + 1))
    rw [hstep fu _ k (by omega)]
    have hcs : cntP p (k + 1) = cntP p k + (if p k then 1 else 0) := rfl
    rw [hcs]
    by_cases g : p k = true
    · rw [if_pos g, if_pos g, nt_succ]
    · rw [if_neg g, if_neg g]
      rfl
theorem countClubs_eq (hL : Ilen t) (hB : Ibody nB t) : F_X12_countClubs t = some (nt (cntP (fun i => isCl (tA t 3308 0 i)) nB)) ∧ B_X13_count_67 10000 t 0 0 = some (nt (cntP (fun i => isCl (tA t 3308 0 i)) nB)) := by
  have h150 := hB.1
  refine ⟨loop_cnt (B := fun fu v k => B_X12_countClubs_4 fu t v k) (p := fun i => isCl (tA t 3308 0 i)) (n := nB) (by omega) (fun fu v => ?_) (fun fu v k hk => ?_), loop_cnt (B := fun fu v k => B_X13_count_67 fu t v k) (p := fun i => isCl (tA t 3308 0 i)) (n := nB) (by omega) (fun fu v => ?_) (fun fu v k hk => ?_)⟩
  · show BB_X12_countClubs_4 (B_X12_countClubs_4 fu) t v (nt nB) = _
    unfold BB_X12_countClubs_4
    rw [hB.2.1, igE (by omega) (by omega), if_pos (Nat.le_refl _)]
  · show BB_X12_countClubs_4 (B_X12_countClubs_4 fu) t v (nt k) = B_X12_countClubs_4 fu t _ _
    unfold BB_X12_countClubs_4
    obtain ⟨q1, -, -, q4, -⟩ := hB.2.2.2.1 k hk
    rw [hB.2.1, igE (by omega) (by omega), if_neg (by omega), (show tL _ 3203 0 = 150 from hL 3203 rfl), gd_nt _ (by omega) (by omega), nt_cl (by omega), nxt_e, q1, oc_s, X1_isClub_eq, ob_s, q4, nt_succ]
    unfold F_X12_bit
    cases isCl (tA t 3308 0 k)
    · show B_X12_countClubs_4 fu t (v + 0) _ = _; rw [Int32.add_zero]; rfl
    · rfl
  · show BB_X13_count_67 (B_X13_count_67 fu) t v (nt nB) = _
    unfold BB_X13_count_67
    rw [hB.2.2.1, igE (by omega) (by omega), if_pos (Nat.le_refl _)]
  · show BB_X13_count_67 (B_X13_count_67 fu) t v (nt k) = B_X13_count_67 fu t _ _
    unfold BB_X13_count_67 B_X13_count_89
    have hx : six isCl t nB (nt k) = if isCl (tA t 3308 0 k) then some k else none := by unfold six; rw [ix_nt hk (by omega), oel_s]
    rw [hB.2.2.1, igE (by omega) (by omega), if_neg (by omega), isClub_eq hL hB, hx, ob_s, gw0, nt_succ]
    cases isCl (tA t 3308 0 k)
    · show B_X13_count_67 fu t (v + 0) _ = _; rw [Int32.add_zero]; rfl
    · rfl
theorem countPl_eq (hL : Ilen t) (hB : Ibody nB t) : F_X12_countPlayers t 0 = some (nt (cntP (fun i => isPl (tA t 3308 0 i)) nB)) ∧ B_X13_count_101 10000 t 0 0 = some (nt (cntP (fun i => isPl (tA t 3308 0 i)) nB)) := by
  have h150 := hB.1
  refine ⟨loop_cnt (B := fun fu v k => B_X12_countPlayers_4 fu t 0 v k) (p := fun i => isPl (tA t 3308 0 i)) (n := nB) (by omega) (fun fu v => ?_) (fun fu v k hk => ?_), loop_cnt (B := fun fu v k => B_X13_count_101 fu t v k) (p := fun i => isPl (tA t 3308 0 i)) (n := nB) (by omega) (fun fu v => ?_) (fun fu v k hk => ?_)⟩
  · show BB_X12_countPlayers_4 (B_X12_countPlayers_4 fu) t 0 v (nt nB) = _
    unfold BB_X12_countPlayers_4
    rw [hB.2.1, igE (by omega) (by omega), if_pos (Nat.le_refl _)]
  · show BB_X12_countPlayers_4 (B_X12_countPlayers_4 fu) t 0 v (nt k) = B_X12_countPlayers_4 fu t 0 _ _
    unfold BB_X12_countPlayers_4 B_X12_countPlayers_44 B_X12_countPlayers_47
    obtain ⟨q1, -, -, q4, -⟩ := hB.2.2.2.1 k hk
    rw [hB.2.1, igE (by omega) (by omega), if_neg (by omega), (show tL _ 3203 0 = 150 from hL 3203 rfl), gd_nt _ (by omega) (by omega), nt_cl (by omega), nxt_e, q1, oc_s, X1_isPlayer_eq, ob_s, q4, nt_succ, gw0, if_pos rfl]
    cases isPl (tA t 3308 0 k) <;> rfl
  · show BB_X13_count_101 (B_X13_count_101 fu) t v (nt nB) = _
    unfold BB_X13_count_101
    rw [hB.2.2.1, igE (by omega) (by omega), if_pos (Nat.le_refl _)]
  · show BB_X13_count_101 (B_X13_count_101 fu) t v (nt k) = B_X13_count_101 fu t _ _
    unfold BB_X13_count_101 B_X13_count_123
    have hx : six isPl t nB (nt k) = if isPl (tA t 3308 0 k) then some k else none := by unfold six; rw [ix_nt hk (by omega), oel_s]
    rw [hB.2.2.1, igE (by omega) (by omega), if_neg (by omega), isPlayer_eq hL hB, hx, ob_s, gw0, nt_succ]
    cases isPl (tA t 3308 0 k)
    · show B_X13_count_101 fu t (v + 0) _ = _; rw [Int32.add_zero]; rfl
    · rfl
def frP (t : TS) (nS : Nat) (d : Int32) (i : Nat) : Bool := isPl (tA t 3308 0 i) && (own t nS i d).isNone
theorem countFr_eq (hL : Ilen t) (hB : Ibody nB t) (hS : Ispan nB nS nM t) {d : Int32} (e1 : tI t 1200 0 = d) (e2 : tI t 1301 0 = d) : F_X12_countPlayers t 1 = some (nt (cntP (frP t nS d) nB)) ∧ B_X13_count_195 10000 t 0 0 = some (nt (cntP (frP t nS d) nB)) := by
  have h150 := hB.1
  refine ⟨loop_cnt (B := fun fu v k => B_X12_countPlayers_4 fu t 1 v k) (p := frP t nS d) (n := nB) (by omega) (fun fu v => ?_) (fun fu v k hk => ?_), loop_cnt (B := fun fu v k => B_X13_count_195 fu t v k) (p := frP t nS d) (n := nB) (by omega) (fun fu v => ?_) (fun fu v k hk => ?_)⟩
  · show BB_X12_countPlayers_4 (B_X12_countPlayers_4 fu) t 1 v (nt nB) = _
    unfold BB_X12_countPlayers_4
    rw [hB.2.1, igE (by omega) (by omega), if_pos (Nat.le_refl _)]
  · show BB_X12_countPlayers_4 (B_X12_countPlayers_4 fu) t 1 v (nt k) = B_X12_countPlayers_4 fu t 1 _ _
    unfold BB_X12_countPlayers_4 B_X12_countPlayers_44 B_X12_countPlayers_47 frP
    obtain ⟨q1, -, -, q4, -⟩ := hB.2.2.2.1 k hk
    rw [hB.2.1, igE (by omega) (by omega), if_neg (by omega), (show tL _ 3203 0 = 150 from hL 3203 rfl), gd_nt _ (by omega) (by omega), nt_cl (by omega), nxt_e, q1, oc_s, X1_isPlayer_eq, ob_s, q4, nt_succ, gw0]
    cases isPl (tA t 3308 0 k)
    · rfl
    · rw [if_pos rfl, if_neg (by decide), gd_nt _ (by omega) (by omega), nxt_e, oc_s, e1, X1_owning_eq hS hk, ob_s]
      cases own t nS k d <;> rfl
  · show BB_X13_count_195 (B_X13_count_195 fu) t v (nt nB) = _
    unfold BB_X13_count_195
    rw [hB.2.2.1, igE (by omega) (by omega), if_pos (Nat.le_refl _)]
  · show BB_X13_count_195 (B_X13_count_195 fu) t v (nt k) = B_X13_count_195 fu t _ _
    unfold BB_X13_count_195 B_X13_count_228 B_X13_count_229 frP
    have hx : six isPl t nB (nt k) = if isPl (tA t 3308 0 k) then some k else none := by unfold six; rw [ix_nt hk (by omega), oel_s]
    rw [hB.2.2.1, igE (by omega) (by omega), if_neg (by omega), isPlayer_eq hL hB, hx, ob_s, gw0, nt_succ, e2, ownerOn_eq hL hS, ob_s, Int32.add_zero]
    simp only [neg_cl hB hS (fun s hs => (own_lt hs).1)]
    cases isPl (tA t 3308 0 k)
    · rfl
    · cases own t nS k d <;> rfl
theorem countMv_eq (hL : Ilen t) (hM : Imove nB nS nM t) : F_X12_countStandingMoves t = some (nt (cntP (fun i => decide (tA t 3334 0 i = 0)) nM)) ∧ B_X13_count_140 10000 t 0 0 = some (nt (cntP (fun i => decide (tA t 3334 0 i = 0)) nM)) := by
  have h200 := hM.1
  refine ⟨loop_cnt (B := fun fu v k => B_X12_countStandingMoves_4 fu t v k) (p := fun i => decide (tA t 3334 0 i = 0)) (n := nM) (by omega) (fun fu v => ?_) (fun fu v k hk => ?_), loop_cnt (B := fun fu v k => B_X13_count_140 fu t v k) (p := fun i => decide (tA t 3334 0 i = 0)) (n := nM) (by omega) (fun fu v => ?_) (fun fu v k hk => ?_)⟩
  · show BB_X12_countStandingMoves_4 (B_X12_countStandingMoves_4 fu) t v (nt nM) = _
    unfold BB_X12_countStandingMoves_4
    rw [hM.2.1, igE (by omega) (by omega), if_pos (Nat.le_refl _)]
  · show BB_X12_countStandingMoves_4 (B_X12_countStandingMoves_4 fu) t v (nt k) = B_X12_countStandingMoves_4 fu t _ _
    unfold BB_X12_countStandingMoves_4 B_X12_countStandingMoves_30 F_X12_bit
    obtain ⟨q1, -, -, -, -, -, -, -, -, -, ⟨u1, u2⟩, -⟩ := hM.2.2.2.1 k hk
    rw [hM.2.1, igE (by omega) (by omega), if_neg (by omega), (show tL _ 3206 0 = 200 from hL 3206 rfl), gd_nt _ (by omega) (by omega), nt_cl (by omega), nxt_e, q1, oc_s, u1, nt_succ]
    by_cases e : tA t 3334 0 k = 0
    · rw [if_neg (fun q => q e), decide_eq_true e]; rfl
    · rw [if_pos e, decide_eq_false e]
      show B_X12_countStandingMoves_4 fu t (v + 0) _ = _; rw [Int32.add_zero]; rfl
  · show BB_X13_count_140 (B_X13_count_140 fu) t v (nt nM) = _
    unfold BB_X13_count_140
    rw [hM.2.2.1, igE (by omega) (by omega), if_pos (Nat.le_refl _)]
  · show BB_X13_count_140 (B_X13_count_140 fu) t v (nt k) = B_X13_count_140 fu t _ _
    unfold BB_X13_count_140 B_X13_count_163
    rw [hM.2.2.1, igE (by omega) (by omega), if_neg (by omega), (show tL _ 3334 0 = 200 from hL 3334 rfl), gd_nt _ (by omega) (by omega), nt_cl (by omega), nt_succ]
    by_cases e : tA t 3334 0 k = 0
    · rw [if_pos e, decide_eq_true e]; rfl
    · rw [if_neg e, decide_eq_false e, Int32.add_zero]; rfl
theorem m_count (x1 : Int32) (hL : Ilen t) (hT : Itime t) (hB : Ibody nB t) (hS : Ispan nB nS nM t) (hM : Imove nB nS nM t) (hP : Itape t) (hA : Iact t) (hr : tI t 1212 0 = tI t 1355 0) : ∃ r, F_X12_count t x1 = some r ∧ F_X13_count t x1 = some r := by
  obtain ⟨d, mi, hd, hmi, e1, e2, e3, e4⟩ := hT
  obtain ⟨n, -, p1, p2, -⟩ := hP
  obtain ⟨k, -, a1, a2, -⟩ := hA
  unfold F_X12_count F_X13_count
  rw [swix _ _ (Nat.le_of_ble_eq_true rfl), swix _ _ (Nat.le_of_ble_eq_true rfl)]
  simp only [List.length_cons, List.length_nil]
  cases hy : ix (0 + 1 + 1 + 1 + 1 + 1 + 1 + 1 + 1 + 1 + 1 + 1) x1 with
  | none => exact ⟨-1, rfl, rfl⟩
  | some i =>
  obtain ⟨hi, rfl⟩ := ix_some hy
  have hi' : i = 0 ∨ i = 1 ∨ i = 2 ∨ i = 3 ∨ i = 4 ∨ i = 5 ∨ i = 6 ∨ i = 7 ∨ i = 8 ∨ i = 9 ∨ i = 10 := by omega
  simp only [oel_s]
  obtain ⟨c1, c2⟩ := countClubs_eq hL hB
  obtain ⟨c3, c4⟩ := countPl_eq hL hB
  obtain ⟨c5, c6⟩ := countFr_eq hL hB hS e1 e2
  obtain ⟨c7, c8⟩ := countMv_eq hL hM
  rcases hi' with rfl | rfl | rfl | rfl | rfl | rfl | rfl | rfl | rfl | rfl | rfl
  all_goals simp only [List.getD_cons_succ, List.getD_cons_zero, c1, c2, c3, c4, c5, c6, c7, c8, ob_s, hr, e1, e2, e3, e4, p1, p2, a1, a2, hB.2.1, hB.2.2.1, hS.2.1, hS.2.2.1]
  all_goals exact ⟨_, rfl, rfl⟩
end
