/-! PART 72: rows. -/
section
variable {t : TS} {nB : Nat}
theorem X10_zero {s : Nat} (h60 : tL t 3004 s = 60) : ∃ u, B_X10_holdRow_22 10000 t s 0 = some u ∧ frm (ks [3004]) t u ∧ tL u 3004 = tL t 3004 ∧ (∀ s', ¬ s' = s → tJ u 3004 s' = tJ t 3004 s') ∧ ∀ k, k < 60 → tJ u 3004 s k = 0 := by
  obtain ⟨N, hN⟩ : ∃ N : Nat, N = 10000 := ⟨_, rfl⟩
  rw [← hN]
  refine loop_wh (B := fun fu (x : Nat × TS) => B_X10_holdRow_22 fu x.2 s (nt x.1)) (mu := fun x => 60 - x.1) (G := fun o => ∃ u, o = some u ∧ frm (ks [3004]) t u ∧ tL u 3004 = tL t 3004 ∧ (∀ s', ¬ s' = s → tJ u 3004 s' = tJ t 3004 s') ∧ ∀ k, k < 60 → tJ u 3004 s k = 0) (P := fun x => x.1 ≤ 60 ∧ frm (ks [3004]) t x.2 ∧ tL x.2 3004 = tL t 3004 ∧ (∀ s', ¬ s' = s → tJ x.2 3004 s' = tJ t 3004 s') ∧ ∀ k, k < x.1 → tJ x.2 3004 s k = 0) ?_ N (0, t) ⟨Nat.zero_le _, frm_rf, rfl, fun _ _ => rfl, fun k hk => absurd hk (Nat.not_lt_zero k)⟩ (by show 60 - 0 < N; omega)
  intro fu x hx
  obtain ⟨k, u⟩ := x
  have hk : k ≤ 60 := hx.1
  have h : frm (ks [3004]) t u := hx.2.1
  have hl : tL u 3004 = tL t 3004 := hx.2.2.1
  have ho : ∀ s', ¬ s' = s → tJ u 3004 s' = tJ t 3004 s' := hx.2.2.2.1
  have hz : ∀ j, j < k → tJ u 3004 s j = 0 := hx.2.2.2.2
  show (∃ u', BB_X10_holdRow_22 (B_X10_holdRow_22 fu) u s (nt k) = _ ∧ _) ∨ ∃ a', BB_X10_holdRow_22 (B_X10_holdRow_22 fu) u s (nt k) = _ ∧ _
  unfold BB_X10_holdRow_22
  rw [hl, h60, show Int32.ofNat 60 = nt 60 from rfl, igE (by omega) (by omega)]
  by_cases e : k = 60
  · left
    subst e
    exact ⟨u, if_pos (Nat.le_refl _), h, hl, ho, hz⟩
  · right
    refine ⟨(k + 1, uJ u 3004 s k 0), ?_, ⟨by show k + 1 ≤ 60; omega, frm_tr h (frm_uJ rfl), hl, fun s' hs' => ?_, fun j hj => ?_⟩, by show 60 - (k + 1) < 60 - k; omega⟩
    · rw [if_neg (by omega), gd_nt _ (by omega) (by omega), nt_cl (by omega), nxt_e, nt_succ]
    · show tJ (uJ u 3004 s k 0) 3004 s' = _
      rw [J_uJ, m1_n hs', ho s' hs']
    · show tJ (uJ u 3004 s k 0) 3004 s j = _
      rw [J_uJ, m1_s]
      by_cases e2 : j = k
      · subst e2; rw [m1_s]
      · have hj' : j < k + 1 := hj
        rw [m1_n e2, hz j (by omega)]
theorem X13_zero {s : Nat} (hL : Ilen t) (hs : s < 6) : ∃ u, B_X13_row_54 10000 t (nt s) (nt (60 * s)) = some (1, u) ∧ frm (ks [3395]) t u ∧ ∀ i, tJ u 3395 0 i = if 60 * s ≤ i ∧ i < 60 * s + 60 then 0 else tJ t 3395 0 i := by
  obtain ⟨N, hN⟩ : ∃ N : Nat, N = 10000 := ⟨_, rfl⟩
  rw [← hN]
  refine loop_wh (B := fun fu (x : Nat × TS) => B_X13_row_54 fu x.2 (nt s) (nt (60 * s + x.1))) (mu := fun x => 60 - x.1) (G := fun o => ∃ u, o = some (1, u) ∧ frm (ks [3395]) t u ∧ ∀ i, tJ u 3395 0 i = if 60 * s ≤ i ∧ i < 60 * s + 60 then 0 else tJ t 3395 0 i) (P := fun x => x.1 ≤ 60 ∧ frm (ks [3395]) t x.2 ∧ ∀ i, tJ x.2 3395 0 i = if 60 * s ≤ i ∧ i < 60 * s + x.1 then 0 else tJ t 3395 0 i) ?_ N (0, t) ⟨Nat.zero_le _, frm_rf, fun i => (if_neg (fun (q : 60 * s ≤ i ∧ i < 60 * s + 0) => by omega)).symm⟩ (by show 60 - 0 < N; omega)
  intro fu x hx
  obtain ⟨k, u⟩ := x
  have hk : k ≤ 60 := hx.1
  have h : frm (ks [3395]) t u := hx.2.1
  have hz : ∀ i, tJ u 3395 0 i = if 60 * s ≤ i ∧ i < 60 * s + k then 0 else tJ t 3395 0 i := hx.2.2
  show (∃ u', BB_X13_row_54 (B_X13_row_54 fu) u (nt s) (nt (60 * s + k)) = _ ∧ _) ∨ ∃ a', BB_X13_row_54 (B_X13_row_54 fu) u (nt s) (nt (60 * s + k)) = _ ∧ _
  have hL1 : Ilen u := Ilen_f h hL
  have e0 : (60 : Int32) * nt s + 60 = nt (60 * s + 60) := by rw [show (60 : Int32) = nt 60 from rfl, nt_mul, nt_add]
  unfold BB_X13_row_54
  rw [e0, igE (by omega) (by omega)]
  by_cases e : k = 60
  · left
    subst e
    exact ⟨u, if_pos (Nat.le_refl _), h, hz⟩
  · right
    refine ⟨(k + 1, uJ u 3395 0 (60 * s + k) 0), ?_, ⟨by show k + 1 ≤ 60; omega, frm_tr h (frm_uJ rfl), fun i => ?_⟩, by show 60 - (k + 1) < 60 - k; omega⟩
    · rw [if_neg (by omega), (show tL _ 3395 0 = 360 from hL1 3395 rfl), gd_nt _ (by omega) (by omega), nt_cl (by omega), nxt_e, nt_succ]
      rfl
    · show tJ (uJ u 3395 0 (60 * s + k) 0) 3395 0 i = if 60 * s ≤ i ∧ i < 60 * s + (k + 1) then 0 else tJ t 3395 0 i
      rw [J_uJ, m1_s]
      by_cases e2 : i = 60 * s + k
      · subst e2; rw [m1_s, if_pos (by omega)]
      · rw [m1_n e2, hz i]
        by_cases g : 60 * s ≤ i ∧ i < 60 * s + k
        · rw [if_pos g, if_pos (by omega)]
        · rw [if_neg g, if_neg (by omega)]
theorem m_row (x1 x2 x3 : Int32) (hL : Ilen t) (hI : Ishelf nB t) : Eqm (F_X12_row t x1 x2 x3) (fun t => F_X13_row t x1 x2 x3) (fun t2 => Ishelf nB t2 ∧ frm (ks kShelf) t t2) := by
  have hbad : ∀ r, F_X12_row t x1 x2 x3 = some (r, t) → F_X13_row t x1 x2 x3 = some (r, t) → Eqm (F_X12_row t x1 x2 x3) (fun t => F_X13_row t x1 x2 x3) (fun t2 => Ishelf nB t2 ∧ frm (ks kShelf) t t2) := fun r h1 h2 => ⟨r, t, t, h1, h2, hI, frm_rf⟩
  cases hx : ix 6 x1 with
  | none => exact hbad (-1) (by simp only [F_X12_row, shelfAt_eq hL hI, hx, nxt_e, oc_s, oc_n, ob_s, ob2_s, gb_b1, gb_0, gb_1, gw0, gw1]) (by simp only [F_X13_row, isShelf_eq, hx, isS_n, nxt_e, oc_s, oc_n, ob_s, ob2_s, gb_b1, gb_0, gb_1, gw0, gw1, Bool.false_eq_true, Bool.true_eq_false, if_true, if_false, not_true_eq_false, not_false_eq_true])
  | some s =>
  obtain ⟨hs, rfl⟩ := ix_some hx
  by_cases h2 : 0 ≤ x2 ∧ x2 ≤ 4
  case neg => exact hbad (-1) (by simp only [F_X12_row, shelfAt_eq hL hI, hx, win_eq, decide_eq_false h2, nxt_e, oc_s, oc_n, ob_s, ob2_s, gb_b1, gb_0, gb_1, gw0, gw1, Bool.false_eq_true, Bool.true_eq_false, if_true, if_false, not_true_eq_false, not_false_eq_true]) (by simp only [F_X13_row, isShelf_eq, hx, isS_s, in_eq, decide_eq_false h2, nxt_e, oc_s, oc_n, ob_s, ob2_s, gb_b1, gb_0, gb_1, gw0, gw1, Bool.false_eq_true, Bool.true_eq_false, if_true, if_false, not_true_eq_false, not_false_eq_true])
  by_cases h3 : x3 ≤ 60
  case neg => exact hbad (-1) (by simp only [F_X12_row, shelfAt_eq hL hI, hx, win_eq, decide_eq_true h2, nxt_e, oc_s, oc_n, ob_s, ob2_s, gb_b1, gb_0, gb_1, gw0, gw1, Bool.false_eq_true, Bool.true_eq_false, if_true, if_false, not_true_eq_false, not_false_eq_true, h3]) (by simp only [F_X13_row, isShelf_eq, hx, isS_s, in_eq, decide_eq_true h2, nxt_e, oc_s, oc_n, ob_s, ob2_s, gb_b1, gb_0, gb_1, gw0, gw1, Bool.false_eq_true, Bool.true_eq_false, if_true, if_false, not_true_eq_false, not_false_eq_true, h3])
  by_cases h4 : 0 ≤ x3
  case neg => exact hbad (-14) (by simp only [F_X12_row, shelfAt_eq hL hI, hx, win_eq, decide_eq_true h2, nxt_e, oc_s, oc_n, ob_s, ob2_s, gb_b1, gb_0, gb_1, gw0, gw1, Bool.false_eq_true, Bool.true_eq_false, if_true, if_false, not_true_eq_false, not_false_eq_true, h3, h4]) (by simp only [F_X13_row, isShelf_eq, hx, isS_s, in_eq, decide_eq_true h2, nxt_e, oc_s, oc_n, ob_s, ob2_s, gb_b1, gb_0, gb_1, gw0, gw1, Bool.false_eq_true, Bool.true_eq_false, if_true, if_false, not_true_eq_false, not_false_eq_true, h3, h4])
  obtain ⟨so, hso, rfl⟩ := nt_exb (b := 4) h2.1 (by omega) h2.2
  obtain ⟨n, hn, rfl⟩ := nt_exb (b := 60) h4 (by omega) h3
  obtain ⟨u, k1, k2, k3, k4, k5⟩ := X10_zero (t := uI (uI (uR (uI t 1000 s 2) 1001 s none) 1002 s (nt so)) 1003 s (nt n)) (s := s) (hI s hs).2.1
  have f1 : frm (ks [1000, 1001, 1002, 1003, 3004]) t u := frm_tr (frm_tr (frm_uI rfl) (frm_tr (frm_uR rfl) (frm_tr (frm_uI rfl) (frm_uI rfl)))) (frm_sb k2 (ks_sb rfl))
  have hL1 := Ilen_f f1 hL
  have f2 : frm (ks [3393, 3394]) u (uA (uA u 3393 0 s (-2 - nt so)) 3394 0 s (nt n)) := frm_tr (frm_uA rfl) (frm_uA rfl)
  have hL2 := Ilen_f f2 hL1
  obtain ⟨w, q1, q2, q3⟩ := X13_zero (t := uA (uA u 3393 0 s (-2 - nt so)) 3394 0 s (nt n)) hL2 hs
  have f3 : frm (ks [3393, 3394, 3395]) u w := frm_tr (frm_sb f2 (ks_sb rfl)) (frm_sb q2 (ks_sb rfl))
  have f4 : frm (ks kShelf) t w := frm_tr (frm_sb f1 (ks_sb rfl)) (frm_sb f3 (ks_sb rfl))
  have e0 : (60 : Int32) * nt s = nt (60 * s) := by rw [show (60 : Int32) = nt 60 from rfl, nt_mul]
  refine ⟨1, u, w, ?_, ?_, fun s' hs' => ?_, f4⟩
  · simp only [F_X12_row, shelfAt_eq hL hI, hx, win_eq, decide_eq_true h2, nxt_e, oc_s, oc_n, ob_s, ob2_s, gb_b1, gb_0, gb_1, gw0, gw1, Bool.false_eq_true, Bool.true_eq_false, if_true, if_false, not_true_eq_false, not_false_eq_true, h3, h4, F_X10_holdRow, k1]
  · show F_X13_row u (nt s) (nt so) (nt n) = _
    simp only [F_X13_row, isShelf_eq, hx, isS_s, in_eq, decide_eq_true h2, nxt_e, oc_s, oc_n, ob_s, ob2_s, gb_b1, gb_0, gb_1, gw0, gw1, Bool.false_eq_true, Bool.true_eq_false, if_true, if_false, not_true_eq_false, not_false_eq_true, h3, h4, (show tL _ 3393 0 = 6 from hL1 3393 rfl), e0]
    simp (disch := omega) only [gd_nt, nt_cl, I_uI, I_uI_n, A_uA, A_uA_n, E_uI, R_uI, L_uI, A_uI, J_uI, Q_uI, E_uA, I_uA, R_uA, L_uA, J_uA, Q_uA, m1_s, (show tL _ 3394 0 = 6 from hL1 3394 rfl), nxt_e, oc_s, oc_n, ob_s, ob2_s, gb_b1, gb_0, gb_1, gw0, gw1]
    exact q1
  · have g := hI s' hs'
    have a1 : tI w 1000 = mm_u1 (tI t 1000) s 2 := by rw [(f3.1 1000 rfl).2.1, (k2.1 1000 rfl).2.1]; simp (disch := omega) only [I_uI, I_uI_n, R_uR, R_uR_n, A_uA, A_uA_n, J_uJ, J_uJ_n, Q_uQ, Q_uQ_n, E_uO, E_uO_n, I_uO, I_uO_n, R_uO, R_uO_n, E_uN, E_uN_n, L_uN, L_uN_n, A_uN, A_uN_n, J_uN, J_uN_n, Q_uN, Q_uN_n, A_uCA, A_uCA_n, J_uCJ, J_uCJ_n, E_uI, R_uI, L_uI, A_uI, J_uI, Q_uI, E_uR, I_uR, L_uR, A_uR, J_uR, Q_uR, E_uA, I_uA, R_uA, L_uA, J_uA, Q_uA, E_uJ, I_uJ, R_uJ, L_uJ, A_uJ, Q_uJ, E_uQ, I_uQ, R_uQ, L_uQ, A_uQ, J_uQ, L_uO, A_uO, J_uO, Q_uO, I_uN, R_uN, E_uCA, I_uCA, R_uCA, L_uCA, J_uCA, Q_uCA, E_uCJ, I_uCJ, R_uCJ, L_uCJ, A_uCJ, Q_uCJ, m1_s]
    have a2 : tR w 1001 = mm_u1 (tR t 1001) s none := by rw [(f3.1 1001 rfl).2.2.1, (k2.1 1001 rfl).2.2.1]; simp (disch := omega) only [I_uI, I_uI_n, R_uR, R_uR_n, A_uA, A_uA_n, J_uJ, J_uJ_n, Q_uQ, Q_uQ_n, E_uO, E_uO_n, I_uO, I_uO_n, R_uO, R_uO_n, E_uN, E_uN_n, L_uN, L_uN_n, A_uN, A_uN_n, J_uN, J_uN_n, Q_uN, Q_uN_n, A_uCA, A_uCA_n, J_uCJ, J_uCJ_n, E_uI, R_uI, L_uI, A_uI, J_uI, Q_uI, E_uR, I_uR, L_uR, A_uR, J_uR, Q_uR, E_uA, I_uA, R_uA, L_uA, J_uA, Q_uA, E_uJ, I_uJ, R_uJ, L_uJ, A_uJ, Q_uJ, E_uQ, I_uQ, R_uQ, L_uQ, A_uQ, J_uQ, L_uO, A_uO, J_uO, Q_uO, I_uN, R_uN, E_uCA, I_uCA, R_uCA, L_uCA, J_uCA, Q_uCA, E_uCJ, I_uCJ, R_uCJ, L_uCJ, A_uCJ, Q_uCJ, m1_s]
    have a3 : tI w 1002 = mm_u1 (tI t 1002) s (nt so) := by rw [(f3.1 1002 rfl).2.1, (k2.1 1002 rfl).2.1]; simp (disch := omega) only [I_uI, I_uI_n, R_uR, R_uR_n, A_uA, A_uA_n, J_uJ, J_uJ_n, Q_uQ, Q_uQ_n, E_uO, E_uO_n, I_uO, I_uO_n, R_uO, R_uO_n, E_uN, E_uN_n, L_uN, L_uN_n, A_uN, A_uN_n, J_uN, J_uN_n, Q_uN, Q_uN_n, A_uCA, A_uCA_n, J_uCJ, J_uCJ_n, E_uI, R_uI, L_uI, A_uI, J_uI, Q_uI, E_uR, I_uR, L_uR, A_uR, J_uR, Q_uR, E_uA, I_uA, R_uA, L_uA, J_uA, Q_uA, E_uJ, I_uJ, R_uJ, L_uJ, A_uJ, Q_uJ, E_uQ, I_uQ, R_uQ, L_uQ, A_uQ, J_uQ, L_uO, A_uO, J_uO, Q_uO, I_uN, R_uN, E_uCA, I_uCA, R_uCA, L_uCA, J_uCA, Q_uCA, E_uCJ, I_uCJ, R_uCJ, L_uCJ, A_uCJ, Q_uCJ, m1_s]
    have a4 : tI w 1003 = mm_u1 (tI t 1003) s (nt n) := by rw [(f3.1 1003 rfl).2.1, (k2.1 1003 rfl).2.1]; simp (disch := omega) only [I_uI, I_uI_n, R_uR, R_uR_n, A_uA, A_uA_n, J_uJ, J_uJ_n, Q_uQ, Q_uQ_n, E_uO, E_uO_n, I_uO, I_uO_n, R_uO, R_uO_n, E_uN, E_uN_n, L_uN, L_uN_n, A_uN, A_uN_n, J_uN, J_uN_n, Q_uN, Q_uN_n, A_uCA, A_uCA_n, J_uCJ, J_uCJ_n, E_uI, R_uI, L_uI, A_uI, J_uI, Q_uI, E_uR, I_uR, L_uR, A_uR, J_uR, Q_uR, E_uA, I_uA, R_uA, L_uA, J_uA, Q_uA, E_uJ, I_uJ, R_uJ, L_uJ, A_uJ, Q_uJ, E_uQ, I_uQ, R_uQ, L_uQ, A_uQ, J_uQ, L_uO, A_uO, J_uO, Q_uO, I_uN, R_uN, E_uCA, I_uCA, R_uCA, L_uCA, J_uCA, Q_uCA, E_uCJ, I_uCJ, R_uCJ, L_uCJ, A_uCJ, Q_uCJ, m1_s]
    have a5 : tA w 3393 0 = mm_u1 (tA t 3393 0) s (-2 - nt so) := by rw [(q2.1 3393 rfl).2.2.2.2.1]; simp (disch := omega) only [I_uI, I_uI_n, R_uR, R_uR_n, A_uA, A_uA_n, J_uJ, J_uJ_n, Q_uQ, Q_uQ_n, E_uO, E_uO_n, I_uO, I_uO_n, R_uO, R_uO_n, E_uN, E_uN_n, L_uN, L_uN_n, A_uN, A_uN_n, J_uN, J_uN_n, Q_uN, Q_uN_n, A_uCA, A_uCA_n, J_uCJ, J_uCJ_n, E_uI, R_uI, L_uI, A_uI, J_uI, Q_uI, E_uR, I_uR, L_uR, A_uR, J_uR, Q_uR, E_uA, I_uA, R_uA, L_uA, J_uA, Q_uA, E_uJ, I_uJ, R_uJ, L_uJ, A_uJ, Q_uJ, E_uQ, I_uQ, R_uQ, L_uQ, A_uQ, J_uQ, L_uO, A_uO, J_uO, Q_uO, I_uN, R_uN, E_uCA, I_uCA, R_uCA, L_uCA, J_uCA, Q_uCA, E_uCJ, I_uCJ, R_uCJ, L_uCJ, A_uCJ, Q_uCJ, m1_s]; rw [(f1.1 3393 rfl).2.2.2.2.1]
    have a6 : tA w 3394 0 = mm_u1 (tA t 3394 0) s (nt n) := by rw [(q2.1 3394 rfl).2.2.2.2.1]; simp (disch := omega) only [I_uI, I_uI_n, R_uR, R_uR_n, A_uA, A_uA_n, J_uJ, J_uJ_n, Q_uQ, Q_uQ_n, E_uO, E_uO_n, I_uO, I_uO_n, R_uO, R_uO_n, E_uN, E_uN_n, L_uN, L_uN_n, A_uN, A_uN_n, J_uN, J_uN_n, Q_uN, Q_uN_n, A_uCA, A_uCA_n, J_uCJ, J_uCJ_n, E_uI, R_uI, L_uI, A_uI, J_uI, Q_uI, E_uR, I_uR, L_uR, A_uR, J_uR, Q_uR, E_uA, I_uA, R_uA, L_uA, J_uA, Q_uA, E_uJ, I_uJ, R_uJ, L_uJ, A_uJ, Q_uJ, E_uQ, I_uQ, R_uQ, L_uQ, A_uQ, J_uQ, L_uO, A_uO, J_uO, Q_uO, I_uN, R_uN, E_uCA, I_uCA, R_uCA, L_uCA, J_uCA, Q_uCA, E_uCJ, I_uCJ, R_uCJ, L_uCJ, A_uCJ, Q_uCJ, m1_s]; rw [(f1.1 3394 rfl).2.2.2.2.1]
    have a7 : ∀ i, tJ w 3395 0 i = if 60 * s ≤ i ∧ i < 60 * s + 60 then 0 else tJ t 3395 0 i := fun i => by
      rw [q3 i, show tJ (uA (uA u 3393 0 s (-2 - nt so)) 3394 0 s (nt n)) 3395 = tJ u 3395 from rfl, (f1.1 3395 rfl).2.2.2.2.2.1]
    have a8 : tL w 3004 = tL t 3004 := by rw [(f3.1 3004 rfl).2.2.2.1, k3]; rfl
    have a9 : ∀ s', ¬ s' = s → tJ w 3004 s' = tJ t 3004 s' := fun s' h => by rw [(f3.1 3004 rfl).2.2.2.2.2.1, k4 s' h]; rfl
    refine ⟨by rw [(f3.1 3219 rfl).2.2.2.2.2.2, (f1.1 3219 rfl).2.2.2.2.2.2]; exact g.1, by rw [a8]; exact g.2.1, ?_⟩
    have g2 := g.2.2
    unfold sh0 at g2 ⊢
    rw [a1, a2, a3, a4, a5, a6]
    by_cases e : s' = s
    · subst e
      simp only [m1_s]
      refine Or.inr (Or.inr ⟨so, n, by omega, hn, trivial, trivial, rfl, rfl, rfl, rfl, fun k hk => ?_⟩)
      rw [a7, if_pos (by omega), (f3.1 3004 rfl).2.2.2.2.2.1, k5 k hk]
    · simp only [m1_n e]
      rcases g2 with g2 | g2 | ⟨so', n', b1_, b2, b3, b4, b5, b6, b7, b8, b9⟩
      · exact Or.inl g2
      · exact Or.inr (Or.inl g2)
      · refine Or.inr (Or.inr ⟨so', n', b1_, b2, b3, b4, b5, b6, b7, b8, fun k hk => ?_⟩)
        rw [a9 s' e, a7, if_neg (by omega), b9 k hk]
end
