/-! PART 35: leagues and terms. -/
theorem i10 : ((1 : Int32) = 0) = False := eq_false (by decide)
def Ileag (t : TS) : Prop := ∀ l, l < 4 → tQ t 3202 0 l = some l ∧ tL t 2500 l = 6 ∧ tL t 2501 l = 6 ∧ tI t 503 l = tA t 3306 0 l ∧ ∃ w, w ≤ 6 ∧ tI t 502 l = nt w ∧ tA t 3303 0 l = nt w ∧ ∀ k, k < w → tA t 2500 l k = tA t 3304 0 (6 * l + k) ∧ tA t 2501 l k = tA t 3305 0 (6 * l + k)
def kLeag : List Nat := [3202, 2500, 2501, 503, 3306, 502, 3303, 3304, 3305]
theorem Ileag_f {D : Nat → Bool} {t t' : TS} (h : frm D t t') (hd : ∀ k, k ∈ kLeag → D k = false) (hI : Ileag t) : Ileag t' := by
  unfold Ileag at hI ⊢
  simp only [(h.1 3202 (hd 3202 (by decide))).2.2.2.2.2.2, (h.1 2500 (hd 2500 (by decide))).2.2.2.1, (h.1 2501 (hd 2501 (by decide))).2.2.2.1, (h.1 503 (hd 503 (by decide))).2.1, (h.1 3306 (hd 3306 (by decide))).2.2.2.2.1, (h.1 502 (hd 502 (by decide))).2.1, (h.1 3303 (hd 3303 (by decide))).2.2.2.2.1, (h.1 2500 (hd 2500 (by decide))).2.2.2.2.1, (h.1 2501 (hd 2501 (by decide))).2.2.2.2.1, (h.1 3304 (hd 3304 (by decide))).2.2.2.2.1, (h.1 3305 (hd 3305 (by decide))).2.2.2.2.1]
  exact hI
theorem leagueAt_eq {t : TS} (hL : Ilen t) (hG : Ileag t) (x : Int32) : F_X12_leagueAt t x = some (ix 4 x) := by
  unfold F_X12_leagueAt
  rw [win_eq, (show tL _ 3202 0 = 4 from hL 3202 rfl)]
  refine (look (n := 4) (N := 4) (x := x) (by decide) (by decide) (some none) (fun i => some (tQ t 3202 0 i))).trans ?_
  cases h : ix 4 x with
  | none => rfl
  | some i => rw [oel_s, (hG i (ix_some h).1).1]
theorem isLeague_eq (t : TS) (x : Int32) : F_X13_isLeague t x = some (b1 (ix 4 x).isSome) := by
  unfold F_X13_isLeague
  rw [in_eq, show (3 : Int32) = nt 4 - 1 from rfl, dix (by decide), ob_s, gb_b1]
theorem isDay_eq (t : TS) (x : Int32) : F_X13_isDay t x = some (b1 (decide (0 ≤ x ∧ x ≤ 2999))) := by
  unfold F_X13_isDay
  rw [in_eq, ob_s, gb_b1]
theorem m_window {t : TS} (x1 x2 x3 : Int32) (hL : Ilen t) (hG : Ileag t) : Eqm (F_X12_window t x1 x2 x3) (fun t => F_X13_window t x1 x2 x3) (fun t2 => frm (ks kLeag) t t2 ∧ Ileag t2) := by
  have hbad : ∀ r, F_X12_window t x1 x2 x3 = some (r, t) → F_X13_window t x1 x2 x3 = some (r, t) → Eqm (F_X12_window t x1 x2 x3) (fun t => F_X13_window t x1 x2 x3) (fun t2 => frm (ks kLeag) t t2 ∧ Ileag t2) := fun r h1 h2 => ⟨r, t, t, h1, h2, frm_rf, hG⟩
  cases hx : ix 4 x1 with
  | none => exact hbad (-1) (by simp only [F_X12_window, leagueAt_eq hL hG, hx, nxt_e, oc_s, oc_n, ob_s, ob2_s, gb_b1, gb_0, gb_1, gw0, gw1, Bool.false_eq_true, Bool.true_eq_false, if_true, if_false, not_true_eq_false, not_false_eq_true]) (by simp only [F_X13_window, isLeague_eq, hx, isS_n, nxt_e, oc_s, oc_n, ob_s, ob2_s, gb_b1, gb_0, gb_1, gw0, gw1, Bool.false_eq_true, Bool.true_eq_false, if_true, if_false, not_true_eq_false, not_false_eq_true])
  | some l =>
  obtain ⟨hl, rfl⟩ := ix_some hx
  by_cases h2 : 0 ≤ x2 ∧ x2 ≤ 2999
  case neg => exact hbad (-1) (by simp only [F_X12_window, leagueAt_eq hL hG, hx, win_eq, decide_eq_false h2, nxt_e, oc_s, oc_n, ob_s, ob2_s, gb_b1, gb_0, gb_1, gw0, gw1, Bool.false_eq_true, Bool.true_eq_false, if_true, if_false, not_true_eq_false, not_false_eq_true]) (by simp only [F_X13_window, isLeague_eq, isDay_eq, hx, isS_s, decide_eq_false h2, nxt_e, oc_s, oc_n, ob_s, ob2_s, gb_b1, gb_0, gb_1, gw0, gw1, Bool.false_eq_true, Bool.true_eq_false, if_true, if_false, not_true_eq_false, not_false_eq_true])
  by_cases h3 : x2 ≤ x3 ∧ x3 ≤ 2999
  case neg => exact hbad (-1) (by simp only [F_X12_window, leagueAt_eq hL hG, hx, win_eq, decide_eq_true h2, decide_eq_false h3, nxt_e, oc_s, oc_n, ob_s, ob2_s, gb_b1, gb_0, gb_1, gw0, gw1, Bool.false_eq_true, Bool.true_eq_false, if_true, if_false, not_true_eq_false, not_false_eq_true]) (by simp only [F_X13_window, isLeague_eq, isDay_eq, in_eq, hx, isS_s, decide_eq_true h2, decide_eq_false h3, nxt_e, oc_s, oc_n, ob_s, ob2_s, gb_b1, gb_0, gb_1, gw0, gw1, Bool.false_eq_true, Bool.true_eq_false, if_true, if_false, not_true_eq_false, not_false_eq_true])
  obtain ⟨g1, g2, g3, g4, w, hw, g5, g6, g7⟩ := hG l hl
  by_cases hw6 : w = 6
  · subst hw6
    refine hbad (-3) ?_ ?_
    · simp (disch := omega) only [F_X12_window, leagueAt_eq hL hG, hx, win_eq, decide_eq_true h2, decide_eq_true h3, nxt_e, oc_s, oc_n, ob_s, ob2_s, gb_b1, gb_0, gb_1, gw0, gw1, Bool.false_eq_true, Bool.true_eq_false, if_true, if_false, not_true_eq_false, not_false_eq_true, F_X5_addWindow, g5, g2, g3]
      rfl
    · simp (disch := omega) only [F_X13_window, isLeague_eq, isDay_eq, in_eq, hx, isS_s, decide_eq_true h2, decide_eq_true h3, nxt_e, oc_s, oc_n, ob_s, ob2_s, gb_b1, gb_0, gb_1, gw0, gw1, Bool.false_eq_true, Bool.true_eq_false, if_true, if_false, not_true_eq_false, not_false_eq_true, (show tL _ 3303 0 = 4 from hL 3303 rfl), gd_nt, nt_cl, g6]
      rfl
  · have hw3 : nt w < Int32.ofNat 6 := (nt_lt (b := 6) (by omega) (by omega)).mpr (by omega)
    have hw7 : ¬ nt w = 6 := fun q => by rw [show (6 : Int32) = nt 6 from rfl, eq_nt (by omega) (by omega)] at q; exact hw6 q
    have n6 : (6 : Int32) * nt l = nt (6 * l) := nt_mul 6 l
    refine ⟨nt (w + 1), uI (uA (uA t 2500 l w x2) 2501 l w x3) 502 l (nt (w + 1)), uA (uA (uA (uI (uA (uA t 2500 l w x2) 2501 l w x3) 502 l (nt (w + 1))) 3304 0 (6 * l + w) x2) 3305 0 (6 * l + w) x3) 3303 0 l (nt (w + 1)), ?_, ?_, ?_, ?_⟩
    · simp (disch := omega) only [F_X12_window, leagueAt_eq hL hG, hx, win_eq, decide_eq_true h2, decide_eq_true h3, nxt_e, oc_s, oc_n, ob_s, ob2_s, gb_b1, gb_0, gb_1, gw0, gw1, Bool.false_eq_true, Bool.true_eq_false, if_true, if_false, not_true_eq_false, not_false_eq_true, F_X5_addWindow, g5, g2, g3, I_uI, I_uI_n, A_uA, A_uA_n, E_uI, R_uI, L_uI, A_uI, J_uI, Q_uI, E_uA, I_uA, R_uA, L_uA, J_uA, Q_uA, m1_s, gd_nt, nt_cl, nt_succ, hw3, i10]
    · simp (disch := omega) only [F_X13_window, isLeague_eq, isDay_eq, in_eq, hx, isS_s, decide_eq_true h2, decide_eq_true h3, nxt_e, oc_s, oc_n, ob_s, ob2_s, gb_b1, gb_0, gb_1, gw0, gw1, Bool.false_eq_true, Bool.true_eq_false, if_true, if_false, not_true_eq_false, not_false_eq_true, (show tL _ 3303 0 = 4 from hL 3303 rfl), (show tL _ 3304 0 = 24 from hL 3304 rfl), (show tL _ 3305 0 = 24 from hL 3305 rfl), gd_nt, nt_cl, g6, I_uI, I_uI_n, A_uA, A_uA_n, E_uI, R_uI, L_uI, A_uI, J_uI, Q_uI, E_uA, I_uA, R_uA, L_uA, J_uA, Q_uA, m1_s, nt_succ, hw7, n6, nt_add]
    · exact frm_tr (frm_uA rfl) (frm_tr (frm_uA rfl) (frm_tr (frm_uI rfl) (frm_tr (frm_uA rfl) (frm_tr (frm_uA rfl) (frm_uA rfl)))))
    · intro l' hl'
      by_cases e : l' = l
      · subst e
        simp (disch := omega) only [I_uI, I_uI_n, A_uA, A_uA_n, E_uI, R_uI, L_uI, A_uI, J_uI, Q_uI, E_uA, I_uA, R_uA, L_uA, J_uA, Q_uA, m1_s]
        refine ⟨g1, g2, g3, g4, w + 1, by omega, rfl, rfl, fun k hk => ?_⟩
        by_cases e2 : k = w
        · subst e2
          simp only [m1_s]
          exact ⟨trivial, trivial⟩
        · simp (disch := omega) only [m1_n]
          exact g7 k (by omega)
      · obtain ⟨k1, k2, k3, k4, w', k5, k6, k7, k8⟩ := hG l' hl'
        simp (disch := omega) only [I_uI, I_uI_n, A_uA, A_uA_n, E_uI, R_uI, L_uI, A_uI, J_uI, Q_uI, E_uA, I_uA, R_uA, L_uA, J_uA, Q_uA, m1_s, m1_n]
        refine ⟨k1, k2, k3, k4, w', k5, k6, k7, fun k hk => ?_⟩
        simp (disch := omega) only [m1_n]
        exact k8 k hk
theorem m_papers {t : TS} (x1 x2 : Int32) (hL : Ilen t) (hG : Ileag t) : Eqm (F_X12_papers t x1 x2) (fun t => F_X13_papers t x1 x2) (fun t2 => frm (ks kLeag) t t2 ∧ Ileag t2) := by
  have hbad : ∀ r, F_X12_papers t x1 x2 = some (r, t) → F_X13_papers t x1 x2 = some (r, t) → Eqm (F_X12_papers t x1 x2) (fun t => F_X13_papers t x1 x2) (fun t2 => frm (ks kLeag) t t2 ∧ Ileag t2) := fun r h1 h2 => ⟨r, t, t, h1, h2, frm_rf, hG⟩
  cases hx : ix 4 x1 with
  | none => exact hbad (-1) (by simp only [F_X12_papers, leagueAt_eq hL hG, hx, nxt_e, oc_s, oc_n, ob_s, ob2_s, gb_b1, gb_0, gb_1, gw0, gw1]) (by simp only [F_X13_papers, isLeague_eq, hx, isS_n, nxt_e, oc_s, oc_n, ob_s, ob2_s, gb_b1, gb_0, gb_1, gw0, gw1, Bool.false_eq_true, Bool.true_eq_false, if_true, if_false, not_true_eq_false, not_false_eq_true])
  | some l =>
  obtain ⟨hl, rfl⟩ := ix_some hx
  by_cases h2 : 0 ≤ x2 ∧ x2 ≤ 1439
  case neg => exact hbad (-1) (by simp only [F_X12_papers, leagueAt_eq hL hG, hx, win_eq, decide_eq_false h2, nxt_e, oc_s, oc_n, ob_s, ob2_s, gb_b1, gb_0, gb_1, gw0, gw1, Bool.false_eq_true, Bool.true_eq_false, if_true, if_false, not_true_eq_false, not_false_eq_true]) (by simp only [F_X13_papers, isLeague_eq, in_eq, hx, isS_s, decide_eq_false h2, nxt_e, oc_s, oc_n, ob_s, ob2_s, gb_b1, gb_0, gb_1, gw0, gw1, Bool.false_eq_true, Bool.true_eq_false, if_true, if_false, not_true_eq_false, not_false_eq_true])
  obtain ⟨g1, g2, g3, g4, w, hw, g5, g6, g7⟩ := hG l hl
  refine ⟨tA t 3306 0 l, uI t 503 l x2, uA (uI t 503 l x2) 3306 0 l x2, ?_, ?_, ?_, ?_⟩
  · simp only [F_X12_papers, leagueAt_eq hL hG, hx, win_eq, decide_eq_true h2, nxt_e, oc_s, oc_n, ob_s, ob2_s, gb_b1, gb_0, gb_1, gw0, gw1, Bool.false_eq_true, Bool.true_eq_false, if_true, if_false, not_true_eq_false, not_false_eq_true, g4]
  · simp (disch := omega) only [F_X13_papers, isLeague_eq, in_eq, hx, isS_s, decide_eq_true h2, nxt_e, oc_s, oc_n, ob_s, ob2_s, gb_b1, gb_0, gb_1, gw0, gw1, Bool.false_eq_true, Bool.true_eq_false, if_true, if_false, not_true_eq_false, not_false_eq_true, I_uI, I_uI_n, A_uA, A_uA_n, E_uI, R_uI, L_uI, A_uI, J_uI, Q_uI, E_uA, I_uA, R_uA, L_uA, J_uA, Q_uA, m1_s, (show tL _ 3306 0 = 4 from hL 3306 rfl), gd_nt, nt_cl]
  · exact frm_tr (frm_uI rfl) (frm_uA rfl)
  · intro l' hl'
    obtain ⟨k1, k2, k3, k4, w', k5, k6, k7, k8⟩ := hG l' hl'
    simp (disch := omega) only [I_uI, I_uI_n, A_uA, A_uA_n, E_uI, R_uI, L_uI, A_uI, J_uI, Q_uI, E_uA, I_uA, R_uA, L_uA, J_uA, Q_uA, m1_s]
    refine ⟨k1, k2, k3, ?_, w', k5, k6, k7, k8⟩
    by_cases e : l' = l
    · subst e
      rw [m1_s, m1_s]
    · rw [m1_n e, m1_n e]
      exact k4
/-- whether a league's windows hold a day -/
def opn (t : TS) (l w : Nat) (d : Int32) : Bool := anyU (fun k => decide (tA t 2500 l k ≤ d ∧ d ≤ tA t 2501 l k)) w 0
theorem X5_isOpen_eq {t : TS} (hG : Ileag t) {l w : Nat} (hl : l < 4) (hw : w ≤ 6) (h5 : tI t 502 l = nt w) (d : Int32) : F_X5_isOpen t l d = some (b1 (opn t l w d)) := by
  obtain ⟨g1, g2, g3, -⟩ := hG l hl
  unfold F_X5_isOpen
  refine (loop_find (n := w) (B := fun fu v => B_X5_isOpen_2 fu t l d v) (p := fun k => decide (tA t 2500 l k ≤ d ∧ d ≤ tA t 2501 l k)) (r0 := some 0) (r1 := fun _ => some 1) (fun fu => ?_) (fun fu k hk => ?_) w 0 10000 (by omega) (by omega)).trans ?_
  · show BB_X5_isOpen_2 (B_X5_isOpen_2 fu) t l d (nt w) = _
    unfold BB_X5_isOpen_2
    rw [h5, if_pos (Int32.le_refl _)]
  · show BB_X5_isOpen_2 (B_X5_isOpen_2 fu) t l d (nt k) = _
    unfold BB_X5_isOpen_2
    rw [h5, igE (by omega) (by omega), if_neg (by omega), g2, g3, gd_nt _ (by omega) (by omega), gd_nt _ (by omega) (by omega), nt_cl (by omega), win_eq, ob_s, gw0, nt_succ]
  · rw [nx_any]
    show (if opn t l w d = true then some 1 else some 0) = _
    cases opn t l w d <;> rfl
theorem X13_isOpen_eq {t : TS} (hL : Ilen t) (hG : Ileag t) {l w : Nat} (hl : l < 4) (hw : w ≤ 6) (h5 : tA t 3303 0 l = nt w) (h7 : ∀ k, k < w → tA t 2500 l k = tA t 3304 0 (6 * l + k) ∧ tA t 2501 l k = tA t 3305 0 (6 * l + k)) (d : Int32) : F_X13_isOpen t (nt l) d = some (b1 (opn t l w d)) := by
  have n6 : (6 : Int32) * nt l = nt (6 * l) := nt_mul 6 l
  unfold F_X13_isOpen
  rw [n6]
  refine (loop_find (n := 6 * l + w) (B := fun fu v => B_X13_isOpen_5 fu t (nt l) d v) (p := fun k => decide (tA t 3304 0 k ≤ d ∧ d ≤ tA t 3305 0 k)) (r0 := some 0) (r1 := fun _ => some 1) (fun fu => ?_) (fun fu k hk => ?_) w (6 * l) 10000 rfl (by omega)).trans ?_
  · show BB_X13_isOpen_5 (B_X13_isOpen_5 fu) t (nt l) d (nt (6 * l + w)) = _
    unfold BB_X13_isOpen_5
    rw [(show tL _ 3303 0 = 4 from hL 3303 rfl), gd_nt _ (by omega) (by omega), nt_cl (by omega), h5, n6, nt_add, if_pos (Int32.le_refl _)]
  · show BB_X13_isOpen_5 (B_X13_isOpen_5 fu) t (nt l) d (nt k) = _
    unfold BB_X13_isOpen_5
    rw [(show tL _ 3303 0 = 4 from hL 3303 rfl), (show tL _ 3304 0 = 24 from hL 3304 rfl), (show tL _ 3305 0 = 24 from hL 3305 rfl), gd_nt _ (by omega) (by omega), nt_cl (by omega), h5, n6, nt_add, igE (by omega) (by omega), if_neg (by omega), gd_nt _ (by omega) (by omega), gd_nt _ (by omega) (by omega), nt_cl (by omega), in_eq, ob_s, gw0, nt_succ]
  · rw [nx_any]
    have e : anyU (fun k => decide (tA t 3304 0 k ≤ d ∧ d ≤ tA t 3305 0 k)) w (6 * l) = opn t l w d := by
      refine anyU_c w (6 * l) 0 (fun i hi => ?_)
      obtain ⟨q1, q2⟩ := h7 i hi
      rw [Nat.zero_add, q1, q2]
    rw [e]
    cases opn t l w d <;> rfl
theorem m_open {t : TS} (x1 x2 : Int32) (hL : Ilen t) (hG : Ileag t) : ∃ r, F_X12_open t x1 x2 = some r ∧ F_X13_open t x1 x2 = some r := by
  cases hx : ix 4 x1 with
  | none => exact ⟨-1, by simp only [F_X12_open, leagueAt_eq hL hG, hx, nxt_e, oc_s, oc_n, ob_s, ob2_s, gb_b1, gb_0, gb_1, gw0, gw1], by simp only [F_X13_open, B_X13_open_14, isLeague_eq, hx, isS_n, nxt_e, oc_s, oc_n, ob_s, ob2_s, gb_b1, gb_0, gb_1, gw0, gw1, Bool.false_eq_true, Bool.true_eq_false, if_true, if_false, not_true_eq_false, not_false_eq_true]⟩
  | some l =>
  obtain ⟨hl, rfl⟩ := ix_some hx
  by_cases h2 : 0 ≤ x2 ∧ x2 ≤ 2999
  case neg => exact ⟨-1, by simp only [F_X12_open, leagueAt_eq hL hG, hx, win_eq, decide_eq_false h2, nxt_e, oc_s, oc_n, ob_s, ob2_s, gb_b1, gb_0, gb_1, gw0, gw1, Bool.false_eq_true, Bool.true_eq_false, if_true, if_false, not_true_eq_false, not_false_eq_true], by simp only [F_X13_open, B_X13_open_14, isLeague_eq, isDay_eq, hx, isS_s, decide_eq_false h2, nxt_e, oc_s, oc_n, ob_s, ob2_s, gb_b1, gb_0, gb_1, gw0, gw1, Bool.false_eq_true, Bool.true_eq_false, if_true, if_false, not_true_eq_false, not_false_eq_true]⟩
  obtain ⟨g1, g2, g3, g4, w, hw, g5, g6, g7⟩ := hG l hl
  refine ⟨b1 (opn t l w x2), ?_, ?_⟩
  · simp only [F_X12_open, leagueAt_eq hL hG, hx, win_eq, decide_eq_true h2, nxt_e, oc_s, oc_n, ob_s, ob2_s, gb_b1, gb_0, gb_1, gw0, gw1, Bool.false_eq_true, Bool.true_eq_false, if_true, if_false, not_true_eq_false, not_false_eq_true, X5_isOpen_eq hG hl hw g5, bit_eq]
  · simp only [F_X13_open, isLeague_eq, isDay_eq, hx, isS_s, decide_eq_true h2, nxt_e, oc_s, oc_n, ob_s, ob2_s, gb_b1, gb_0, gb_1, gw0, gw1, Bool.false_eq_true, Bool.true_eq_false, if_true, if_false, not_true_eq_false, not_false_eq_true, X13_isOpen_eq hL hG hl hw g6 g7]
    cases opn t l w x2 <;> rfl
