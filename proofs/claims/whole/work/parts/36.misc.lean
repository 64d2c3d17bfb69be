/-! PART 36: terms, claims, candidates, wishes told; what of them is read. -/
/-- terms -/
def Iterm (t : TS) : Prop := ∀ i, i < 9 → tA t 3208 0 i = tA t 3349 0 i ∧ (mm_sv 1).getD i 0 ≤ tA t 3349 0 i ∧ tA t 3349 0 i ≤ (mm_sv 2).getD i 0
def kTerm : List Nat := [3208, 3349]
theorem Iterm_f {D : Nat → Bool} {t t' : TS} (h : frm D t t') (hd : ∀ k, k ∈ kTerm → D k = false) (hI : Iterm t) : Iterm t' := by
  unfold Iterm at hI ⊢
  simp only [(h.1 3208 (hd 3208 (by decide))).2.2.2.2.1, (h.1 3349 (hd 3349 (by decide))).2.2.2.2.1]
  exact hI
theorem m_minute {t : TS} (x : Int32) (hI : Itime t) : Eqm (F_X12_minute t x) (fun t => F_X13_minute t x) (fun t2 => frm (ks kTime) t t2 ∧ Itime t2) := by
  obtain ⟨d, m, hd, hm, e1, e2, e3, e4⟩ := hI
  by_cases hx : nt m ≤ x ∧ x ≤ 1439
  · obtain ⟨n, hn, rfl⟩ := nt_exb (b := 1439) (Int32.le_trans (nt_nn (by omega)) hx.1) (by omega) hx.2
    refine ⟨nt m, uI t 1201 0 (nt n), uI (uI t 1201 0 (nt n)) 1302 0 (nt n), ?_, ?_, frm_tr (frm_uI rfl) (frm_uI rfl), d, n, hd, hn, ?_, ?_, ?_, ?_⟩
    · simp only [F_X12_minute, win_eq, ob_s, gw1, e3, decide_eq_true hx, Bool.false_eq_true, Bool.true_eq_false, if_true, if_false, not_true_eq_false, not_false_eq_true, nxt_e]
    · simp only [F_X13_minute, in_eq, ob_s, gw1, I_uI, I_uI_n, A_uA, A_uA_n, E_uI, R_uI, L_uI, A_uI, J_uI, Q_uI, E_uA, I_uA, R_uA, L_uA, J_uA, Q_uA, m1_s, e4, decide_eq_true hx, Bool.false_eq_true, Bool.true_eq_false, if_true, if_false, not_true_eq_false, not_false_eq_true, nxt_e, Nat.reduceEqDiff, not_false_eq_true]
    all_goals simp only [I_uI, I_uI_n, A_uA, A_uA_n, E_uI, R_uI, L_uI, A_uI, J_uI, Q_uI, E_uA, I_uA, R_uA, L_uA, J_uA, Q_uA, m1_s, Nat.reduceEqDiff, not_false_eq_true, e1, e2]
  · refine ⟨-1, t, t, ?_, ?_, frm_rf, d, m, hd, hm, e1, e2, e3, e4⟩
    · simp only [F_X12_minute, win_eq, ob_s, gw1, e3, decide_eq_false hx, Bool.false_eq_true, Bool.true_eq_false, if_true, if_false, not_true_eq_false, not_false_eq_true]
    · simp only [F_X13_minute, in_eq, ob_s, gw1, e4, decide_eq_false hx, Bool.false_eq_true, Bool.true_eq_false, if_true, if_false, not_true_eq_false, not_false_eq_true]
/-- claims -/
def Iclm (t : TS) : Prop := (∃ n, n ≤ 12 ∧ tI t 302 0 = nt n ∧ tI t 1386 0 = nt n ∧ ∀ i, i < n → tA t 2300 0 i = tA t 3387 0 i ∧ tA t 2301 0 i = tA t 3388 0 i ∧ (∃ r, r < 4 ∧ tA t 3387 0 i = nt r) ∧ ∃ c, 1 ≤ c ∧ c ≤ 999999 ∧ tA t 3388 0 i = nt c) ∧ ∃ g, g ≤ 12 ∧ tI t 304 0 = nt g ∧ (tI t 1390 0 = nt g ∨ (g = 0 ∧ tI t 1390 0 = -1)) ∧ ∀ i, i < g → tA t 2303 0 i = tA t 3389 0 i
def kClm : List Nat := [302, 1386, 2300, 2301, 3387, 3388, 304, 1390, 2303, 3389, 2305]
theorem Iclm_f {D : Nat → Bool} {t t' : TS} (h : frm D t t') (hd : ∀ k, k ∈ kClm → D k = false) (hI : Iclm t) : Iclm t' := by
  unfold Iclm at hI ⊢
  simp only [(h.1 302 (hd 302 (by decide))).2.1, (h.1 1386 (hd 1386 (by decide))).2.1, (h.1 2300 (hd 2300 (by decide))).2.2.2.2.1, (h.1 2301 (hd 2301 (by decide))).2.2.2.2.1, (h.1 3387 (hd 3387 (by decide))).2.2.2.2.1, (h.1 3388 (hd 3388 (by decide))).2.2.2.2.1, (h.1 304 (hd 304 (by decide))).2.1, (h.1 1390 (hd 1390 (by decide))).2.1, (h.1 2303 (hd 2303 (by decide))).2.2.2.2.1, (h.1 3389 (hd 3389 (by decide))).2.2.2.2.1]
  exact hI
theorem m_claim {t : TS} (x1 x2 : Int32) (hL : Ilen t) (hI : Iclm t) : Eqm (F_X12_claim t x1 x2) (fun t => F_X13_claim t x1 x2) (fun t2 => frm (ks kClm) t t2 ∧ Iclm t2) := by
  have hI0 := hI
  obtain ⟨⟨n, hn, e1, e2, e3⟩, g, hg, e4, e5, e6⟩ := hI
  have hbad : ∀ r, F_X12_claim t x1 x2 = some (r, t) → F_X13_claim t x1 x2 = some (r, t) → Eqm (F_X12_claim t x1 x2) (fun t => F_X13_claim t x1 x2) (fun t2 => frm (ks kClm) t t2 ∧ Iclm t2) := fun r h1 h2 => ⟨r, t, t, h1, h2, frm_rf, hI0⟩
  by_cases h1 : 0 ≤ x1 ∧ x1 ≤ 3
  case neg => exact hbad (-1) (by simp only [F_X12_claim, win_eq, ob_s, gw0, decide_eq_false h1, Bool.false_eq_true, Bool.true_eq_false, if_true, if_false, not_true_eq_false, not_false_eq_true]) (by simp only [F_X13_claim, in_eq, ob_s, gw0, decide_eq_false h1, Bool.false_eq_true, Bool.true_eq_false, if_true, if_false, not_true_eq_false, not_false_eq_true])
  by_cases h2 : 1 ≤ x2 ∧ x2 ≤ 999999
  case neg => exact hbad (-1) (by simp only [F_X12_claim, win_eq, ob_s, gw0, gw1, decide_eq_true h1, decide_eq_false h2, Bool.false_eq_true, Bool.true_eq_false, if_true, if_false, not_true_eq_false, not_false_eq_true]) (by simp only [F_X13_claim, in_eq, ob_s, gw0, gw1, decide_eq_true h1, decide_eq_false h2, Bool.false_eq_true, Bool.true_eq_false, if_true, if_false, not_true_eq_false, not_false_eq_true])
  obtain ⟨r, hr, rfl⟩ := nt_exb (b := 3) h1.1 (by omega) h1.2
  obtain ⟨c, hc, rfl⟩ := nt_exb (b := 999999) (Int32.le_trans (by decide) h2.1) (by omega) h2.2
  have hc1 : 1 ≤ c := (nt_le (a := 1) (by omega) (by omega)).mp h2.1
  by_cases hn12 : n = 12
  · subst hn12
    refine hbad (-3) ?_ ?_
    · simp only [F_X12_claim, win_eq, ob_s, gw0, gw1, decide_eq_true h1, decide_eq_true h2, Bool.false_eq_true, Bool.true_eq_false, if_true, if_false, not_true_eq_false, not_false_eq_true, F_X3_add, e1, (show tL _ 2300 0 = 12 from hL 2300 rfl)]
      rfl
    · simp only [F_X13_claim, in_eq, ob_s, gw0, gw1, decide_eq_true h1, decide_eq_true h2, Bool.false_eq_true, Bool.true_eq_false, if_true, if_false, not_true_eq_false, not_false_eq_true, e2]
      rfl
  · have hn2 : ¬ nt n = 12 := fun q => by rw [show (12 : Int32) = nt 12 from rfl, eq_nt (by omega) (by omega)] at q; exact hn12 q
    have hn3 : nt n < Int32.ofNat 12 := (nt_lt (b := 12) (by omega) (by omega)).mpr (by omega)
    refine ⟨nt (n + 1), uI (uA (uA t 2300 0 n (nt r)) 2301 0 n (nt c)) 302 0 (nt (n + 1)), uI (uA (uA (uI (uA (uA t 2300 0 n (nt r)) 2301 0 n (nt c)) 302 0 (nt (n + 1))) 3387 0 n (nt r)) 3388 0 n (nt c)) 1386 0 (nt (n + 1)), ?_, ?_, ?_, ?_⟩
    · simp (disch := omega) only [F_X12_claim, win_eq, ob_s, gw0, gw1, decide_eq_true h1, decide_eq_true h2, Bool.false_eq_true, Bool.true_eq_false, if_true, if_false, not_true_eq_false, not_false_eq_true, F_X3_add, e1, (show tL _ 2300 0 = 12 from hL 2300 rfl), (show tL _ 2301 0 = 12 from hL 2301 rfl), if_pos hn3, gd_nt, nt_cl, nxt_e, I_uI, I_uI_n, A_uA, A_uA_n, E_uI, R_uI, L_uI, A_uI, J_uI, Q_uI, E_uA, I_uA, R_uA, L_uA, J_uA, Q_uA, m1_s, nt_succ, ob2_s]
      rfl
    · simp (disch := omega) only [F_X13_claim, in_eq, ob_s, gw0, gw1, decide_eq_true h1, decide_eq_true h2, Bool.false_eq_true, Bool.true_eq_false, if_true, if_false, not_true_eq_false, not_false_eq_true, I_uI, I_uI_n, A_uA, A_uA_n, E_uI, R_uI, L_uI, A_uI, J_uI, Q_uI, E_uA, I_uA, R_uA, L_uA, J_uA, Q_uA, m1_s, e2, if_pos hn2, (show tL _ 3387 0 = 12 from hL 3387 rfl), (show tL _ 3388 0 = 12 from hL 3388 rfl), gd_nt, nt_cl, nxt_e, nt_succ]
    · exact frm_tr (frm_uA rfl) (frm_tr (frm_uA rfl) (frm_tr (frm_uI rfl) (frm_tr (frm_uA rfl) (frm_tr (frm_uA rfl) (frm_uI rfl)))))
    · refine ⟨⟨n + 1, by omega, ?_, ?_, fun i hi => ?_⟩, g, hg, ?_, ?_, ?_⟩
      · simp (disch := omega) only [I_uI, I_uI_n, A_uA, A_uA_n, E_uI, R_uI, L_uI, A_uI, J_uI, Q_uI, E_uA, I_uA, R_uA, L_uA, J_uA, Q_uA, m1_s]
      · simp (disch := omega) only [I_uI, I_uI_n, A_uA, A_uA_n, E_uI, R_uI, L_uI, A_uI, J_uI, Q_uI, E_uA, I_uA, R_uA, L_uA, J_uA, Q_uA, m1_s]
      · simp (disch := omega) only [I_uI, I_uI_n, A_uA, A_uA_n, E_uI, R_uI, L_uI, A_uI, J_uI, Q_uI, E_uA, I_uA, R_uA, L_uA, J_uA, Q_uA, m1_s]
        by_cases g : i = n
        · subst g
          simp only [m1_s]
          exact ⟨trivial, trivial, ⟨r, by omega, rfl⟩, c, hc1, hc, rfl⟩
        · simp only [m1_n g]
          exact e3 i (by omega)
      · simp (disch := omega) only [I_uI, I_uI_n, A_uA, A_uA_n, E_uI, R_uI, L_uI, A_uI, J_uI, Q_uI, E_uA, I_uA, R_uA, L_uA, J_uA, Q_uA, m1_s, e4]
      · simp (disch := omega) only [I_uI, I_uI_n, A_uA, A_uA_n, E_uI, R_uI, L_uI, A_uI, J_uI, Q_uI, E_uA, I_uA, R_uA, L_uA, J_uA, Q_uA, m1_s]
        exact e5
      · simp (disch := omega) only [I_uI, I_uI_n, A_uA, A_uA_n, E_uI, R_uI, L_uI, A_uI, J_uI, Q_uI, E_uA, I_uA, R_uA, L_uA, J_uA, Q_uA, m1_s]
        exact e6
theorem m_got {t : TS} (x : Int32) (hL : Ilen t) (hI : Iclm t) : ∃ r, F_X12_got t x = some r ∧ F_X13_got t x = some r := by
  obtain ⟨-, g, hg, e4, e5, e6⟩ := hI
  have hm : F_X13_got t x = oel (ix g x) (some (-1)) (fun i => some (tA t 3389 0 i)) := by
    unfold F_X13_got
    rw [in_eq, ob_s, (show tL _ 3389 0 = 12 from hL 3389 rfl)]
    rcases e5 with e | ⟨e0, e⟩
    · rw [e]
      exact look (n := g) (N := 12) (by omega) hg (some (-1)) (fun i => some (tA t 3389 0 i))
    · subst e0
      have h1 : ¬ (0 ≤ x ∧ x ≤ -1 - 1) := fun q => Int32.not_lt.mpr (Int32.le_trans q.1 q.2) (by decide)
      rw [e, gw0, decide_eq_false h1]
      have : ix 0 x = none := by unfold ix; exact if_neg (fun q => by omega)
      rw [this]; rfl
  have hc : F_X12_got t x = oel (ix g x) (some (-1)) (fun i => some (tA t 2303 0 i)) := by
    unfold F_X12_got
    rw [win_eq, ob_s, e4, (show tL _ 2303 0 = 12 from hL 2303 rfl)]
    exact look (n := g) (N := 12) (by omega) hg (some (-1)) (fun i => some (tA t 2303 0 i))
  rw [hm, hc]
  cases h : ix g x with
  | none => exact ⟨-1, rfl, rfl⟩
  | some i => exact ⟨_, rfl, by rw [oel_s, e6 i (ix_some h).1]⟩
