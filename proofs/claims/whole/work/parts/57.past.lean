/-! PART 57: past, sign. -/
section
variable {t : TS} {nB nS nM p c : Nat} {so fr to : Int32}
theorem n600 {n : Nat} (h : n ≤ 600) : (nt n = 600) = (n = 600) := eq_nt (n := 600) (by omega) (by omega)
theorem l600 {n : Nat} (h : n ≤ 600) : (nt n < 600) = (n < 600) := lt_nt (n := 600) (by omega) (by omega)
/-- model's reads behind the class's span -/
theorem cS_r (wa : Int32) (n : Nat) (hL : Ilen t) (hB : Ibody nB t) (h3 : tI t 1316 0 = nt n) : Ilen (uI (cS t p c n so fr to) 1105 n wa) ∧ Ibody nB (uI (cS t p c n so fr to) 1105 n wa) ∧ tI (uI (cS t p c n so fr to) 1105 n wa) 1316 0 = nt n ∧ frm (k2 (ko 11) (ks [1205, 109, 110, 111])) t (uI (cS t p c n so fr to) 1105 n wa) := by
  have hf : frm (k2 (ko 11) (ks [1205, 109, 110, 111])) t (uI (cS t p c n so fr to) 1105 n wa) := by
    have h0 : frm (k2 (ko 11) (ks [1205, 109, 110, 111])) t (cS0 t c n so fr to) := frm_tr (frm_uO k2_l) (frm_tr (frm_uI rfl) (frm_tr (frm_uI rfl) (frm_tr (frm_uR rfl) (frm_tr (frm_uI rfl) (frm_tr (frm_uI rfl) (frm_tr (frm_uI rfl) (frm_uI rfl)))))))
    unfold cS
    cases tR t 110 p with
    | none => exact frm_tr h0 (frm_tr (frm_uR rfl) (frm_tr (frm_uR rfl) (frm_tr (frm_uI rfl) (frm_uI rfl))))
    | some j => exact frm_tr h0 (frm_tr (frm_uR rfl) (frm_tr (frm_uR rfl) (frm_tr (frm_uI rfl) (frm_uI rfl))))
  exact ⟨Ilen_f hf hL, Ibody_f hf (by decide) hB, by rw [(hf.1 1316 rfl).2.1, h3], hf⟩
theorem m1_sf {α : Type} {f : Nat → α} {a : Nat} {v : α} (h : f a = v) : mm_u1 f a v = f := by
  funext b
  unfold mm_u1
  by_cases e : b = a
  · rw [if_pos e, e, h]
  · rw [if_neg e]
theorem uI_id {t : TS} {f i : Nat} {v : Int32} (h : tI t f i = v) : uI t f i v = t := by
  have e : mm_u2 (tI t) f i v = tI t := by
    funext x y
    unfold mm_u2
    by_cases e1 : x = f
    · by_cases e2 : y = i
      · rw [if_pos e1, if_pos e2, e1, e2, h]
      · rw [if_pos e1, if_neg e2]
    · rw [if_neg e1]
  show (tE t, mm_u2 (tI t) f i v, tR t, tL t, tA t, tJ t, tQ t) = t
  rw [e]
theorem uA_id {t : TS} {k i j : Nat} {v : Int32} (h : tA t k i j = v) : uA t k i j v = t := by
  have e : mm_u3 (tA t) k i j v = tA t := by
    funext x y w
    unfold mm_u3
    by_cases e1 : x = k
    · by_cases e2 : y = i
      · by_cases e3 : w = j
        · rw [if_pos e1, if_pos e2, if_pos e3, e1, e2, e3, h]
        · rw [if_pos e1, if_pos e2, if_neg e3]
      · rw [if_pos e1, if_neg e2]
    · rw [if_neg e1]
  show (tE t, tI t, tR t, tL t, mm_u3 (tA t) k i j v, tJ t, tQ t) = t
  rw [e]
theorem cS_wa0 : uI (cS t p c nS so fr to) 1105 nS 0 = cS t p c nS so fr to := uI_id (by
  unfold cS
  cases tR t 110 p <;> simp (disch := omega) only [cS0, I_uI, I_uI_n, R_uR, R_uR_n, A_uA, A_uA_n, J_uJ, J_uJ_n, Q_uQ, Q_uQ_n, E_uO, E_uO_n, I_uO, I_uO_n, R_uO, R_uO_n, E_uN, E_uN_n, L_uN, L_uN_n, A_uN, A_uN_n, J_uN, J_uN_n, Q_uN, Q_uN_n, A_uCA, A_uCA_n, J_uCJ, J_uCJ_n, E_uI, R_uI, L_uI, A_uI, J_uI, Q_uI, E_uR, I_uR, L_uR, A_uR, J_uR, Q_uR, E_uA, I_uA, R_uA, L_uA, J_uA, Q_uA, E_uJ, I_uJ, R_uJ, L_uJ, A_uJ, Q_uJ, E_uQ, I_uQ, R_uQ, L_uQ, A_uQ, J_uQ, L_uO, A_uO, J_uO, Q_uO, I_uN, R_uN, E_uCA, I_uCA, R_uCA, L_uCA, J_uCA, Q_uCA, E_uCJ, I_uCJ, R_uCJ, L_uCJ, A_uCJ, Q_uCJ, m1_s, oel_n, oel_s])
theorem mS_wa0 {t : TS} : uA (mS t p c nS so fr to) 3323 0 nS 0 = mS t p c nS so fr to := uA_id (by simp (disch := omega) only [mS, I_uI, I_uI_n, R_uR, R_uR_n, A_uA, A_uA_n, J_uJ, J_uJ_n, Q_uQ, Q_uQ_n, E_uO, E_uO_n, I_uO, I_uO_n, R_uO, R_uO_n, E_uN, E_uN_n, L_uN, L_uN_n, A_uN, A_uN_n, J_uN, J_uN_n, Q_uN, Q_uN_n, A_uCA, A_uCA_n, J_uCJ, J_uCJ_n, E_uI, R_uI, L_uI, A_uI, J_uI, Q_uI, E_uR, I_uR, L_uR, A_uR, J_uR, Q_uR, E_uA, I_uA, R_uA, L_uA, J_uA, Q_uA, E_uJ, I_uJ, R_uJ, L_uJ, A_uJ, Q_uJ, E_uQ, I_uQ, R_uQ, L_uQ, A_uQ, J_uQ, L_uO, A_uO, J_uO, Q_uO, I_uN, R_uN, E_uCA, I_uCA, R_uCA, L_uCA, J_uCA, Q_uCA, E_uCJ, I_uCJ, R_uCJ, L_uCJ, A_uCJ, Q_uCJ, m1_s])
theorem m_past (x1 x2 x3 x4 : Int32) (hL : Ilen t) (hA : Iall nB nS nM t) : Eqm (F_X12_past t x1 x2 x3 x4) (fun t => F_X13_past t x1 x2 x3 x4) (fun t2 => ∃ nS', Iall nB nS' nM t2 ∧ frm kSp t t2) := by
  have hB := hA.1
  have hS := hA.2.2.2.2.2.1
  have h600 := hS.1
  have hbad : ∀ r, F_X12_past t x1 x2 x3 x4 = some (r, t) → F_X13_past t x1 x2 x3 x4 = some (r, t) → Eqm (F_X12_past t x1 x2 x3 x4) (fun t => F_X13_past t x1 x2 x3 x4) (fun t2 => ∃ nS', Iall nB nS' nM t2 ∧ frm kSp t t2) := fun r h1 h2 => ⟨r, t, t, h1, h2, nS, hA, frm_rf⟩
  have hpd : F_X12_arePastDays t x3 x4 = some (b1 (decide (-9999 ≤ x3 ∧ x3 ≤ 0) && decide (x3 ≤ x4 ∧ x4 ≤ 0))) := by
    unfold F_X12_arePastDays
    rw [win_eq, ob_s, gw0, win_eq, ob_s, gw0]
    cases decide (-9999 ≤ x3 ∧ x3 ≤ 0) <;> cases decide (x3 ≤ x4 ∧ x4 ≤ 0) <;> rfl
  cases hx : six isPl t nB x1 with
  | none => exact hbad (-1) (by simp only [F_X12_past, playerAt_eq hL hB, clubAt_eq hL hB, hx, nxt_e, oc_s, oc_n, ob_s, ob2_s, gb_b1, gb_0, gb_1, gw0, gw1, Bool.false_eq_true, Bool.true_eq_false, if_true, if_false, not_true_eq_false, not_false_eq_true]) (by simp only [F_X13_past, isPlayer_eq hL hB, hx, isS_n, nxt_e, oc_s, oc_n, ob_s, ob2_s, gb_b1, gb_0, gb_1, gw0, gw1, Bool.false_eq_true, Bool.true_eq_false, if_true, if_false, not_true_eq_false, not_false_eq_true])
  | some p =>
  obtain ⟨hp, rfl, hpp⟩ := six_some hx
  cases hy : six isCl t nB x2 with
  | none => exact hbad (-1) (by simp only [F_X12_past, playerAt_eq hL hB, clubAt_eq hL hB, hx, hy, nxt_e, oc_s, oc_n, ob_s, ob2_s, gb_b1, gb_0, gb_1, gw0, gw1, Bool.false_eq_true, Bool.true_eq_false, if_true, if_false, not_true_eq_false, not_false_eq_true]) (by simp only [F_X13_past, isPlayer_eq hL hB, isClub_eq hL hB, hx, hy, isS_n, isS_s, nxt_e, oc_s, oc_n, ob_s, ob2_s, gb_b1, gb_0, gb_1, gw0, gw1, Bool.false_eq_true, Bool.true_eq_false, if_true, if_false, not_true_eq_false, not_false_eq_true])
  | some c =>
  obtain ⟨hc, rfl, hcc⟩ := six_some hy
  by_cases h1 : -9999 ≤ x3 ∧ x3 ≤ 0
  case neg => exact hbad (-1) (by simp only [F_X12_past, playerAt_eq hL hB, clubAt_eq hL hB, hx, hy, hpd, decide_eq_false h1, Bool.false_and, nxt_e, oc_s, oc_n, ob_s, ob2_s, gb_b1, gb_0, gb_1, gw0, gw1, Bool.false_eq_true, Bool.true_eq_false, if_true, if_false, not_true_eq_false, not_false_eq_true]) (by simp only [F_X13_past, isPlayer_eq hL hB, isClub_eq hL hB, hx, hy, isS_s, in_eq, decide_eq_false h1, nxt_e, oc_s, oc_n, ob_s, ob2_s, gb_b1, gb_0, gb_1, gw0, gw1, Bool.false_eq_true, Bool.true_eq_false, if_true, if_false, not_true_eq_false, not_false_eq_true])
  by_cases h2 : x3 ≤ x4 ∧ x4 ≤ 0
  case neg => exact hbad (-1) (by simp only [F_X12_past, playerAt_eq hL hB, clubAt_eq hL hB, hx, hy, hpd, decide_eq_true h1, decide_eq_false h2, Bool.and_false, nxt_e, oc_s, oc_n, ob_s, ob2_s, gb_b1, gb_0, gb_1, gw0, gw1, Bool.false_eq_true, Bool.true_eq_false, if_true, if_false, not_true_eq_false, not_false_eq_true]) (by simp only [F_X13_past, isPlayer_eq hL hB, isClub_eq hL hB, hx, hy, isS_s, in_eq, decide_eq_true h1, decide_eq_false h2, nxt_e, oc_s, oc_n, ob_s, ob2_s, gb_b1, gb_0, gb_1, gw0, gw1, Bool.false_eq_true, Bool.true_eq_false, if_true, if_false, not_true_eq_false, not_false_eq_true])
  by_cases hn : nS = 600
  · have hn9 : nt nS = 600 := by rw [n600 h600]; exact hn
    have hn8 : ¬ nt nS < 600 := by rw [l600 h600]; omega
    exact hbad (-3) (by simp only [F_X12_past, playerAt_eq hL hB, clubAt_eq hL hB, hx, hy, hpd, decide_eq_true h1, decide_eq_true h2, Bool.and_true, hS.2.1, hn8, nxt_e, oc_s, oc_n, ob_s, ob2_s, gb_b1, gb_0, gb_1, gw0, gw1, Bool.false_eq_true, Bool.true_eq_false, if_true, if_false, not_true_eq_false, not_false_eq_true]) (by simp only [F_X13_past, isPlayer_eq hL hB, isClub_eq hL hB, hx, hy, isS_s, in_eq, decide_eq_true h1, decide_eq_true h2, hS.2.2.1, hn9, nxt_e, oc_s, oc_n, ob_s, ob2_s, gb_b1, gb_0, gb_1, gw0, gw1, Bool.false_eq_true, Bool.true_eq_false, if_true, if_false, not_true_eq_false, not_false_eq_true])
  · have hlt : nS < 600 := by omega
    have hn9 : ¬ nt nS = 600 := by rw [n600 h600]; exact hn
    have hn8 : nt nS < 600 := by rw [l600 h600]; exact hlt
    have h30 : (0 : Int32) ≤ 2999 := by decide
    have hb : -9999 ≤ x3 ∧ x3 ≤ 2999 ∧ -9999 ≤ x4 ∧ x4 ≤ 2999 := ⟨h1.1, Int32.le_trans h1.2 h30, Int32.le_trans h1.1 h2.1, Int32.le_trans h2.2 h30⟩
    obtain ⟨g1, g2⟩ := span_both (p := p) (c := c) (so := 0) (fr := x3) (to := x4) hA hlt hp hpp hc hcc hb 0 rfl
    rw [cS_wa0, mS_wa0] at g1 g2
    obtain ⟨k1, k2, k3, k4⟩ := cS_r (p := p) (c := c) (so := 0) (fr := x3) (to := x4) 0 nS hL hB hS.2.2.1
    rw [cS_wa0] at k1 k2 k3 k4
    have hx1 : six isPl (cS t p c nS 0 x3 x4) nB (nt p) = some p := by
      unfold six; rw [(k4.1 3308 rfl).2.2.2.2.1]; exact hx
    have hy1 : six isCl (cS t p c nS 0 x3 x4) nB (nt c) = some c := by
      unfold six; rw [(k4.1 3308 rfl).2.2.2.2.1]; exact hy
    have hS2 := g1.2.2.2.2.2.1
    have hL2 := Ilen_f g2 hL
    have e111 : tI (cS t p c nS 0 x3 x4) 111 p = nt (cntP (pS (mS (cS t p c nS 0 x3 x4) p c nS 0 x3 x4) p) (nS + 1)) := by
      rw [← (hS2.2.2.2.2.2 p hp).2.2]
      simp (disch := omega) only [mS, I_uI, I_uI_n, R_uR, R_uR_n, A_uA, A_uA_n, J_uJ, J_uJ_n, Q_uQ, Q_uQ_n, E_uO, E_uO_n, I_uO, I_uO_n, R_uO, R_uO_n, E_uN, E_uN_n, L_uN, L_uN_n, A_uN, A_uN_n, J_uN, J_uN_n, Q_uN, Q_uN_n, A_uCA, A_uCA_n, J_uCJ, J_uCJ_n, E_uI, R_uI, L_uI, A_uI, J_uI, Q_uI, E_uR, I_uR, L_uR, A_uR, J_uR, Q_uR, E_uA, I_uA, R_uA, L_uA, J_uA, Q_uA, E_uJ, I_uJ, R_uJ, L_uJ, A_uJ, Q_uJ, E_uQ, I_uQ, R_uQ, L_uQ, A_uQ, J_uQ, L_uO, A_uO, J_uO, Q_uO, I_uN, R_uN, E_uCA, I_uCA, R_uCA, L_uCA, J_uCA, Q_uCA, E_uCJ, I_uCJ, R_uCJ, L_uCJ, A_uCJ, Q_uCJ, m1_s]
    refine ⟨tI (cS t p c nS 0 x3 x4) 111 p, cS t p c nS 0 x3 x4, mS (cS t p c nS 0 x3 x4) p c nS 0 x3 x4, ?_, ?_, nS + 1, g1, g2⟩
    · simp only [F_X12_past, playerAt_eq hL hB, clubAt_eq hL hB, hx, hy, hpd, decide_eq_true h1, decide_eq_true h2, Bool.and_true, hS.2.1, hn8, nxt_e, oc_s, oc_n, ob_s, ob2_s, gb_b1, gb_0, gb_1, gw0, gw1, Bool.false_eq_true, Bool.true_eq_false, if_true, if_false, not_true_eq_false, not_false_eq_true, addSpan_c hS hlt]
    · simp only [F_X13_past, isPlayer_eq k1 k2, isClub_eq k1 k2, hx1, hy1, isS_s, in_eq, decide_eq_true h1, decide_eq_true h2, k3, hn9, nxt_e, oc_s, oc_n, ob_s, ob2_s, gb_b1, gb_0, gb_1, gw0, gw1, Bool.false_eq_true, Bool.true_eq_false, if_true, if_false, not_true_eq_false, not_false_eq_true, addSpan_m k1 k3 hlt, spansOf_eq hL2 hS2.2.2.1 hS2.1, e111]
theorem m_sign (x1 x2 x3 x4 : Int32) (hL : Ilen t) (hT : Itime t) (hA : Iall nB nS nM t) : Eqm (F_X12_sign t x1 x2 x3 x4) (fun t => F_X13_sign t x1 x2 x3 x4) (fun t2 => ∃ nS', Iall nB nS' nM t2 ∧ frm kSp t t2) := by
  obtain ⟨d, m, hd, hm, e1, e2, e3, e4⟩ := hT
  have hB := hA.1
  have hS := hA.2.2.2.2.2.1
  have h600 := hS.1
  have h150 := hB.1
  have hbad : ∀ r, F_X12_sign t x1 x2 x3 x4 = some (r, t) → F_X13_sign t x1 x2 x3 x4 = some (r, t) → Eqm (F_X12_sign t x1 x2 x3 x4) (fun t => F_X13_sign t x1 x2 x3 x4) (fun t2 => ∃ nS', Iall nB nS' nM t2 ∧ frm kSp t t2) := fun r h1 h2 => ⟨r, t, t, h1, h2, nS, hA, frm_rf⟩
  cases hx : six isPl t nB x1 with
  | none => exact hbad (-1) (by simp only [F_X12_sign, playerAt_eq hL hB, clubAt_eq hL hB, hx, nxt_e, oc_s, oc_n, ob_s, ob2_s, gb_b1, gb_0, gb_1, gw0, gw1, Bool.false_eq_true, Bool.true_eq_false, if_true, if_false, not_true_eq_false, not_false_eq_true]) (by simp only [F_X13_sign, isPlayer_eq hL hB, hx, isS_n, nxt_e, oc_s, oc_n, ob_s, ob2_s, gb_b1, gb_0, gb_1, gw0, gw1, Bool.false_eq_true, Bool.true_eq_false, if_true, if_false, not_true_eq_false, not_false_eq_true])
  | some p =>
  obtain ⟨hp, rfl, hpp⟩ := six_some hx
  cases hy : six isCl t nB x2 with
  | none => exact hbad (-1) (by simp only [F_X12_sign, playerAt_eq hL hB, clubAt_eq hL hB, hx, hy, nxt_e, oc_s, oc_n, ob_s, ob2_s, gb_b1, gb_0, gb_1, gw0, gw1, Bool.false_eq_true, Bool.true_eq_false, if_true, if_false, not_true_eq_false, not_false_eq_true]) (by simp only [F_X13_sign, isPlayer_eq hL hB, isClub_eq hL hB, hx, hy, isS_n, isS_s, nxt_e, oc_s, oc_n, ob_s, ob2_s, gb_b1, gb_0, gb_1, gw0, gw1, Bool.false_eq_true, Bool.true_eq_false, if_true, if_false, not_true_eq_false, not_false_eq_true])
  | some c =>
  obtain ⟨hc, rfl, hcc⟩ := six_some hy
  by_cases h1 : nt d ≤ x3 ∧ x3 ≤ 2999
  case neg => exact hbad (-1) (by simp only [F_X12_sign, playerAt_eq hL hB, clubAt_eq hL hB, hx, hy, e1, win_eq, decide_eq_false h1, nxt_e, oc_s, oc_n, ob_s, ob2_s, gb_b1, gb_0, gb_1, gw0, gw1, Bool.false_eq_true, Bool.true_eq_false, if_true, if_false, not_true_eq_false, not_false_eq_true]) (by simp only [F_X13_sign, isPlayer_eq hL hB, isClub_eq hL hB, hx, hy, isS_s, in_eq, e2, decide_eq_false h1, nxt_e, oc_s, oc_n, ob_s, ob2_s, gb_b1, gb_0, gb_1, gw0, gw1, Bool.false_eq_true, Bool.true_eq_false, if_true, if_false, not_true_eq_false, not_false_eq_true])
  by_cases h2 : 0 ≤ x4 ∧ x4 ≤ 99999
  case neg => exact hbad (-1) (by simp only [F_X12_sign, playerAt_eq hL hB, clubAt_eq hL hB, hx, hy, e1, win_eq, decide_eq_true h1, decide_eq_false h2, nxt_e, oc_s, oc_n, ob_s, ob2_s, gb_b1, gb_0, gb_1, gw0, gw1, Bool.false_eq_true, Bool.true_eq_false, if_true, if_false, not_true_eq_false, not_false_eq_true]) (by simp only [F_X13_sign, isPlayer_eq hL hB, isClub_eq hL hB, hx, hy, isS_s, in_eq, e2, decide_eq_true h1, decide_eq_false h2, nxt_e, oc_s, oc_n, ob_s, ob2_s, gb_b1, gb_0, gb_1, gw0, gw1, Bool.false_eq_true, Bool.true_eq_false, if_true, if_false, not_true_eq_false, not_false_eq_true])
  have hlt0 : ∀ o : Option Nat, (∀ s, o = some s → s < nS) → (oel o (-1) (fun s => tA t 3318 0 s) < 0) = (o = none) := by
    intro o ho
    cases h : o with
    | none => exact propext ⟨fun _ => rfl, fun _ => by rw [oel_n]; decide⟩
    | some s =>
      obtain ⟨c', hc', -, -, q2⟩ := sp_club hB.1 hS (ho s h)
      rw [oel_s, q2]
      exact propext ⟨fun q => absurd q (nt_neg (by omega)), fun q => by cases q⟩
  cases ho : own t nS p (nt d) with
  | some s =>
    have hsl := (own_lt ho).1
    have hq := hlt0 (some s) (fun s' h => by cases h; exact hsl)
    have hq2 : ¬ oel (some s) (-1) (fun s => tA t 3318 0 s) < 0 := by rw [hq]; exact fun q => by cases q
    exact hbad (-2) (by simp only [F_X12_sign, playerAt_eq hL hB, clubAt_eq hL hB, hx, hy, e1, win_eq, decide_eq_true h1, decide_eq_true h2, X1_owning_eq hS hp, ho, nxt_e, oc_s, oc_n, ob_s, ob2_s, gb_b1, gb_0, gb_1, gw0, gw1, Bool.false_eq_true, Bool.true_eq_false, if_true, if_false, not_true_eq_false, not_false_eq_true]) (by simp only [F_X13_sign, isPlayer_eq hL hB, isClub_eq hL hB, hx, hy, isS_s, in_eq, e2, decide_eq_true h1, decide_eq_true h2, ownerOn_eq hL hS, ho, hq2, nxt_e, oc_s, oc_n, ob_s, ob2_s, gb_b1, gb_0, gb_1, gw0, gw1, Bool.false_eq_true, Bool.true_eq_false, if_true, if_false, not_true_eq_false, not_false_eq_true])
  | none =>
  have hm1 : (oel (none : Option Nat) (-1) (fun s => tA t 3318 0 s) < 0) := by rw [oel_n]; decide
  by_cases hn : nS = 600
  · have hn9 : nt nS = 600 := by rw [n600 h600]; exact hn
    have hn8 : ¬ nt nS < 600 := by rw [l600 h600]; omega
    exact hbad (-3) (by simp only [F_X12_sign, playerAt_eq hL hB, clubAt_eq hL hB, hx, hy, e1, win_eq, decide_eq_true h1, decide_eq_true h2, X1_owning_eq hS hp, ho, hS.2.1, hn8, nxt_e, oc_s, oc_n, ob_s, ob2_s, gb_b1, gb_0, gb_1, gw0, gw1, Bool.false_eq_true, Bool.true_eq_false, if_true, if_false, not_true_eq_false, not_false_eq_true]) (by simp only [F_X13_sign, isPlayer_eq hL hB, isClub_eq hL hB, hx, hy, isS_s, in_eq, e2, decide_eq_true h1, decide_eq_true h2, ownerOn_eq hL hS, ho, hm1, hS.2.2.1, hn9, nxt_e, oc_s, oc_n, ob_s, ob2_s, gb_b1, gb_0, gb_1, gw0, gw1, Bool.false_eq_true, Bool.true_eq_false, if_true, if_false, not_true_eq_false, not_false_eq_true])
  · have hlt : nS < 600 := by omega
    have hn9 : ¬ nt nS = 600 := by rw [n600 h600]; exact hn
    have hn8 : nt nS < 600 := by rw [l600 h600]; exact hlt
    have hd0 : -9999 ≤ nt d := Int32.le_trans (by decide) (nt_nn (by omega))
    have hb : -9999 ≤ nt d ∧ nt d ≤ 2999 ∧ -9999 ≤ x3 ∧ x3 ≤ 2999 := ⟨hd0, Int32.le_trans h1.1 h1.2, Int32.le_trans hd0 h1.1, h1.2⟩
    obtain ⟨g1, g2⟩ := span_both (p := p) (c := c) (so := 1) (fr := nt d) (to := x3) hA hlt hp hpp hc hcc hb x4 rfl
    obtain ⟨k1, k2, k3, k4⟩ := cS_r (p := p) (c := c) (so := 1) (fr := nt d) (to := x3) x4 nS hL hB hS.2.2.1
    generalize ht1 : uI (cS t p c nS 1 (nt d) x3) 1105 nS x4 = t1 at g1 g2 k1 k2 k3 k4
    have hx1 : six isPl t1 nB (nt p) = some p := by
      unfold six; rw [(k4.1 3308 rfl).2.2.2.2.1]; exact hx
    have hy1 : six isCl t1 nB (nt c) = some c := by
      unfold six; rw [(k4.1 3308 rfl).2.2.2.2.1]; exact hy
    have e21 : tI t1 1301 0 = nt d := by rw [(k4.1 1301 rfl).2.1, e2]
    have how : F_X13_ownerOn t1 (nt p) (nt d) = some (-1) := by
      rw [ownerOn_eqM k1 (Mspan_f k4 (by decide) (IsM hS)), own_f k4 (by decide), ho]
      rfl
    have hLm : Ilen (mS t1 p c nS 1 (nt d) x3) := Ilen_f mS_f k1
    refine ⟨1, t1, uA (mS t1 p c nS 1 (nt d) x3) 3323 0 nS x4, ?_, ?_, nS + 1, g1, g2⟩
    · simp only [F_X12_sign, playerAt_eq hL hB, clubAt_eq hL hB, hx, hy, e1, win_eq, decide_eq_true h1, decide_eq_true h2, X1_owning_eq hS hp, ho, hS.2.1, hn8, nxt_e, oc_s, oc_n, ob_s, ob2_s, gb_b1, gb_0, gb_1, gw0, gw1, Bool.false_eq_true, Bool.true_eq_false, if_true, if_false, not_true_eq_false, not_false_eq_true, addSpan_c hS hlt, ht1]
    · simp (disch := omega) only [F_X13_sign, isPlayer_eq k1 k2, isClub_eq k1 k2, hx1, hy1, isS_s, in_eq, e21, decide_eq_true h1, decide_eq_true h2, how, show ((-1 : Int32) < 0) = True from eq_true (by decide), k3, hn9, nxt_e, oc_s, oc_n, ob_s, ob2_s, gb_b1, gb_0, gb_1, gw0, gw1, Bool.false_eq_true, Bool.true_eq_false, if_true, if_false, not_true_eq_false, not_false_eq_true, addSpan_m k1 k3 hlt, (show tL _ 3323 0 = 600 from hLm 3323 rfl), gd_nt, nt_cl]
end
