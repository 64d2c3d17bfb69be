/-! PART 79: act. -/
section
variable {t : TS} {nB : Nat}
theorem cRs_f : ∀ (L : List Int32) {t : TS}, frm (ks [1, 2000]) t (L.foldl cR t)
  | [], _ => frm_rf
  | _ :: L, _ => frm_tr cR_f (cRs_f L)
theorem mRs_f : ∀ (L : List Int32) {t : TS}, frm (ks [1391, 3392]) t (L.foldl mR t)
  | [], _ => frm_rf
  | _ :: L, _ => frm_tr mR_f (mRs_f L)
def agr (c : Nat) (t u : TS) : Prop := tI t 1 0 = nt c ∧ tI u 1391 0 = nt c ∧ ∀ i, i < c → i < 24 → tA t 2000 0 i = tA u 3392 0 i
theorem agr_R {c : Nat} {t u : TS} {v : Int32} (h : agr c t u) (hc : c < 1000) : agr (c + 1) (cR t v) (mR u v) := by
  obtain ⟨h1, h2, h3⟩ := h
  have l24 : ((24 : Int32) ≤ nt c) = (24 ≤ c) := ge_nt (n := 24) (by omega) (by omega)
  have l24' : (Int32.ofNat 24 ≤ nt c) = (24 ≤ c) := ge_nt (n := 24) (by omega) (by omega)
  refine ⟨?_, ?_, fun i hi hi2 => ?_⟩
  · unfold cR; rw [I_uI, m1_s, h1, nt_succ]
  · unfold mR; rw [I_uI, m1_s, h2, nt_succ]
  · unfold cR mR
    rw [h1, h2, nt_cl (by omega)]
    simp only [l24, l24']
    by_cases g : 24 ≤ c
    · rw [if_pos g, if_pos g]
      exact h3 i (by omega) hi2
    · rw [if_neg g, if_neg g]
      simp (disch := omega) only [I_uI, I_uI_n, A_uA, A_uA_n, E_uI, R_uI, L_uI, A_uI, J_uI, Q_uI, E_uA, I_uA, R_uA, L_uA, J_uA, Q_uA, m1_s]
      by_cases e : i = c
      · subst e; rw [m1_s, m1_s]
      · rw [m1_n e, m1_n e]
        exact h3 i (by omega) hi2
theorem agr_L : ∀ (L : List Int32) {c : Nat} {t u : TS}, agr c t u → c + L.length < 1000 → agr (c + L.length) (L.foldl cR t) (L.foldl mR u)
  | [], _, _, _, h, _ => h
  | v :: L, c, t, u, h, hc => by
    rw [List.length_cons] at hc ⊢
    have := agr_L L (agr_R (v := v) h (by omega)) (by omega)
    rw [show c + 1 + L.length = c + (L.length + 1) by omega] at this
    exact this
theorem Iact_f {D : Nat → Bool} {t t' : TS} (h : frm D t t') (hd : ∀ k, k ∈ kAct → D k = false) (hI : Iact t) : Iact t' := by
  unfold Iact at hI ⊢
  simp only [(h.1 1 (hd 1 (by decide))).2.1, (h.1 1391 (hd 1391 (by decide))).2.1, (h.1 2000 (hd 2000 (by decide))).2.2.2.2.1, (h.1 3392 (hd 3392 (by decide))).2.2.2.2.1]
  exact hI
def kBody0 : List Nat := [3203, 100, 101, 102, 105, 106, 107, 1204, 1307, 3308, 3309, 3312, 3313, 3314]
theorem Ibody_f1 {D : Nat → Bool} {t t' : TS} (h : frm D t t') (hd : ∀ k, k ∈ kBody0 → D k = false) (he : tE t' 1 = tE t 1) (hI : Ibody nB t) : Ibody nB t' := by
  unfold Ibody at hI ⊢
  simp only [he, (h.1 3203 (hd 3203 (by decide))).2.2.2.2.2.2, (h.1 100 (hd 100 (by decide))).2.1, (h.1 101 (hd 101 (by decide))).2.1, (h.1 102 (hd 102 (by decide))).2.1, (h.1 105 (hd 105 (by decide))).2.1, (h.1 106 (hd 106 (by decide))).2.1, (h.1 107 (hd 107 (by decide))).2.2.1, (h.1 1204 (hd 1204 (by decide))).2.1, (h.1 1307 (hd 1307 (by decide))).2.1, (h.1 3308 (hd 3308 (by decide))).2.2.2.2.1, (h.1 3309 (hd 3309 (by decide))).2.2.2.2.1, (h.1 3312 (hd 3312 (by decide))).2.2.2.2.1, (h.1 3313 (hd 3313 (by decide))).2.2.2.2.1, (h.1 3314 (hd 3314 (by decide))).2.2.2.2.1]
  exact hI
theorem cR_E {v : Int32} : tE (cR t v) = tE t := by
  unfold cR
  by_cases h : Int32.ofNat 24 ≤ tI t 1 0
  · rw [if_pos h]; rfl
  · rw [if_neg h]; rfl
theorem mR_E {v : Int32} : tE (mR t v) = tE t := by
  unfold mR
  by_cases h : 24 ≤ tI t 1391 0
  · rw [if_pos h]; rfl
  · rw [if_neg h]; rfl
theorem cRs_E : ∀ (L : List Int32) {t : TS}, tE (L.foldl cR t) = tE t
  | [], _ => rfl
  | _ :: L, _ => (cRs_E L).trans cR_E
theorem mRs_E : ∀ (L : List Int32) {t : TS}, tE (L.foldl mR t) = tE t
  | [], _ => rfl
  | _ :: L, _ => (mRs_E L).trans mR_E
theorem lA_len : ∀ own, own < 8 → ∀ a, a < 4 → (lA own a).length ≤ 40 := by decide
theorem m_act (x1 x2 x3 : Int32) (hL : Ilen t) (hB : Ibody nB t) : Eqm (F_X12_act t x1 x2 x3) (fun t => F_X13_act t x1 x2 x3) (fun t2 => Iact t2 ∧ tE t2 1 = tE t 1 ∧ frm (ks kAct) t t2) := by
  have h150 := hB.1
  have f1 : frm (ks [1]) t (uI t 1 0 0) := frm_uI rfl
  have hL1 := Ilen_f f1 hL
  have hB1 := Ibody_f1 f1 (by decide) rfl hB
  have f2 : frm (ks [1, 1391]) t (uI (uI t 1 0 0) 1391 0 0) := frm_tr (frm_uI rfl) (frm_uI rfl)
  have hB2 := Ibody_f1 f2 (by decide) rfl hB
  have hbad : F_X12_act t x1 x2 x3 = some (0, uI t 1 0 0) → F_X13_act (uI t 1 0 0) x1 x2 x3 = some (0, uI (uI t 1 0 0) 1391 0 0) → Eqm (F_X12_act t x1 x2 x3) (fun t => F_X13_act t x1 x2 x3) (fun t2 => Iact t2 ∧ tE t2 1 = tE t 1 ∧ frm (ks kAct) t t2) := fun h1 h2 => ⟨0, _, _, h1, h2, ⟨0, by omega, by simp (disch := omega) only [I_uI, I_uI_n, A_uA, A_uA_n, E_uI, R_uI, L_uI, A_uI, J_uI, Q_uI, E_uA, I_uA, R_uA, L_uA, J_uA, Q_uA, m1_s]; rfl, by simp (disch := omega) only [I_uI, I_uI_n, A_uA, A_uA_n, E_uI, R_uI, L_uI, A_uI, J_uI, Q_uI, E_uA, I_uA, R_uA, L_uA, J_uA, Q_uA, m1_s]; rfl, fun i hi => absurd hi (Nat.not_lt_zero i)⟩, rfl, frm_sb f2 (ks_sb rfl)⟩
  cases hx : ix nB x1 with
  | none => exact hbad (by simp only [F_X12_act, bodyAt_eq hL hB, hx, nxt_e, oc_s, oc_n, ob_s, ob2_s, gb_b1, gb_0, gb_1, gw0, gw1]) (by simp only [F_X13_act, isBody_eq hB2, hx, isS_n, nxt_e, oc_s, oc_n, ob_s, ob2_s, gb_b1, gb_0, gb_1, gw0, gw1, Bool.false_eq_true, Bool.true_eq_false, if_true, if_false, not_true_eq_false, not_false_eq_true])
  | some b =>
  obtain ⟨hb, rfl⟩ := ix_some hx
  by_cases h2 : 0 ≤ x2 ∧ x2 ≤ 3
  case neg => exact hbad (by simp only [F_X12_act, bodyAt_eq hL hB, hx, win_eq, decide_eq_false h2, nxt_e, oc_s, oc_n, ob_s, ob2_s, gb_b1, gb_0, gb_1, gw0, gw1, Bool.false_eq_true, Bool.true_eq_false, if_true, if_false, not_true_eq_false, not_false_eq_true]) (by simp only [F_X13_act, isBody_eq hB2, hx, isS_s, in_eq, decide_eq_false h2, nxt_e, oc_s, oc_n, ob_s, ob2_s, gb_b1, gb_0, gb_1, gw0, gw1, Bool.false_eq_true, Bool.true_eq_false, if_true, if_false, not_true_eq_false, not_false_eq_true])
  obtain ⟨a, ha, rfl⟩ := nt_exb (b := 3) h2.1 (by omega) h2.2
  obtain ⟨-, -, q3, q4, q5, q6, q7, -, ⟨k, hk, q9⟩, -⟩ := hB.2.2.2.1 b hb
  have hc : cOk b k (nt b) (tA t 3313 0 b) (tA t 3309 0 b) 0 (uI t 1 0 0) := by
    refine ⟨hL1, ?_, ?_, ?_, ?_, ?_⟩
    · simp (disch := omega) only [I_uI, I_uI_n, A_uA, A_uA_n, E_uI, R_uI, L_uI, A_uI, J_uI, Q_uI, E_uA, I_uA, R_uA, L_uA, J_uA, Q_uA, m1_s]; rfl
    · rw [(f1.1 101 rfl).2.1, q4, q9]
    · rw [(f1.1 100 rfl).2.1, q3]
    · rw [(f1.1 106 rfl).2.1, q7]
    · rw [(f1.1 102 rfl).2.1, q5]
  have hp := X0_perform_eq (a := a) (x := x3) hc (by omega) hk (by omega)
  have hcl : F_X12_act t (nt b) (nt a) x3 = some (vA k a (nt b) (tA t 3313 0 b) (tA t 3309 0 b) x3, (lA k a).foldl cR (uI t 1 0 0)) := by
    have i101 : tI (uI t 1 0 0) 101 b = nt k := by rw [(f1.1 101 rfl).2.1, q4, q9]
    simp only [F_X12_act, bodyAt_eq hL hB, hx, win_eq, decide_eq_true h2, nxt_e, oc_s, oc_n, ob_s, ob2_s, gb_b1, gb_0, gb_1, gw0, gw1, Bool.false_eq_true, Bool.true_eq_false, if_true, if_false, not_true_eq_false, not_false_eq_true, i101, hp]
  have f3 : frm (ks [1, 2000]) t ((lA k a).foldl cR (uI t 1 0 0)) := frm_tr (frm_sb f1 (ks_sb rfl)) (cRs_f _)
  have f4 : frm (ks [1391]) ((lA k a).foldl cR (uI t 1 0 0)) (uI ((lA k a).foldl cR (uI t 1 0 0)) 1391 0 0) := frm_uI rfl
  have f5 : frm (ks [1, 2000, 1391]) t (uI ((lA k a).foldl cR (uI t 1 0 0)) 1391 0 0) := frm_tr (frm_sb f3 (ks_sb rfl)) (frm_sb f4 (ks_sb rfl))
  have hm : mOk b k (tA t 3313 0 b) (tA t 3309 0 b) 0 (uI ((lA k a).foldl cR (uI t 1 0 0)) 1391 0 0) := by
    refine ⟨Ilen_f f5 hL, ?_, ?_, ?_, ?_, by omega, hk⟩
    · simp (disch := omega) only [I_uI, I_uI_n, A_uA, A_uA_n, E_uI, R_uI, L_uI, A_uI, J_uI, Q_uI, E_uA, I_uA, R_uA, L_uA, J_uA, Q_uA, m1_s]; rfl
    · rw [(f5.1 3308 rfl).2.2.2.2.1, q9]
    · rw [(f5.1 3313 rfl).2.2.2.2.1]
    · rw [(f5.1 3309 rfl).2.2.2.2.1]
  have hB5 := IbM (Ibody_f1 f5 (by decide) (by show tE ((lA k a).foldl cR (uI t 1 0 0)) 1 = _; rw [cRs_E]; rfl) hB)
  have hml : F_X13_act ((lA k a).foldl cR (uI t 1 0 0)) (nt b) (nt a) x3 = some (vA k a (nt b) (tA t 3313 0 b) (tA t 3309 0 b) x3, (lA k a).foldl mR (uI ((lA k a).foldl cR (uI t 1 0 0)) 1391 0 0)) := by
    have g0 := mplays (x := x3) hm (by omega)
    have g1 := mpays (x := x3) hm (by omega)
    have g2 := msigns (x := x3) hm (by omega)
    have g3 := mtells (x := x3) hm (by omega)
    simp only [F_X13_act, isBody_eqM hB5, hx, isS_s, in_eq, decide_eq_true h2, nxt_e, oc_s, oc_n, ob_s, ob2_s, gb_b1, gb_0, gb_1, gw0, gw1, Bool.false_eq_true, Bool.true_eq_false, if_true, if_false, not_true_eq_false, not_false_eq_true, g0, g1, g2, g3]
    have ha' : a = 0 ∨ a = 1 ∨ a = 2 ∨ a = 3 := by omega
    unfold vA lA
    rcases ha' with rfl | rfl | rfl | rfl
    · rw [if_neg (by decide), if_pos rfl, if_pos rfl]
    · rw [if_pos (by decide), if_neg (by decide), if_neg (by decide), if_pos rfl, if_neg (by decide), if_pos rfl]
    · rw [if_pos (by decide), if_pos (by decide), if_neg (by decide), if_neg (by decide), if_neg (by decide), if_pos rfl, if_neg (by decide), if_neg (by decide), if_pos rfl]
    · rw [if_pos (by decide), if_pos (by decide), if_pos (by decide), if_neg (by decide), if_neg (by decide), if_neg (by decide), if_neg (by decide), if_neg (by decide), if_neg (by decide)]
  have hlen := lA_len k hk a (by omega)
  have hag := agr_L (lA k a) (c := 0) (t := uI t 1 0 0) (u := uI ((lA k a).foldl cR (uI t 1 0 0)) 1391 0 0) ⟨hc.2.1, hm.2.1, fun i hi => absurd hi (Nat.not_lt_zero i)⟩ (by omega)
  have f6 : frm (ks [1391, 3392]) (uI ((lA k a).foldl cR (uI t 1 0 0)) 1391 0 0) ((lA k a).foldl mR (uI ((lA k a).foldl cR (uI t 1 0 0)) 1391 0 0)) := mRs_f _
  have f7 : frm (ks [1391, 3392]) ((lA k a).foldl cR (uI t 1 0 0)) ((lA k a).foldl mR (uI ((lA k a).foldl cR (uI t 1 0 0)) 1391 0 0)) := frm_tr (frm_sb f4 (ks_sb rfl)) f6
  refine ⟨_, _, _, hcl, hml, ⟨0 + (lA k a).length, by omega, ?_, hag.2.1, fun i hi hi2 => ?_⟩, ?_, frm_tr (frm_sb f3 (ks_sb rfl)) (frm_sb f7 (ks_sb rfl))⟩
  · rw [(f7.1 1 rfl).2.1, hag.1]
  · rw [(f7.1 2000 rfl).2.2.2.2.1, hag.2.2 i hi hi2]
  · show tE ((lA k a).foldl mR (uI ((lA k a).foldl cR (uI t 1 0 0)) 1391 0 0)) 1 = _
    rw [mRs_E]
    show tE ((lA k a).foldl cR (uI t 1 0 0)) 1 = _
    rw [cRs_E]
    rfl
end
