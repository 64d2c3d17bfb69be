/-! PART 67: undo, both. -/
section
variable {t : TS} {nB nS nM : Nat}
def kUndo : List Nat := [103, 608, 1106, 3310, 3322, 3334]
def kMove1 : List Nat := [6, 600, 601, 602, 603, 604, 605, 606, 607, 609, 610, 611, 612, 613, 614, 615, 616, 617, 618, 619, 1207, 1327, 2614, 3206, 3308, 3319, 3328, 3329, 3330, 3331, 3332, 3333, 3335, 3336, 3337, 3338, 3339, 3340, 3341, 3342, 3343, 3344, 3345, 3346, 3347]
theorem Imove_un {D : Nat → Bool} {t t' : TS} (h : frm D t t') (hd : ∀ k, k ∈ kMove1 → D k = false) (hI : Imove nB nS nM t) (h1 : ∀ m, m < nM → tI t' 608 m = tA t' 3334 0 m ∧ (tA t' 3334 0 m = 0 ∨ tA t' 3334 0 m = 1)) : Imove nB nS nM t' := by
  refine ⟨hI.1, by rw [(h.1 1207 (hd 1207 (by decide))).2.1]; exact hI.2.1, by rw [(h.1 1327 (hd 1327 (by decide))).2.1]; exact hI.2.2.1, fun m hm => ?_, fun m hm => ?_⟩
  · have g := hI.2.2.2.1 m hm
    have g1 := h1 m hm
    unfold Imove1 Ishare at g ⊢
    simp only [(h.1 6 (hd 6 (by decide))).1, (h.1 600 (hd 600 (by decide))).2.1, (h.1 601 (hd 601 (by decide))).2.2.1, (h.1 602 (hd 602 (by decide))).2.2.1, (h.1 603 (hd 603 (by decide))).2.2.1, (h.1 604 (hd 604 (by decide))).2.1, (h.1 605 (hd 605 (by decide))).2.1, (h.1 606 (hd 606 (by decide))).2.1, (h.1 607 (hd 607 (by decide))).2.2.1, (h.1 609 (hd 609 (by decide))).2.1, (h.1 610 (hd 610 (by decide))).2.1, (h.1 611 (hd 611 (by decide))).2.1, (h.1 612 (hd 612 (by decide))).2.2.1, (h.1 613 (hd 613 (by decide))).2.1, (h.1 614 (hd 614 (by decide))).2.2.1, (h.1 615 (hd 615 (by decide))).2.1, (h.1 616 (hd 616 (by decide))).2.1, (h.1 617 (hd 617 (by decide))).2.1, (h.1 618 (hd 618 (by decide))).2.1, (h.1 619 (hd 619 (by decide))).2.1, (h.1 2614 (hd 2614 (by decide))).2.2.2.1, (h.1 2614 (hd 2614 (by decide))).2.2.2.2.1, (h.1 3206 (hd 3206 (by decide))).2.2.2.2.2.2, (h.1 3308 (hd 3308 (by decide))).2.2.2.2.1, (h.1 3319 (hd 3319 (by decide))).2.2.2.2.1, (h.1 3328 (hd 3328 (by decide))).2.2.2.2.1, (h.1 3329 (hd 3329 (by decide))).2.2.2.2.1, (h.1 3330 (hd 3330 (by decide))).2.2.2.2.1, (h.1 3331 (hd 3331 (by decide))).2.2.2.2.1, (h.1 3332 (hd 3332 (by decide))).2.2.2.2.1, (h.1 3333 (hd 3333 (by decide))).2.2.2.2.1, (h.1 3335 (hd 3335 (by decide))).2.2.2.2.1, (h.1 3336 (hd 3336 (by decide))).2.2.2.2.1, (h.1 3337 (hd 3337 (by decide))).2.2.2.2.1, (h.1 3338 (hd 3338 (by decide))).2.2.2.2.1, (h.1 3339 (hd 3339 (by decide))).2.2.2.2.1, (h.1 3340 (hd 3340 (by decide))).2.2.2.2.1, (h.1 3341 (hd 3341 (by decide))).2.2.2.2.1, (h.1 3342 (hd 3342 (by decide))).2.2.2.2.1, (h.1 3343 (hd 3343 (by decide))).2.2.2.2.1, (h.1 3344 (hd 3344 (by decide))).2.2.2.2.1, (h.1 3345 (hd 3345 (by decide))).2.2.2.2.1, (h.1 3346 (hd 3346 (by decide))).2.2.2.2.1, (h.1 3347 (hd 3347 (by decide))).2.2.2.2.1]
    obtain ⟨a1, a2, a3, a4, a5, a6, a7, a8, a9, a10, -, a12⟩ := g
    exact ⟨a1, a2, a3, a4, a5, a6, a7, a8, a9, a10, g1, a12⟩
  · have g := hI.2.2.2.2 m hm
    simp only [(h.1 6 (hd 6 (by decide))).1, (h.1 2614 (hd 2614 (by decide))).1, (h.1 3336 (hd 3336 (by decide))).2.2.2.2.1, (h.1 3337 (hd 3337 (by decide))).2.2.2.2.1, (h.1 3339 (hd 3339 (by decide))).2.2.2.2.1, (h.1 3341 (hd 3341 (by decide))).2.2.2.2.1, (h.1 3343 (hd 3343 (by decide))).2.2.2.2.1, (h.1 3344 (hd 3344 (by decide))).2.2.2.2.1, (h.1 3345 (hd 3345 (by decide))).2.2.2.2.1, (h.1 3346 (hd 3346 (by decide))).2.2.2.2.1, (h.1 3347 (hd 3347 (by decide))).2.2.2.2.1]
    exact g
def kSpan1 : List Nat := [1205, 1316, 11, 1100, 1102, 1103, 1104, 1105, 1101, 1108, 1107, 109, 110, 111, 3308, 3317, 3318, 3319, 3320, 3321, 3323, 3324]
theorem Ispan_un {D : Nat → Bool} {t t' : TS} (h : frm D t t') (hd : ∀ k, k ∈ kSpan1 → D k = false) (hI : Ispan nB nS nM t) (h1 : ∀ s, s < nS → tI t' 1106 s = tA t' 3322 0 s ∧ 0 ≤ tA t' 3322 0 s ∧ tA t' 3322 0 s ≤ 1000000) : Ispan nB nS nM t' := by
  obtain ⟨b1_, b2, b3, b4, b5, b6⟩ := hI
  unfold Ispan pS at *
  simp only [(h.1 1205 (hd 1205 (by decide))).2.1, (h.1 1316 (hd 1316 (by decide))).2.1, (h.1 11 (hd 11 (by decide))).1, (h.1 1100 (hd 1100 (by decide))).2.1, (h.1 1102 (hd 1102 (by decide))).2.1, (h.1 1103 (hd 1103 (by decide))).2.1, (h.1 1104 (hd 1104 (by decide))).2.1, (h.1 1105 (hd 1105 (by decide))).2.1, (h.1 1101 (hd 1101 (by decide))).2.2.1, (h.1 1108 (hd 1108 (by decide))).2.2.1, (h.1 1107 (hd 1107 (by decide))).2.2.1, (h.1 109 (hd 109 (by decide))).2.2.1, (h.1 110 (hd 110 (by decide))).2.2.1, (h.1 111 (hd 111 (by decide))).2.1, (h.1 3308 (hd 3308 (by decide))).2.2.2.2.1, (h.1 3317 (hd 3317 (by decide))).2.2.2.2.1, (h.1 3318 (hd 3318 (by decide))).2.2.2.2.1, (h.1 3319 (hd 3319 (by decide))).2.2.2.2.1, (h.1 3320 (hd 3320 (by decide))).2.2.2.2.1, (h.1 3321 (hd 3321 (by decide))).2.2.2.2.1, (h.1 3323 (hd 3323 (by decide))).2.2.2.2.1, (h.1 3324 (hd 3324 (by decide))).2.2.2.2.1]
  refine ⟨b1_, b2, b3, fun s hs => ?_, b5, b6⟩
  obtain ⟨a1, a2, a3, a4, a5, a6, -, a8, a9, a10, a11, a12, a13, a14, a15, -, -⟩ := b4 s hs
  obtain ⟨g1, g2, g3⟩ := h1 s hs
  exact ⟨a1, a2, a3, a4, a5, a6, g1, a8, a9, a10, a11, a12, a13, a14, a15, g2, g3⟩
theorem m_undo (x1 : Int32) (hL : Ilen t) (hT : Itime t) (hB : Ibody nB t) (hC : Icoin nB t) (hS : Ispan nB nS nM t) (hM : Imove nB nS nM t) : Eqm (F_X12_undo t x1) (fun t => F_X13_undo t x1) (fun t2 => Icoin nB t2 ∧ Ispan nB nS nM t2 ∧ Imove nB nS nM t2 ∧ frm (ks kUndo) t t2) := by
  obtain ⟨d, mi, hd, hmi, e1, e2, e3, e4⟩ := hT
  have h150 := hB.1
  have h200 := hM.1
  have h600 := hS.1
  have hbad : ∀ r, F_X12_undo t x1 = some (r, t) → F_X13_undo t x1 = some (r, t) → Eqm (F_X12_undo t x1) (fun t => F_X13_undo t x1) (fun t2 => Icoin nB t2 ∧ Ispan nB nS nM t2 ∧ Imove nB nS nM t2 ∧ frm (ks kUndo) t t2) := fun r h1 h2 => ⟨r, t, t, h1, h2, hC, hS, hM, frm_rf⟩
  cases hx : ix nM x1 with
  | none => exact hbad (-1) (by simp only [F_X12_undo, moveAt_eq hL hM, hx, nxt_e, oc_s, oc_n, ob_s, ob2_s, gb_b1, gb_0, gb_1, gw0, gw1]) (by simp only [F_X13_undo, isMove_eq hM, hx, isS_n, nxt_e, oc_s, oc_n, ob_s, ob2_s, gb_b1, gb_0, gb_1, gw0, gw1, Bool.false_eq_true, Bool.true_eq_false, if_true, if_false, not_true_eq_false, not_false_eq_true])
  | some m =>
  obtain ⟨hm, rfl⟩ := ix_some hx
  obtain ⟨-, -, a3, -, ⟨s, s1, -, s3, s4⟩, ⟨b, b1_, -, b3, b4⟩, ⟨f, -, f1, f2⟩, -, -, ⟨sp, dd, p1, -, p3, p4, -⟩, ⟨u1, u2⟩, -, -, ⟨kp, -, kp2, kp3⟩, hkt, ⟨sh, -, sh2, sh3⟩, hsh, -⟩ := hM.2.2.2.1 m hm
  by_cases hu : tA t 3334 0 m = 0
  case neg => exact hbad (-2) (by simp only [F_X12_undo, moveAt_eq hL hM, hx, nxt_e, oc_s, oc_n, ob_s, ob2_s, gb_b1, gb_0, gb_1, gw0, gw1, u1]; exact if_neg hu) (by
    simp only [F_X13_undo, isMove_eq hM, hx, isS_s, nxt_e, oc_s, oc_n, ob_s, ob2_s, gb_b1, gb_0, gb_1, gw0, gw1, Bool.false_eq_true, Bool.true_eq_false, if_true, if_false, not_true_eq_false, not_false_eq_true]
    rw [(show tL _ 3334 0 = 200 from hL 3334 rfl), gd_nt _ (by omega) (by omega), nt_cl (by omega), if_neg hu])
  have hc0 : F_X12_undo t (nt m) = oel (nx (later t m) (nM - (m + 1)) (m + 1)) (B_X12_undo_76 t m) (fun o => some (-100 - nt o, t)) := by
    simp only [F_X12_undo, moveAt_eq hL hM, hx, nxt_e, oc_s, oc_n, ob_s, ob2_s, gb_b1, gb_0, gb_1, gw0, gw1, u1, a3, nt_succ]
    rw [if_pos hu, X12_undo_find hL hM h150 hm]
  have hm0 : ∀ v, Ilen v → tI v 1327 0 = nt nM → tA v 3334 0 m = 0 → F_X13_undo v (nt m) = oel (nx (later v m) (nM - (m + 1)) (m + 1)) (B_X13_undo_69 v (nt m)) (fun o => some (-100 - nt o, v)) := by
    intro v hLv hv hv2
    have : F_X13_isMove v (nt m) = some (b1 (ix nM (nt m)).isSome) := by
      unfold F_X13_isMove
      rw [in_eq, hv, dix (by omega), ob_s, gb_b1]
    simp only [F_X13_undo, this, hx, isS_s, nxt_e, oc_s, oc_n, ob_s, ob2_s, gb_b1, gb_0, gb_1, gw0, gw1, Bool.false_eq_true, Bool.true_eq_false, if_true, if_false, not_true_eq_false, not_false_eq_true]
    rw [(show tL _ 3334 0 = 200 from hLv 3334 rfl), gd_nt _ (by omega) (by omega), nt_cl (by omega), if_pos hv2, nt_succ, X13_undo_find hLv hv h200 hm]
  cases hn : nx (later t m) (nM - (m + 1)) (m + 1) with
  | some o => exact hbad _ (by rw [hc0, hn, oel_s]) (by rw [hm0 t hL hM.2.2.1 hu, hn, oel_s])
  | none =>
  rw [hn, oel_n] at hc0
  obtain ⟨kt, hkt1, hkt2, hkt3⟩ : ∃ kt, tR t 612 m = kt ∧ tA t 3342 0 m = enc kt ∧ ∀ q, kt = some q → q < nB := by
    rcases hkt with ⟨g1, g2⟩ | ⟨c, g1, g2, g3⟩
    · exact ⟨none, g1, g2, fun q h => by cases h⟩
    · exact ⟨some c, g2, g3, fun q h => by cases h; exact g1⟩
  have hf0 : frm (ks [608, 1106]) t (uI (uI t 608 m 1) 1106 sp (nt d)) := frm_tr (frm_uI rfl) (frm_uI rfl)
  obtain ⟨v, k1, k2, k3⟩ := payBack_eq (t := uI (uI t 608 m 1) 1106 sp (nt d)) (nB := nB) (m := m) (b := b) (s := s) (kt := kt) (fee := nt f) (kp := nt kp) (sh := nt sh) (g := fun c => tA t 3347 0 (150 * m + c)) (Ilen_f hf0 hL) (Ibody_f hf0 (by decide) hB)
    (by rw [(hf0.1 603 rfl).2.2.1, b3]) (by rw [(hf0.1 602 rfl).2.2.1, s3]) (by rw [(hf0.1 612 rfl).2.2.1, hkt1]) (by rw [(hf0.1 604 rfl).2.1, f1]) (by rw [(hf0.1 611 rfl).2.1, kp2]) (by rw [(hf0.1 613 rfl).2.1, sh2])
    (fun c hc u hu2 => by
      have hh : frm (ks [608, 1106, 103]) t u := frm_tr (frm_sb hf0 (ks_sb rfl)) (frm_sb hu2 (ks_sb rfl))
      have hshu : Ishare nB m u := by
        unfold Ishare at hsh ⊢
        rw [(hh.1 614 rfl).2.2.1, (hh.1 2614 rfl).2.2.2.1, (hh.1 2614 rfl).2.2.2.2.1, (hh.1 3347 rfl).2.2.2.2.1]
        exact hsh
      rw [shareOf_eq hshu h150 hc, (hh.1 3347 rfl).2.2.2.2.1])
  have hv : frm (ks [608, 1106, 103]) t v := frm_tr (frm_sb hf0 (ks_sb rfl)) (frm_sb k2 (ks_sb rfl))
  have hc1 : F_X12_undo t (nt m) = some (1, v) := by
    rw [hc0]
    unfold B_X12_undo_76
    simp (disch := omega) only [nxt_e, oc_s, oc_n, ob_s, ob2_s, gb_b1, gb_0, gb_1, gw0, gw1, I_uI, I_uI_n, R_uR, R_uR_n, A_uA, A_uA_n, J_uJ, J_uJ_n, Q_uQ, Q_uQ_n, E_uO, E_uO_n, I_uO, I_uO_n, R_uO, R_uO_n, E_uN, E_uN_n, L_uN, L_uN_n, A_uN, A_uN_n, J_uN, J_uN_n, Q_uN, Q_uN_n, A_uCA, A_uCA_n, J_uCJ, J_uCJ_n, E_uI, R_uI, L_uI, A_uI, J_uI, Q_uI, E_uR, I_uR, L_uR, A_uR, J_uR, Q_uR, E_uA, I_uA, R_uA, L_uA, J_uA, Q_uA, E_uJ, I_uJ, R_uJ, L_uJ, A_uJ, Q_uJ, E_uQ, I_uQ, R_uQ, L_uQ, A_uQ, J_uQ, L_uO, A_uO, J_uO, Q_uO, I_uN, R_uN, E_uCA, I_uCA, R_uCA, L_uCA, J_uCA, Q_uCA, E_uCJ, I_uCJ, R_uCJ, L_uCJ, A_uCJ, Q_uCJ, m1_s, p3, e1]
    rw [k1, ob_s]
  have hLv := Ilen_f hv hL
  have hv34 : tA v 3334 = tA t 3334 := (hv.1 3334 rfl).2.2.2.2.1
  have hlat : later v m = later t m := by
    funext o
    unfold later
    rw [(hv.1 3328 rfl).2.2.2.2.1, hv34]
  obtain ⟨w, q1, q2, q3, q4, q5⟩ := X13_undo69_eq (t := v) (nB := nB) (m := m) (b := b) (s := s) (sp := sp) (kt := kt) (fee := nt f) (kp := nt kp) (sh := nt sh) (d := d) hLv h150 (by rw [(hv.1 1307 rfl).2.1]; exact hB.2.2.1) (by omega) (by rw [(hv.1 1301 rfl).2.1, e2]) b1_ s1 hkt3 (by omega)
    (by rw [(hv.1 3330 rfl).2.2.2.2.1, b4]) (by rw [(hv.1 3329 rfl).2.2.2.2.1, s4]) (by rw [(hv.1 3342 rfl).2.2.2.2.1, hkt2]) (by rw [(hv.1 3331 rfl).2.2.2.2.1, f2]) (by rw [(hv.1 3341 rfl).2.2.2.2.1, kp3]) (by rw [(hv.1 3343 rfl).2.2.2.2.1, sh3]) (by rw [(hv.1 3340 rfl).2.2.2.2.1, p4])
  have hw : frm (ks kUndo) t w := frm_tr (frm_sb hv (ks_sb rfl)) (frm_sb q2 (ks_sb rfl))
  have c1 : tI w 103 = backL (fun c => tA t 3347 0 (150 * m + c)) (backA b s kt (nt f) (nt kp) (nt sh) (tI t 103)) nB := by
    rw [(q2.1 103 rfl).2.1, k3]
    simp (disch := omega) only [I_uI, I_uI_n, R_uR, R_uR_n, A_uA, A_uA_n, J_uJ, J_uJ_n, Q_uQ, Q_uQ_n, E_uO, E_uO_n, I_uO, I_uO_n, R_uO, R_uO_n, E_uN, E_uN_n, L_uN, L_uN_n, A_uN, A_uN_n, J_uN, J_uN_n, Q_uN, Q_uN_n, A_uCA, A_uCA_n, J_uCJ, J_uCJ_n, E_uI, R_uI, L_uI, A_uI, J_uI, Q_uI, E_uR, I_uR, L_uR, A_uR, J_uR, Q_uR, E_uA, I_uA, R_uA, L_uA, J_uA, Q_uA, E_uJ, I_uJ, R_uJ, L_uJ, A_uJ, Q_uJ, E_uQ, I_uQ, R_uQ, L_uQ, A_uQ, J_uQ, L_uO, A_uO, J_uO, Q_uO, I_uN, R_uN, E_uCA, I_uCA, R_uCA, L_uCA, J_uCA, Q_uCA, E_uCJ, I_uCJ, R_uCJ, L_uCJ, A_uCJ, Q_uCJ, m1_s]
  have c2 : tA w 3310 0 = backL (fun c => tA t 3347 0 (150 * m + c)) (backA b s kt (nt f) (nt kp) (nt sh) (tA t 3310 0)) nB := by
    rw [q3, (hv.1 3347 rfl).2.2.2.2.1, (hv.1 3310 rfl).2.2.2.2.1]
  have c3 : tI w 608 = mm_u1 (tI t 608) m 1 := by
    rw [(q2.1 608 rfl).2.1, (k2.1 608 rfl).2.1]
    simp (disch := omega) only [I_uI, I_uI_n, R_uR, R_uR_n, A_uA, A_uA_n, J_uJ, J_uJ_n, Q_uQ, Q_uQ_n, E_uO, E_uO_n, I_uO, I_uO_n, R_uO, R_uO_n, E_uN, E_uN_n, L_uN, L_uN_n, A_uN, A_uN_n, J_uN, J_uN_n, Q_uN, Q_uN_n, A_uCA, A_uCA_n, J_uCJ, J_uCJ_n, E_uI, R_uI, L_uI, A_uI, J_uI, Q_uI, E_uR, I_uR, L_uR, A_uR, J_uR, Q_uR, E_uA, I_uA, R_uA, L_uA, J_uA, Q_uA, E_uJ, I_uJ, R_uJ, L_uJ, A_uJ, Q_uJ, E_uQ, I_uQ, R_uQ, L_uQ, A_uQ, J_uQ, L_uO, A_uO, J_uO, Q_uO, I_uN, R_uN, E_uCA, I_uCA, R_uCA, L_uCA, J_uCA, Q_uCA, E_uCJ, I_uCJ, R_uCJ, L_uCJ, A_uCJ, Q_uCJ, m1_s]
  have c4 : tA w 3334 0 = mm_u1 (tA t 3334 0) m 1 := by rw [q4, hv34]
  have c5 : tI w 1106 = mm_u1 (tI t 1106) sp (nt d) := by
    rw [(q2.1 1106 rfl).2.1, (k2.1 1106 rfl).2.1]
    simp (disch := omega) only [I_uI, I_uI_n, R_uR, R_uR_n, A_uA, A_uA_n, J_uJ, J_uJ_n, Q_uQ, Q_uQ_n, E_uO, E_uO_n, I_uO, I_uO_n, R_uO, R_uO_n, E_uN, E_uN_n, L_uN, L_uN_n, A_uN, A_uN_n, J_uN, J_uN_n, Q_uN, Q_uN_n, A_uCA, A_uCA_n, J_uCJ, J_uCJ_n, E_uI, R_uI, L_uI, A_uI, J_uI, Q_uI, E_uR, I_uR, L_uR, A_uR, J_uR, Q_uR, E_uA, I_uA, R_uA, L_uA, J_uA, Q_uA, E_uJ, I_uJ, R_uJ, L_uJ, A_uJ, Q_uJ, E_uQ, I_uQ, R_uQ, L_uQ, A_uQ, J_uQ, L_uO, A_uO, J_uO, Q_uO, I_uN, R_uN, E_uCA, I_uCA, R_uCA, L_uCA, J_uCA, Q_uCA, E_uCJ, I_uCJ, R_uCJ, L_uCJ, A_uCJ, Q_uCJ, m1_s]
  have c6 : tA w 3322 0 = mm_u1 (tA t 3322 0) sp (nt d) := by rw [q5, (hv.1 3322 rfl).2.2.2.2.1]
  refine ⟨1, v, w, hc1, ?_, ⟨fun i hi => ?_, fun i hi => ?_⟩, Ispan_un hw (by decide) hS (fun s' hs' => ?_), Imove_un hw (by decide) hM (fun m' hm' => ?_), hw⟩
  · show F_X13_undo v (nt m) = _
    rw [hm0 v hLv (by rw [(hv.1 1327 rfl).2.1, hM.2.2.1]) (by rw [hv34, hu]), hlat, hn, oel_n]
    exact q1
  · rw [c1, c2]
    unfold backL
    rw [if_pos hi, if_pos hi, backA_c hC.1 b1_ s1 hkt3 i hi]
  · rw [c2]
    unfold backL
    rw [if_neg (by omega), backA_o hi b1_ s1 hkt3, hC.2 i hi]
  · obtain ⟨-, -, -, -, -, -, a7, -, -, -, -, -, -, -, -, a16, a17⟩ := hS.2.2.2.1 s' hs'
    rw [c5, c6]
    by_cases e : s' = sp
    · subst e
      rw [m1_s, m1_s]
      refine ⟨rfl, nt_nn (by omega), ?_⟩
      rw [show (1000000 : Int32) = nt 1000000 from rfl, ge_nt (by omega) (by omega)]
      omega
    · rw [m1_n e, m1_n e]
      exact ⟨a7, a16, a17⟩
  · rw [c3, c4]
    by_cases e : m' = m
    · subst e
      rw [m1_s, m1_s]
      exact ⟨rfl, Or.inr rfl⟩
    · rw [m1_n e, m1_n e]
      obtain ⟨-, -, -, -, -, -, -, -, -, -, x, -⟩ := hM.2.2.2.1 m' hm'
      exact x
end
