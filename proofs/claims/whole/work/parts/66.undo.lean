/-! PART 66: undo. -/
section
variable {t : TS} {nB nS nM m : Nat}
theorem X13_undo69_eq {b s sp : Nat} {kt : Option Nat} {fee kp sh : Int32} {d : Nat} (hL : Ilen t) (h150 : nB ≤ 150) (h13 : tI t 1307 0 = nt nB) (hm : m < 200) (hday : tI t 1301 0 = nt d) (hb : b < nB) (hs : s < nB) (hk : ∀ q, kt = some q → q < nB) (hsp : sp < 600)
    (h1 : tA t 3330 0 m = nt b) (h2 : tA t 3329 0 m = nt s) (h3 : tA t 3342 0 m = enc kt) (h4 : tA t 3331 0 m = fee) (h5 : tA t 3341 0 m = kp) (h6 : tA t 3343 0 m = sh) (h7 : tA t 3340 0 m = nt sp) :
    ∃ u, B_X13_undo_69 t (nt m) = some (1, u) ∧ frm (ks [3310, 3322, 3334]) t u ∧ tA u 3310 0 = backL (fun c => tA t 3347 0 (150 * m + c)) (backA b s kt fee kp sh (tA t 3310 0)) nB ∧ tA u 3334 0 = mm_u1 (tA t 3334 0) m 1 ∧ tA u 3322 0 = mm_u1 (tA t 3322 0) sp (nt d) := by
  unfold B_X13_undo_69 B_X13_undo_174
  have v1 : vp_nar .boolean 1 = (1 : Int32) := rfl
  simp (disch := omega) only [(show tL _ 3310 0 = 150 from hL 3310 rfl), (show tL _ 3322 0 = 600 from hL 3322 rfl), (show tL _ 3329 0 = 200 from hL 3329 rfl), (show tL _ 3330 0 = 200 from hL 3330 rfl), (show tL _ 3331 0 = 200 from hL 3331 rfl), (show tL _ 3334 0 = 200 from hL 3334 rfl), (show tL _ 3340 0 = 200 from hL 3340 rfl), (show tL _ 3341 0 = 200 from hL 3341 rfl), (show tL _ 3342 0 = 200 from hL 3342 rfl), (show tL _ 3343 0 = 200 from hL 3343 rfl), gd_nt, nt_cl, nxt_e, oc_s, oc_n, ob_s, ob2_s, gb_b1, gb_0, gb_1, gw0, gw1, I_uI, I_uI_n, R_uR, R_uR_n, A_uA, A_uA_n, J_uJ, J_uJ_n, Q_uQ, Q_uQ_n, E_uO, E_uO_n, I_uO, I_uO_n, R_uO, R_uO_n, E_uN, E_uN_n, L_uN, L_uN_n, A_uN, A_uN_n, J_uN, J_uN_n, Q_uN, Q_uN_n, A_uCA, A_uCA_n, J_uCJ, J_uCJ_n, E_uI, R_uI, L_uI, A_uI, J_uI, Q_uI, E_uR, I_uR, L_uR, A_uR, J_uR, Q_uR, E_uA, I_uA, R_uA, L_uA, J_uA, Q_uA, E_uJ, I_uJ, R_uJ, L_uJ, A_uJ, Q_uJ, E_uQ, I_uQ, R_uQ, L_uQ, A_uQ, J_uQ, L_uO, A_uO, J_uO, Q_uO, I_uN, R_uN, E_uCA, I_uCA, R_uCA, L_uCA, J_uCA, Q_uCA, E_uCJ, I_uCJ, R_uCJ, L_uCJ, A_uCJ, Q_uCJ, m1_s, v1, h1, h2, h3, h4, h5, h6, h7, hday]
  have key : ∀ v : TS, frm (ks [3310, 3322, 3334]) t v → tA v 3310 0 = backA b s kt fee kp sh (tA t 3310 0) → tA v 3334 0 = mm_u1 (tA t 3334 0) m 1 → tA v 3322 0 = mm_u1 (tA t 3322 0) sp (nt d) → ∃ u, B_X13_undo_176 10000 v (nt m) 0 = some (1, u) ∧ frm (ks [3310, 3322, 3334]) t u ∧ tA u 3310 0 = backL (fun c => tA t 3347 0 (150 * m + c)) (backA b s kt fee kp sh (tA t 3310 0)) nB ∧ tA u 3334 0 = mm_u1 (tA t 3334 0) m 1 ∧ tA u 3322 0 = mm_u1 (tA t 3322 0) sp (nt d) := by
    intro v hv hf w1 w2
    obtain ⟨u, k1, k2, k3⟩ := X13_back_loop (nB := nB) (Ilen_f hv hL) h150 (by rw [(hv.1 1307 rfl).2.1, h13]) hm
    have a3347 : tA v 3347 = tA t 3347 := (hv.1 3347 rfl).2.2.2.2.1
    exact ⟨u, k1, frm_tr hv (frm_sb k2 (ks_sb rfl)), by rw [k3, hf, a3347], by rw [(k2.1 3334 rfl).2.2.2.2.1, w1], by rw [(k2.1 3322 rfl).2.2.2.2.1, w2]⟩
  cases kt with
  | none =>
    rw [if_pos (by decide)]
    refine key _ (frm_tr (frm_uA rfl) (frm_tr (frm_uA rfl) (frm_tr (frm_uA rfl) (frm_uA rfl)))) ?_ ?_ ?_
    · simp (disch := omega) only [I_uI, I_uI_n, R_uR, R_uR_n, A_uA, A_uA_n, J_uJ, J_uJ_n, Q_uQ, Q_uQ_n, E_uO, E_uO_n, I_uO, I_uO_n, R_uO, R_uO_n, E_uN, E_uN_n, L_uN, L_uN_n, A_uN, A_uN_n, J_uN, J_uN_n, Q_uN, Q_uN_n, A_uCA, A_uCA_n, J_uCJ, J_uCJ_n, E_uI, R_uI, L_uI, A_uI, J_uI, Q_uI, E_uR, I_uR, L_uR, A_uR, J_uR, Q_uR, E_uA, I_uA, R_uA, L_uA, J_uA, Q_uA, E_uJ, I_uJ, R_uJ, L_uJ, A_uJ, Q_uJ, E_uQ, I_uQ, R_uQ, L_uQ, A_uQ, J_uQ, L_uO, A_uO, J_uO, Q_uO, I_uN, R_uN, E_uCA, I_uCA, R_uCA, L_uCA, J_uCA, Q_uCA, E_uCJ, I_uCJ, R_uCJ, L_uCJ, A_uCJ, Q_uCJ, m1_s]; rfl
    · simp (disch := omega) only [I_uI, I_uI_n, R_uR, R_uR_n, A_uA, A_uA_n, J_uJ, J_uJ_n, Q_uQ, Q_uQ_n, E_uO, E_uO_n, I_uO, I_uO_n, R_uO, R_uO_n, E_uN, E_uN_n, L_uN, L_uN_n, A_uN, A_uN_n, J_uN, J_uN_n, Q_uN, Q_uN_n, A_uCA, A_uCA_n, J_uCJ, J_uCJ_n, E_uI, R_uI, L_uI, A_uI, J_uI, Q_uI, E_uR, I_uR, L_uR, A_uR, J_uR, Q_uR, E_uA, I_uA, R_uA, L_uA, J_uA, Q_uA, E_uJ, I_uJ, R_uJ, L_uJ, A_uJ, Q_uJ, E_uQ, I_uQ, R_uQ, L_uQ, A_uQ, J_uQ, L_uO, A_uO, J_uO, Q_uO, I_uN, R_uN, E_uCA, I_uCA, R_uCA, L_uCA, J_uCA, Q_uCA, E_uCJ, I_uCJ, R_uCJ, L_uCJ, A_uCJ, Q_uCJ, m1_s]
    · simp (disch := omega) only [I_uI, I_uI_n, R_uR, R_uR_n, A_uA, A_uA_n, J_uJ, J_uJ_n, Q_uQ, Q_uQ_n, E_uO, E_uO_n, I_uO, I_uO_n, R_uO, R_uO_n, E_uN, E_uN_n, L_uN, L_uN_n, A_uN, A_uN_n, J_uN, J_uN_n, Q_uN, Q_uN_n, A_uCA, A_uCA_n, J_uCJ, J_uCJ_n, E_uI, R_uI, L_uI, A_uI, J_uI, Q_uI, E_uR, I_uR, L_uR, A_uR, J_uR, Q_uR, E_uA, I_uA, R_uA, L_uA, J_uA, Q_uA, E_uJ, I_uJ, R_uJ, L_uJ, A_uJ, Q_uJ, E_uQ, I_uQ, R_uQ, L_uQ, A_uQ, J_uQ, L_uO, A_uO, J_uO, Q_uO, I_uN, R_uN, E_uCA, I_uCA, R_uCA, L_uCA, J_uCA, Q_uCA, E_uCJ, I_uCJ, R_uCJ, L_uCJ, A_uCJ, Q_uCJ, m1_s]
  | some q =>
    have hq := hk q rfl
    rw [show enc (some q) = nt q from rfl, if_neg (nt_neg (by omega))]
    simp (disch := omega) only [gd_nt, nt_cl, nxt_e, oc_s, oc_n, ob_s, ob2_s, gb_b1, gb_0, gb_1, gw0, gw1]
    refine key _ (frm_tr (frm_uA rfl) (frm_tr (frm_uA rfl) (frm_tr (frm_uA rfl) (frm_tr (frm_uA rfl) (frm_uA rfl))))) ?_ ?_ ?_
    · simp (disch := omega) only [I_uI, I_uI_n, R_uR, R_uR_n, A_uA, A_uA_n, J_uJ, J_uJ_n, Q_uQ, Q_uQ_n, E_uO, E_uO_n, I_uO, I_uO_n, R_uO, R_uO_n, E_uN, E_uN_n, L_uN, L_uN_n, A_uN, A_uN_n, J_uN, J_uN_n, Q_uN, Q_uN_n, A_uCA, A_uCA_n, J_uCJ, J_uCJ_n, E_uI, R_uI, L_uI, A_uI, J_uI, Q_uI, E_uR, I_uR, L_uR, A_uR, J_uR, Q_uR, E_uA, I_uA, R_uA, L_uA, J_uA, Q_uA, E_uJ, I_uJ, R_uJ, L_uJ, A_uJ, Q_uJ, E_uQ, I_uQ, R_uQ, L_uQ, A_uQ, J_uQ, L_uO, A_uO, J_uO, Q_uO, I_uN, R_uN, E_uCA, I_uCA, R_uCA, L_uCA, J_uCA, Q_uCA, E_uCJ, I_uCJ, R_uCJ, L_uCJ, A_uCJ, Q_uCJ, m1_s]; rfl
    · simp (disch := omega) only [I_uI, I_uI_n, R_uR, R_uR_n, A_uA, A_uA_n, J_uJ, J_uJ_n, Q_uQ, Q_uQ_n, E_uO, E_uO_n, I_uO, I_uO_n, R_uO, R_uO_n, E_uN, E_uN_n, L_uN, L_uN_n, A_uN, A_uN_n, J_uN, J_uN_n, Q_uN, Q_uN_n, A_uCA, A_uCA_n, J_uCJ, J_uCJ_n, E_uI, R_uI, L_uI, A_uI, J_uI, Q_uI, E_uR, I_uR, L_uR, A_uR, J_uR, Q_uR, E_uA, I_uA, R_uA, L_uA, J_uA, Q_uA, E_uJ, I_uJ, R_uJ, L_uJ, A_uJ, Q_uJ, E_uQ, I_uQ, R_uQ, L_uQ, A_uQ, J_uQ, L_uO, A_uO, J_uO, Q_uO, I_uN, R_uN, E_uCA, I_uCA, R_uCA, L_uCA, J_uCA, Q_uCA, E_uCJ, I_uCJ, R_uCJ, L_uCJ, A_uCJ, Q_uCJ, m1_s]
    · simp (disch := omega) only [I_uI, I_uI_n, R_uR, R_uR_n, A_uA, A_uA_n, J_uJ, J_uJ_n, Q_uQ, Q_uQ_n, E_uO, E_uO_n, I_uO, I_uO_n, R_uO, R_uO_n, E_uN, E_uN_n, L_uN, L_uN_n, A_uN, A_uN_n, J_uN, J_uN_n, Q_uN, Q_uN_n, A_uCA, A_uCA_n, J_uCJ, J_uCJ_n, E_uI, R_uI, L_uI, A_uI, J_uI, Q_uI, E_uR, I_uR, L_uR, A_uR, J_uR, Q_uR, E_uA, I_uA, R_uA, L_uA, J_uA, Q_uA, E_uJ, I_uJ, R_uJ, L_uJ, A_uJ, Q_uJ, E_uQ, I_uQ, R_uQ, L_uQ, A_uQ, J_uQ, L_uO, A_uO, J_uO, Q_uO, I_uN, R_uN, E_uCA, I_uCA, R_uCA, L_uCA, J_uCA, Q_uCA, E_uCJ, I_uCJ, R_uCJ, L_uCJ, A_uCJ, Q_uCJ, m1_s]
/-- a later move of the player that is not undone -/
def later (t : TS) (m o : Nat) : Bool := decide (tA t 3328 0 o = tA t 3328 0 m) && decide (tA t 3334 0 o = 0)
theorem X12_undo_find (hL : Ilen t) (hM : Imove nB nS nM t) (h150 : nB ≤ 150) (hm : m < nM) : B_X12_undo_29 10000 t m (nt (m + 1)) = oel (nx (later t m) (nM - (m + 1)) (m + 1)) (B_X12_undo_76 t m) (fun o => some (-100 - nt o, t)) := by
  have h200 := hM.1
  obtain ⟨-, -, -, ⟨pm, m1, -, m3, m4⟩, -⟩ := hM.2.2.2.1 m hm
  refine loop_find (n := nM) (B := fun fu v => B_X12_undo_29 fu t m v) (p := later t m) (r0 := B_X12_undo_76 t m) (r1 := fun o => some (-100 - nt o, t)) (fun fu => ?_) (fun fu k hk => ?_) (nM - (m + 1)) (m + 1) 10000 (by omega) (by omega)
  · show BB_X12_undo_29 (B_X12_undo_29 fu) t m (nt nM) = _
    unfold BB_X12_undo_29
    rw [hM.2.1, igE (by omega) (by omega), if_pos (Nat.le_refl _)]
  · show BB_X12_undo_29 (B_X12_undo_29 fu) t m (nt k) = _
    unfold BB_X12_undo_29 B_X12_undo_70 later
    obtain ⟨q1, -, -, ⟨pk, p1, -, p3, p4⟩, -, -, -, -, -, -, ⟨u1, u2⟩, -⟩ := hM.2.2.2.1 k hk
    rw [hM.2.1, igE (by omega) (by omega), if_neg (by omega), (show tL _ 3206 0 = 200 from hL 3206 rfl)]
    simp (disch := omega) only [gd_nt, nt_cl, nxt_e, oc_s, oc_n, ob_s, ob2_s, gb_b1, gb_0, gb_1, gw0, gw1, q1, p3, m3, u1, p4, m4, nt_succ]
    by_cases g : pk = pm
    · rw [if_pos (congrArg some g), g, decide_eq_true (rfl : nt pm = nt pm), Bool.true_and]
      by_cases g2 : tA t 3334 0 k = 0
      · rw [if_neg (fun q => q g2), decide_eq_true g2, if_pos rfl]
      · rw [if_pos g2, decide_eq_false g2, if_neg (by decide)]
    · rw [if_neg (fun q => g (Option.some.inj q)), decide_eq_false (fun q => g (by rw [eq_nt (by omega) (by omega)] at q; exact q)), Bool.false_and, if_neg (by decide)]
theorem X13_undo_find (hL : Ilen t) (h : tI t 1327 0 = nt nM) (h200 : nM ≤ 200) (hm : m < nM) : B_X13_undo_26 10000 t (nt m) (nt (m + 1)) = oel (nx (later t m) (nM - (m + 1)) (m + 1)) (B_X13_undo_69 t (nt m)) (fun o => some (-100 - nt o, t)) := by
  refine loop_find (n := nM) (B := fun fu v => B_X13_undo_26 fu t (nt m) v) (p := later t m) (r0 := B_X13_undo_69 t (nt m)) (r1 := fun o => some (-100 - nt o, t)) (fun fu => ?_) (fun fu k hk => ?_) (nM - (m + 1)) (m + 1) 10000 (by omega) (by omega)
  · show BB_X13_undo_26 (B_X13_undo_26 fu) t (nt m) (nt nM) = _
    unfold BB_X13_undo_26
    rw [h, igE (by omega) (by omega), if_pos (Nat.le_refl _)]
  · show BB_X13_undo_26 (B_X13_undo_26 fu) t (nt m) (nt k) = _
    unfold BB_X13_undo_26 B_X13_undo_63 later
    rw [h, igE (by omega) (by omega), if_neg (by omega), (show tL _ 3328 0 = 200 from hL 3328 rfl), (show tL _ 3334 0 = 200 from hL 3334 rfl)]
    simp (disch := omega) only [gd_nt, nt_cl, nxt_e, oc_s, oc_n, ob_s, ob2_s, gb_b1, gb_0, gb_1, gw0, gw1, nt_succ]
    by_cases g : tA t 3328 0 k = tA t 3328 0 m
    · rw [if_neg (fun q => q g), decide_eq_true g, Bool.true_and]
      by_cases g2 : tA t 3334 0 k = 0
      · rw [if_neg (fun q => q g2), decide_eq_true g2, if_pos rfl]
      · rw [if_pos g2, decide_eq_false g2, if_neg (by decide)]
    · rw [if_pos g, decide_eq_false g, Bool.false_and, if_neg (by decide)]
end
