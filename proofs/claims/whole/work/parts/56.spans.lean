/-! PART 56: past, sign. -/
theorem m1_m1 {α : Type} {f : Nat → α} {a : Nat} {v w : α} : mm_u1 (mm_u1 f a v) a w = mm_u1 f a w := by
  funext b
  unfold mm_u1
  split <;> rfl
def cS0 (t : TS) (c n : Nat) (so fr to : Int32) : TS := uI (uI (uI (uI (uR (uI (uI (uO t 11 n) 1106 n 1000000) 1100 n (nt n)) 1101 n (some c)) 1102 n so) 1103 n fr) 1104 n to) 1205 0 (nt (n + 1))
def cS (t : TS) (p c n : Nat) (so fr to : Int32) : TS := uI (uR (oel (tR t 110 p) (uR (cS0 t c n so fr to) 109 p (some n)) (fun j => uR (cS0 t c n so fr to) 1108 j (some n))) 110 p (some n)) 111 p (tI t 111 p + 1)
def mS (t : TS) (p c n : Nat) (so fr to : Int32) : TS := uI (uA (uA (uA (uA (uA (uA (uA (uA t 3317 0 n (nt p)) 3318 0 n (nt c)) 3319 0 n fr) 3320 0 n to) 3321 0 n so) 3322 0 n 1000000) 3323 0 n 0) 3324 0 n (-1)) 1316 0 (nt (n + 1))
def kSp : Nat → Bool := k2 (ko 11) (ks [1205, 109, 110, 111, 1316, 3317, 3318, 3319, 3320, 3321, 3322, 3323, 3324])
theorem cS_f {t : TS} {p c n : Nat} {so fr to : Int32} : frm kSp t (cS t p c n so fr to) := by
  have h0 : frm kSp t (cS0 t c n so fr to) := frm_tr (frm_uO k2_l) (frm_tr (frm_uI rfl) (frm_tr (frm_uI rfl) (frm_tr (frm_uR rfl) (frm_tr (frm_uI rfl) (frm_tr (frm_uI rfl) (frm_tr (frm_uI rfl) (frm_uI rfl)))))))
  unfold cS
  cases tR t 110 p with
  | none => exact frm_tr h0 (frm_tr (frm_uR rfl) (frm_tr (frm_uR rfl) (frm_uI rfl)))
  | some j => exact frm_tr h0 (frm_tr (frm_uR rfl) (frm_tr (frm_uR rfl) (frm_uI rfl)))
theorem mS_f {t : TS} {p c n : Nat} {so fr to : Int32} : frm kSp t (mS t p c n so fr to) := frm_tr (frm_uA rfl) (frm_tr (frm_uA rfl) (frm_tr (frm_uA rfl) (frm_tr (frm_uA rfl) (frm_tr (frm_uA rfl) (frm_tr (frm_uA rfl) (frm_tr (frm_uA rfl) (frm_tr (frm_uA rfl) (frm_uI rfl))))))))
section
variable {t : TS} {nB nS nM p c : Nat} {so fr to : Int32}
theorem addSpan_c (hS : Ispan nB nS nM t) (h : nS < 600) : F_X12_addSpan t (some p) (some c) so fr to = some (some nS, cS t p c nS so fr to) := by
  have hE := hS.2.2.2.2.1 nS (Nat.le_refl _)
  have e110 : tR (cS0 t c nS so fr to) 110 p = tR t 110 p := by simp (disch := omega) only [cS0, I_uI, I_uI_n, R_uR, R_uR_n, A_uA, A_uA_n, J_uJ, J_uJ_n, Q_uQ, Q_uQ_n, E_uO, E_uO_n, I_uO, I_uO_n, R_uO, R_uO_n, E_uN, E_uN_n, L_uN, L_uN_n, A_uN, A_uN_n, J_uN, J_uN_n, Q_uN, Q_uN_n, A_uCA, A_uCA_n, J_uCJ, J_uCJ_n, E_uI, R_uI, L_uI, A_uI, J_uI, Q_uI, E_uR, I_uR, L_uR, A_uR, J_uR, Q_uR, E_uA, I_uA, R_uA, L_uA, J_uA, Q_uA, E_uJ, I_uJ, R_uJ, L_uJ, A_uJ, Q_uJ, E_uQ, I_uQ, R_uQ, L_uQ, A_uQ, J_uQ, L_uO, A_uO, J_uO, Q_uO, I_uN, R_uN, E_uCA, I_uCA, R_uCA, L_uCA, J_uCA, Q_uCA, E_uCJ, I_uCJ, R_uCJ, L_uCJ, A_uCJ, Q_uCJ, m1_s]
  have e111 : tI (cS0 t c nS so fr to) 111 p = tI t 111 p := by simp (disch := omega) only [cS0, I_uI, I_uI_n, R_uR, R_uR_n, A_uA, A_uA_n, J_uJ, J_uJ_n, Q_uQ, Q_uQ_n, E_uO, E_uO_n, I_uO, I_uO_n, R_uO, R_uO_n, E_uN, E_uN_n, L_uN, L_uN_n, A_uN, A_uN_n, J_uN, J_uN_n, Q_uN, Q_uN_n, A_uCA, A_uCA_n, J_uCJ, J_uCJ_n, E_uI, R_uI, L_uI, A_uI, J_uI, Q_uI, E_uR, I_uR, L_uR, A_uR, J_uR, Q_uR, E_uA, I_uA, R_uA, L_uA, J_uA, Q_uA, E_uJ, I_uJ, R_uJ, L_uJ, A_uJ, Q_uJ, E_uQ, I_uQ, R_uQ, L_uQ, A_uQ, J_uQ, L_uO, A_uO, J_uO, Q_uO, I_uN, R_uN, E_uCA, I_uCA, R_uCA, L_uCA, J_uCA, Q_uCA, E_uCJ, I_uCJ, R_uCJ, L_uCJ, A_uCJ, Q_uCJ, m1_s]
  have h1 : F_X12_addSpan t (some p) (some c) so fr to = Option.bind (F_X1_append (cS0 t c nS so fr to) p (some nS)) (fun r25 => some (some nS, r25)) := by
    simp (disch := omega) only [F_X12_addSpan, F_X11_init, hS.2.1, nt_cl, hE, gE_0, nxt_e, oc_s, oc_n, ob_s, ob2_s, gb_b1, gb_0, gb_1, gw0, gw1, I_uI, I_uI_n, R_uR, R_uR_n, A_uA, A_uA_n, J_uJ, J_uJ_n, Q_uQ, Q_uQ_n, E_uO, E_uO_n, I_uO, I_uO_n, R_uO, R_uO_n, E_uN, E_uN_n, L_uN, L_uN_n, A_uN, A_uN_n, J_uN, J_uN_n, Q_uN, Q_uN_n, A_uCA, A_uCA_n, J_uCJ, J_uCJ_n, E_uI, R_uI, L_uI, A_uI, J_uI, Q_uI, E_uR, I_uR, L_uR, A_uR, J_uR, Q_uR, E_uA, I_uA, R_uA, L_uA, J_uA, Q_uA, E_uJ, I_uJ, R_uJ, L_uJ, A_uJ, Q_uJ, E_uQ, I_uQ, R_uQ, L_uQ, A_uQ, J_uQ, L_uO, A_uO, J_uO, Q_uO, I_uN, R_uN, E_uCA, I_uCA, R_uCA, L_uCA, J_uCA, Q_uCA, E_uCJ, I_uCJ, R_uCJ, L_uCJ, A_uCJ, Q_uCJ, m1_s, nt_succ]
    rfl
  rw [h1]
  unfold F_X1_append B_X1_append_23 cS
  cases ej : tR t 110 p with
  | none =>
    simp (disch := omega) only [e110, ej, nxt_e, oc_s, oc_n, ob_s, ob2_s, gb_b1, gb_0, gb_1, gw0, gw1, I_uI, I_uI_n, R_uR, R_uR_n, A_uA, A_uA_n, J_uJ, J_uJ_n, Q_uQ, Q_uQ_n, E_uO, E_uO_n, I_uO, I_uO_n, R_uO, R_uO_n, E_uN, E_uN_n, L_uN, L_uN_n, A_uN, A_uN_n, J_uN, J_uN_n, Q_uN, Q_uN_n, A_uCA, A_uCA_n, J_uCJ, J_uCJ_n, E_uI, R_uI, L_uI, A_uI, J_uI, Q_uI, E_uR, I_uR, L_uR, A_uR, J_uR, Q_uR, E_uA, I_uA, R_uA, L_uA, J_uA, Q_uA, E_uJ, I_uJ, R_uJ, L_uJ, A_uJ, Q_uJ, E_uQ, I_uQ, R_uQ, L_uQ, A_uQ, J_uQ, L_uO, A_uO, J_uO, Q_uO, I_uN, R_uN, E_uCA, I_uCA, R_uCA, L_uCA, J_uCA, Q_uCA, E_uCJ, I_uCJ, R_uCJ, L_uCJ, A_uCJ, Q_uCJ, m1_s, e111, oel_n]
  | some j =>
    simp (disch := omega) only [e110, ej, nxt_e, oc_s, oc_n, ob_s, ob2_s, gb_b1, gb_0, gb_1, gw0, gw1, I_uI, I_uI_n, R_uR, R_uR_n, A_uA, A_uA_n, J_uJ, J_uJ_n, Q_uQ, Q_uQ_n, E_uO, E_uO_n, I_uO, I_uO_n, R_uO, R_uO_n, E_uN, E_uN_n, L_uN, L_uN_n, A_uN, A_uN_n, J_uN, J_uN_n, Q_uN, Q_uN_n, A_uCA, A_uCA_n, J_uCJ, J_uCJ_n, E_uI, R_uI, L_uI, A_uI, J_uI, Q_uI, E_uR, I_uR, L_uR, A_uR, J_uR, Q_uR, E_uA, I_uA, R_uA, L_uA, J_uA, Q_uA, E_uJ, I_uJ, R_uJ, L_uJ, A_uJ, Q_uJ, E_uQ, I_uQ, R_uQ, L_uQ, A_uQ, J_uQ, L_uO, A_uO, J_uO, Q_uO, I_uN, R_uN, E_uCA, I_uCA, R_uCA, L_uCA, J_uCA, Q_uCA, E_uCJ, I_uCJ, R_uCJ, L_uCJ, A_uCJ, Q_uCJ, m1_s, e111, oel_s]
theorem addSpan_m {t : TS} (hL : Ilen t) (h3 : tI t 1316 0 = nt nS) (h : nS < 600) : F_X13_addSpan t (nt p) (nt c) fr to so = some (nt nS, mS t p c nS so fr to) := by
  have hs : nt (nS + 1) - 1 = nt nS := nt_pred nS
  simp (disch := omega) only [F_X13_addSpan, h3, nt_cl, nxt_e, oc_s, oc_n, ob_s, ob2_s, gb_b1, gb_0, gb_1, gw0, gw1, I_uI, I_uI_n, A_uA, A_uA_n, E_uI, R_uI, L_uI, A_uI, J_uI, Q_uI, E_uA, I_uA, R_uA, L_uA, J_uA, Q_uA, m1_s, (show tL _ 3317 0 = 600 from hL 3317 rfl), (show tL _ 3318 0 = 600 from hL 3318 rfl), (show tL _ 3319 0 = 600 from hL 3319 rfl), (show tL _ 3320 0 = 600 from hL 3320 rfl), (show tL _ 3321 0 = 600 from hL 3321 rfl), (show tL _ 3322 0 = 600 from hL 3322 rfl), (show tL _ 3323 0 = 600 from hL 3323 rfl), (show tL _ 3324 0 = 600 from hL 3324 rfl), gd_nt, nt_succ, hs]
  rfl
theorem spansOf_eq {t : TS} (hL : Ilen t) (h3 : tI t 1316 0 = nt nS) (h : nS ≤ 600) : F_X13_spansOf t (nt p) = some (nt (cntP (pS t p) nS)) := by
  unfold F_X13_spansOf
  obtain ⟨N, hN⟩ : ∃ N : Nat, N = 10000 := ⟨_, rfl⟩
  rw [← hN]
  refine loop_wh (B := fun fu (k : Nat) => B_X13_spansOf_4 fu t (nt p) (nt (cntP (pS t p) k)) (nt k)) (mu := fun k => nS - k) (G := fun o => o = some (nt (cntP (pS t p) nS))) (P := fun k => k ≤ nS) ?_ N 0 (Nat.zero_le _) (by omega)
  intro fu k hk
  show BB_X13_spansOf_4 (B_X13_spansOf_4 fu) t _ _ _ = _ ∨ ∃ a', BB_X13_spansOf_4 (B_X13_spansOf_4 fu) t _ _ _ = _ ∧ _
  unfold BB_X13_spansOf_4 B_X13_spansOf_28
  rw [h3, igE (by omega) (by omega)]
  by_cases e : k = nS
  · left
    subst e
    rw [if_pos (Nat.le_refl _)]
  · right
    refine ⟨k + 1, ?_, by omega, by omega⟩
    rw [if_neg (by omega), (show tL _ 3317 0 = 600 from hL 3317 rfl), gd_nt _ (by omega) (by omega), nt_cl (by omega), cntP_s]
    by_cases g : tA t 3317 0 k = nt p
    · have g2 : pS t p k = true := decide_eq_true g
      rw [if_neg (fun q => q g), g2, if_pos rfl, nt_succ, nt_succ]
    · have g2 : pS t p k = false := decide_eq_false g
      rw [if_pos g, g2, if_neg (by decide), nt_succ]
      exact congrArg (fun x => B_X13_spansOf_4 fu t (nt p) x (nt (k + 1))) (nt_add _ 0)
theorem Iall_span {t t' : TS} {nM' : Nat} (hA : Iall nB nS nM t) (hMM : nM = nM') (hf : frm kSp t t') (hS : Ispan nB (nS + 1) nM' t') (h19 : ∀ s, s < nS → tA t' 3319 0 s = tA t 3319 0 s) : Iall nB (nS + 1) nM' t' := by
  subst hMM
  obtain ⟨hB, hC, hI, hMt, hLk, -, hM⟩ := hA
  refine ⟨Ibody_f hf (by decide) hB, Icoin_f hf (by decide) hC, Iinc_f hf (by decide) hI, Imat_f hf (by decide) hMt, Ilack_f hf (by decide) hLk, hS, ?_⟩
  obtain ⟨s1, s2, s3, s4, s5⟩ := hM
  have A : ∀ q, kSp q = false → tA t' q = tA t q := fun q hq => (hf.1 q hq).2.2.2.2.1
  have I : ∀ q, kSp q = false → tI t' q = tI t q := fun q hq => (hf.1 q hq).2.1
  have R : ∀ q, kSp q = false → tR t' q = tR t q := fun q hq => (hf.1 q hq).2.2.1
  have E : ∀ q, kSp q = false → tE t' q = tE t q := fun q hq => (hf.1 q hq).1
  have L : ∀ q, kSp q = false → tL t' q = tL t q := fun q hq => (hf.1 q hq).2.2.2.1
  have Q : ∀ q, kSp q = false → tQ t' q = tQ t q := fun q hq => (hf.1 q hq).2.2.2.2.2.2
  refine ⟨s1, by rw [I 1207 rfl]; exact s2, by rw [I 1327 rfl]; exact s3, fun m hm => ?_, fun m hm => ?_⟩
  · unfold Imove1 Ishare
    rw [Q 3206 rfl, E 6 rfl, I 600 rfl, R 601 rfl, R 602 rfl, R 603 rfl, I 604 rfl, I 605 rfl, I 606 rfl, R 607 rfl, I 608 rfl, I 609 rfl, I 610 rfl, I 611 rfl, R 612 rfl, I 613 rfl, R 614 rfl, I 615 rfl, I 616 rfl, I 617 rfl, I 618 rfl, I 619 rfl, L 2614 rfl, A 2614 rfl, A 3308 rfl, A 3328 rfl, A 3329 rfl, A 3330 rfl, A 3331 rfl, A 3332 rfl, A 3333 rfl, A 3334 rfl, A 3335 rfl, A 3336 rfl, A 3337 rfl, A 3338 rfl, A 3339 rfl, A 3340 rfl, A 3341 rfl, A 3342 rfl, A 3343 rfl, A 3344 rfl, A 3345 rfl, A 3346 rfl, A 3347 rfl]
    obtain ⟨c1, c2, c3, c4, c5, c6, c7, c8, c9, ⟨s, dd, d1, d2, d3, d4, d5, d6⟩, c10⟩ := s4 m hm
    exact ⟨c1, c2, c3, c4, c5, c6, c7, c8, c9, ⟨s, dd, by omega, d2, d3, d4, by rw [h19 s d1]; exact d5, d6⟩, c10⟩
  · rw [E 6 rfl, E 2614 rfl, A 3336 rfl, A 3337 rfl, A 3339 rfl, A 3341 rfl, A 3343 rfl, A 3344 rfl, A 3345 rfl, A 3346 rfl, A 3347 rfl]
    exact s5 m hm
/-- a span that comes by both, with a wage -/
theorem span_both (hA : Iall nB nS nM t) (h : nS < 600) (hp : p < nB) (hpp : isPl (tA t 3308 0 p) = true) (hc : c < nB) (hcc : isCl (tA t 3308 0 c) = true) (hb : -9999 ≤ fr ∧ fr ≤ 2999 ∧ -9999 ≤ to ∧ to ≤ 2999) (wa : Int32) {t' : TS} (e : t' = uA (mS (uI (cS t p c nS so fr to) 1105 nS wa) p c nS so fr to) 3323 0 nS wa) : Iall nB (nS + 1) nM t' ∧ frm kSp t t' := by
  have hf : frm kSp t t' := by
    rw [e]
    exact frm_tr cS_f (frm_tr (frm_uI rfl) (frm_tr mS_f (frm_uA rfl)))
  have hB := hA.1
  have hS := hA.2.2.2.2.2.1
  refine ⟨Iall_span hA rfl hf (Ispan_add (p := p) (c := c) (so := so) (fr := fr) (to := to) (wa := wa) (mi := -1) (mv := none) hS h hB.1 (Nat.le_refl _) hp hpp hc hcc hb (Or.inl ⟨rfl, rfl⟩) ?_ ?_ ?_ ?_ ?_ ?_ ?_ ?_ ?_ ?_ ?_ ?_ ?_ ?_ ?_ ?_ ?_ ?_ ?_ ?_ ?_ ?_ ?_ ?_) (fun s hs => ?_), hf⟩
  all_goals rw [e]
  all_goals unfold mS cS
  all_goals cases ej : tR t 110 p
  all_goals simp (disch := omega) only [cS0, I_uI, I_uI_n, R_uR, R_uR_n, A_uA, A_uA_n, J_uJ, J_uJ_n, Q_uQ, Q_uQ_n, E_uO, E_uO_n, I_uO, I_uO_n, R_uO, R_uO_n, E_uN, E_uN_n, L_uN, L_uN_n, A_uN, A_uN_n, J_uN, J_uN_n, Q_uN, Q_uN_n, A_uCA, A_uCA_n, J_uCJ, J_uCJ_n, E_uI, R_uI, L_uI, A_uI, J_uI, Q_uI, E_uR, I_uR, L_uR, A_uR, J_uR, Q_uR, E_uA, I_uA, R_uA, L_uA, J_uA, Q_uA, E_uJ, I_uJ, R_uJ, L_uJ, A_uJ, Q_uJ, E_uQ, I_uQ, R_uQ, L_uQ, A_uQ, J_uQ, L_uO, A_uO, J_uO, Q_uO, I_uN, R_uN, E_uCA, I_uCA, R_uCA, L_uCA, J_uCA, Q_uCA, E_uCJ, I_uCJ, R_uCJ, L_uCJ, A_uCJ, Q_uCJ, m1_s, oel_n, oel_s, m1_n, m1_m1]
end
