/-! PART 62: matches told, the model's side. -/
section
variable {t : TS} {nB nS nM : Nat}
def mPl (t : TS) (p c : Nat) (n : Int32) (k : Nat) (u : TS) : Prop := frm (ks [3310, 3345, 3346]) t u ∧ tA u 3310 0 = coinD t p c n (tA t 3310 0) k ∧ (∀ m, tA u 3346 0 m = told t p c n k m) ∧ ∀ m, tA u 3345 0 m = paidB t p c n k m
theorem mPl_no {p c k : Nat} {n : Int32} {u : TS} (h : mPl t p c n k u) (hq : ¬ qual t p c k = true) : mPl t p c n (k + 1) u := by
  have hp : ¬ payB t p c n k = true := fun g => hq (payB_e ▸ g).1
  refine ⟨h.1, ?_, fun m => ?_, fun m => ?_⟩
  · rw [h.2.1]; show _ = if payB t p c n k then _ else _; rw [if_neg hp]
  · rw [told_s]
    by_cases e : m = k
    · subst e; rw [if_pos rfl, if_neg hq, h.2.2.1 m, told_k]
    · rw [if_neg e, h.2.2.1 m]
  · rw [paid_s]
    by_cases e : m = k
    · subst e; rw [if_pos rfl, if_neg hp, h.2.2.2 m, paid_k]
    · rw [if_neg e, h.2.2.2 m]
def Mpay (nB nM : Nat) (t : TS) : Prop := nM ≤ 200 ∧ tI t 1327 0 = nt nM ∧ ∀ k, k < nM → (∃ s, s < nB ∧ tA t 3329 0 k = nt s) ∧ (∃ b, b < nB ∧ tA t 3330 0 k = nt b) ∧ (∃ bo, bo ≤ 999999 ∧ tA t 3337 0 k = nt bo) ∧ ∃ pd, pd ≤ 999999 ∧ tA t 3345 0 k = nt pd
theorem Imove_pay (hM : Imove nB nS nM t) : Mpay nB nM t := ⟨hM.1, hM.2.2.1, fun k hk => by
  obtain ⟨-, -, -, -, ⟨s, s1, -, s3, s4⟩, ⟨b, b1_, -, b3, b4⟩, -, -, -, -, -, -, -, -, -, -, -, -, -, ⟨bo, bo1, bo2, bo3⟩, -, -, ⟨pd, pd1, pd2, pd3⟩⟩ := hM.2.2.2.1 k hk
  exact ⟨⟨s, s1, s4⟩, ⟨b, b1_, b4⟩, ⟨bo, bo1, bo3⟩, pd, pd1, pd3⟩⟩
theorem Mpay_f {D : Nat → Bool} {t t' : TS} (h : frm D t t') (hd : ∀ k, k ∈ [1327, 3329, 3330, 3337, 3345] → D k = false) (hI : Mpay nB nM t) : Mpay nB nM t' := by
  unfold Mpay at hI ⊢
  simp only [(h.1 1327 (hd 1327 (by decide))).2.1, (h.1 3329 (hd 3329 (by decide))).2.2.2.2.1, (h.1 3330 (hd 3330 (by decide))).2.2.2.2.1, (h.1 3337 (hd 3337 (by decide))).2.2.2.2.1, (h.1 3345 (hd 3345 (by decide))).2.2.2.2.1]
  exact hI
theorem X13_play_loop {p c : Nat} {n : Int32} (hL : Ilen t) (h150 : nB ≤ 150) (hM : Mpay nB nM t) (hp : p < nB) (hc : c < nB) : ∃ u, B_X13_play_56 10000 t (nt p) n (nt c) 0 = B_X13_play_225 u (nt p) (nt c) ∧ mPl t p c n nM u := by
  have h200 := hM.1
  obtain ⟨N, hN⟩ : ∃ N : Nat, N = 10000 := ⟨_, rfl⟩
  rw [← hN]
  refine loop_wh (B := fun fu (a : Nat × TS) => B_X13_play_56 fu a.2 (nt p) n (nt c) (nt a.1)) (mu := fun a => nM - a.1) (G := fun o => ∃ u, o = B_X13_play_225 u (nt p) (nt c) ∧ mPl t p c n nM u) (P := fun a => a.1 ≤ nM ∧ mPl t p c n a.1 a.2) ?_ N (0, t) ⟨Nat.zero_le _, frm_rf, rfl, fun m => (if_neg (fun (q : m < 0 ∧ _) => Nat.not_lt_zero _ q.1)).symm, fun m => (if_neg (fun (q : m < 0 ∧ _) => Nat.not_lt_zero _ q.1)).symm⟩ (by show nM - 0 < N; omega)
  intro fu a ha
  obtain ⟨k, u⟩ := a
  have hk : k ≤ nM := ha.1
  have h : mPl t p c n k u := ha.2
  show (∃ u', BB_X13_play_56 (B_X13_play_56 fu) u (nt p) n (nt c) (nt k) = _ ∧ _) ∨ ∃ a', BB_X13_play_56 (B_X13_play_56 fu) u (nt p) n (nt c) (nt k) = _ ∧ _
  have hL1 : Ilen u := Ilen_f h.1 hL
  have i1327 : tI u 1327 0 = nt nM := by rw [(h.1.1 1327 rfl).2.1, hM.2.1]
  unfold BB_X13_play_56 B_X13_play_219
  rw [i1327, igE (by omega) (by omega)]
  by_cases e : k = nM
  · left
    subst e
    exact ⟨u, if_pos (Nat.le_refl _), h⟩
  right
  have hk1 : k < nM := by omega
  obtain ⟨⟨s, s1, s4⟩, ⟨b, b1_, b4⟩, ⟨bo, bo1, bo3⟩, pd, pd1, pd3⟩ := hM.2.2 k hk1
  have a3328 : tA u 3328 0 k = tA t 3328 0 k := by rw [(h.1.1 3328 rfl).2.2.2.2.1]
  have a3333 : tA u 3333 0 k = tA t 3333 0 k := by rw [(h.1.1 3333 rfl).2.2.2.2.1]
  have a3334 : tA u 3334 0 k = tA t 3334 0 k := by rw [(h.1.1 3334 rfl).2.2.2.2.1]
  have a3330 : tA u 3330 0 k = nt b := by rw [(h.1.1 3330 rfl).2.2.2.2.1, b4]
  have a3329 : tA u 3329 0 k = nt s := by rw [(h.1.1 3329 rfl).2.2.2.2.1, s4]
  have a3337 : tA u 3337 0 k = nt bo := by rw [(h.1.1 3337 rfl).2.2.2.2.1, bo3]
  have a3338 : tA u 3338 0 k = tA t 3338 0 k := by rw [(h.1.1 3338 rfl).2.2.2.2.1]
  have a3346 : tA u 3346 0 k = tA t 3346 0 k := by rw [h.2.2.1 k, told_k]
  have a3345 : tA u 3345 0 k = nt pd := by rw [h.2.2.2 k, paid_k, pd3]
  have hbo : (nt bo = (0 : Int32)) = (bo = 0) := by rw [show (0 : Int32) = nt 0 from rfl, eq_nt (by omega) (by omega)]
  have hbo2 : (tA t 3337 0 k = 0) = (bo = 0) := by rw [bo3, hbo]
  have hpd : (0 < nt pd) = (0 < pd) := by rw [show (0 : Int32) = nt 0 from rfl, lt_nt (by omega) (by omega)]
  have hpd2 : (0 < tA t 3345 0 k) = (0 < pd) := by rw [pd3, hpd]
  rw [if_neg (by omega)]
  have fin : ∀ u', mPl t p c n (k + 1) u' → ∀ X, X = B_X13_play_56 fu u' (nt p) n (nt c) (nt (k + 1)) → ∃ a', X = (fun fu (a : Nat × TS) => B_X13_play_56 fu a.2 (nt p) n (nt c) (nt a.1)) fu a' ∧ (a'.1 ≤ nM ∧ mPl t p c n a'.1 a'.2) ∧ nM - a'.1 < nM - k := fun u' hu X hX => ⟨(k + 1, u'), hX, ⟨by show k + 1 ≤ nM; omega, hu⟩, by show nM - (k + 1) < nM - k; omega⟩
  by_cases g0 : tA t 3328 0 k = nt p
  case neg => exact fin u (mPl_no h (fun q => g0 (qual_e ▸ q).1)) _ (by simp (disch := omega) only [(show tL _ 3328 0 = 200 from hL1 3328 rfl), gd_nt, nt_cl, nxt_e, oc_s, oc_n, ob_s, ob2_s, gb_b1, gb_0, gb_1, gw0, gw1, nt_succ, a3328]; rw [if_pos g0])
  by_cases g1 : tA t 3333 0 k = 0
  case neg => exact fin u (mPl_no h (fun q => g1 (qual_e ▸ q).2.2.1)) _ (by simp (disch := omega) only [(show tL _ 3328 0 = 200 from hL1 3328 rfl), (show tL _ 3333 0 = 200 from hL1 3333 rfl), gd_nt, nt_cl, nxt_e, oc_s, oc_n, ob_s, ob2_s, gb_b1, gb_0, gb_1, gw0, gw1, nt_succ, a3328, a3333]; rw [if_neg (fun q => q g0), if_pos g1])
  by_cases g2 : tA t 3334 0 k = 0
  case neg => exact fin u (mPl_no h (fun q => g2 (qual_e ▸ q).2.2.2)) _ (by simp (disch := omega) only [(show tL _ 3328 0 = 200 from hL1 3328 rfl), (show tL _ 3333 0 = 200 from hL1 3333 rfl), (show tL _ 3334 0 = 200 from hL1 3334 rfl), gd_nt, nt_cl, nxt_e, oc_s, oc_n, ob_s, ob2_s, gb_b1, gb_0, gb_1, gw0, gw1, nt_succ, a3328, a3333, a3334]; rw [if_neg (fun q => q g0), if_neg (fun q => q g1), if_pos g2])
  by_cases g3 : b = c
  case neg => exact fin u (mPl_no h (fun q => g3 (by have := (qual_e ▸ q).2.1; rw [b4, eq_nt (by omega) (by omega)] at this; exact this))) _ (by simp (disch := omega) only [(show tL _ 3328 0 = 200 from hL1 3328 rfl), (show tL _ 3333 0 = 200 from hL1 3333 rfl), (show tL _ 3334 0 = 200 from hL1 3334 rfl), (show tL _ 3330 0 = 200 from hL1 3330 rfl), gd_nt, nt_cl, nxt_e, oc_s, oc_n, ob_s, ob2_s, gb_b1, gb_0, gb_1, gw0, gw1, nt_succ, a3328, a3333, a3334, a3330]; rw [if_neg (fun q => q g0), if_neg (fun q => q g1), if_neg (fun q => q g2), ieQ (by omega) (by omega), if_neg g3])
  have hq : qual t p c k = true := by rw [qual_e]; exact ⟨g0, by rw [b4, g3], g1, g2⟩
  have hfr : frm (ks [3310, 3345, 3346]) t (uA u 3346 0 k (tA t 3346 0 k + n)) := frm_tr h.1 (frm_uA rfl)
  have hno : ¬ payB t p c n k = true → mPl t p c n (k + 1) (uA u 3346 0 k (tA t 3346 0 k + n)) := fun hp => by
    refine ⟨hfr, ?_, fun m => ?_, fun m => ?_⟩
    · rw [A_uA_n (by decide), h.2.1]; show _ = if payB t p c n k then _ else _; rw [if_neg hp]
    · rw [told_s, A_uA]
      simp only [m1_s]
      by_cases e : m = k
      · subst e; rw [if_pos rfl, if_pos hq, m1_s]
      · rw [if_neg e, m1_n e, h.2.2.1 m]
    · rw [paid_s, A_uA_n (by decide)]
      by_cases e : m = k
      · subst e; rw [if_pos rfl, if_neg hp, h.2.2.2 m, paid_k]
      · rw [if_neg e, h.2.2.2 m]
  by_cases g4 : bo = 0
  · refine fin _ (hno (fun q => (payB_e ▸ q).2.1 (hbo2 ▸ g4))) _ ?_
    simp (disch := omega) only [(show tL _ 3328 0 = 200 from hL1 3328 rfl), (show tL _ 3333 0 = 200 from hL1 3333 rfl), (show tL _ 3334 0 = 200 from hL1 3334 rfl), (show tL _ 3330 0 = 200 from hL1 3330 rfl), (show tL _ 3346 0 = 200 from hL1 3346 rfl), (show tL _ 3337 0 = 200 from hL1 3337 rfl), gd_nt, nt_cl, nxt_e, oc_s, oc_n, ob_s, ob2_s, gb_b1, gb_0, gb_1, gw0, gw1, nt_succ, a3328, a3333, a3334, a3330, a3346, a3337, I_uI, I_uI_n, A_uA, A_uA_n, E_uI, R_uI, L_uI, A_uI, J_uI, Q_uI, E_uA, I_uA, R_uA, L_uA, J_uA, Q_uA, m1_s, g0, g1, g2, g3, g4, Bool.false_eq_true, Bool.true_eq_false, if_true, if_false, not_true_eq_false, not_false_eq_true]
    rfl
  by_cases g5 : pd = 0
  case neg =>
    refine fin _ (hno (fun q => (payB_e ▸ q).2.2.1 (hpd2 ▸ Nat.pos_of_ne_zero g5))) _ ?_
    have g5' : 0 < pd := Nat.pos_of_ne_zero g5
    simp (disch := omega) only [(show tL _ 3328 0 = 200 from hL1 3328 rfl), (show tL _ 3333 0 = 200 from hL1 3333 rfl), (show tL _ 3334 0 = 200 from hL1 3334 rfl), (show tL _ 3330 0 = 200 from hL1 3330 rfl), (show tL _ 3346 0 = 200 from hL1 3346 rfl), (show tL _ 3337 0 = 200 from hL1 3337 rfl), (show tL _ 3345 0 = 200 from hL1 3345 rfl), gd_nt, nt_cl, nxt_e, oc_s, oc_n, ob_s, ob2_s, gb_b1, gb_0, gb_1, gw0, gw1, nt_succ, a3328, a3333, a3334, a3330, a3346, a3337, a3345, I_uI, I_uI_n, A_uA, A_uA_n, E_uI, R_uI, L_uI, A_uI, J_uI, Q_uI, E_uA, I_uA, R_uA, L_uA, J_uA, Q_uA, m1_s, g0, g1, g2, g3, Bool.false_eq_true, Bool.true_eq_false, if_true, if_false, not_true_eq_false, not_false_eq_true, hbo, hpd, g4, g5']
  by_cases g6 : tA t 3338 0 k ≤ tA t 3346 0 k + n
  case neg =>
    refine fin _ (hno (fun q => g6 (payB_e ▸ q).2.2.2)) _ ?_
    simp (disch := omega) only [(show tL _ 3328 0 = 200 from hL1 3328 rfl), (show tL _ 3333 0 = 200 from hL1 3333 rfl), (show tL _ 3334 0 = 200 from hL1 3334 rfl), (show tL _ 3330 0 = 200 from hL1 3330 rfl), (show tL _ 3346 0 = 200 from hL1 3346 rfl), (show tL _ 3337 0 = 200 from hL1 3337 rfl), (show tL _ 3345 0 = 200 from hL1 3345 rfl), (show tL _ 3338 0 = 200 from hL1 3338 rfl), gd_nt, nt_cl, nxt_e, oc_s, oc_n, ob_s, ob2_s, gb_b1, gb_0, gb_1, gw0, gw1, nt_succ, a3328, a3333, a3334, a3330, a3346, a3337, a3345, a3338, I_uI, I_uI_n, A_uA, A_uA_n, E_uI, R_uI, L_uI, A_uI, J_uI, Q_uI, E_uA, I_uA, R_uA, L_uA, J_uA, Q_uA, m1_s, g0, g1, g2, g3, Bool.false_eq_true, Bool.true_eq_false, if_true, if_false, not_true_eq_false, not_false_eq_true, hbo, hpd, g4, g5, g6, Nat.lt_irrefl]
    exact if_neg (by decide)
  have hpp : payB t p c n k = true := by rw [payB_e]; exact ⟨hq, fun q => g4 (hbo2 ▸ q), fun q => by rw [hpd2] at q; omega, g6⟩
  refine fin (uA (uA (uA (uA u 3346 0 k (tA t 3346 0 k + n)) 3345 0 k (nt bo)) 3310 0 b (tA u 3310 0 b - nt bo)) 3310 0 s (mm_u1 (tA u 3310 0) b (tA u 3310 0 b - nt bo) s + nt bo)) ?_ _ ?_
  · refine ⟨frm_tr hfr (frm_tr (frm_uA rfl) (frm_tr (frm_uA rfl) (frm_uA rfl))), ?_, fun m => ?_, fun m => ?_⟩
    · simp (disch := omega) only [I_uI, I_uI_n, A_uA, A_uA_n, E_uI, R_uI, L_uI, A_uI, J_uI, Q_uI, E_uA, I_uA, R_uA, L_uA, J_uA, Q_uA, m1_s]
      show _ = if payB t p c n k then _ else _
      rw [if_pos hpp, s4, b4, bo3, nt_cl (by omega), nt_cl (by omega), ← h.2.1]
      rfl
    · rw [told_s]
      simp (disch := omega) only [I_uI, I_uI_n, A_uA, A_uA_n, E_uI, R_uI, L_uI, A_uI, J_uI, Q_uI, E_uA, I_uA, R_uA, L_uA, J_uA, Q_uA, m1_s]
      by_cases e : m = k
      · subst e; rw [if_pos rfl, if_pos hq, m1_s]
      · rw [if_neg e, m1_n e, h.2.2.1 m]
    · rw [paid_s]
      simp (disch := omega) only [I_uI, I_uI_n, A_uA, A_uA_n, E_uI, R_uI, L_uI, A_uI, J_uI, Q_uI, E_uA, I_uA, R_uA, L_uA, J_uA, Q_uA, m1_s]
      by_cases e : m = k
      · subst e; rw [if_pos rfl, if_pos hpp, m1_s, bo3]
      · rw [if_neg e, m1_n e, h.2.2.2 m]
  · subst g3
    simp (disch := omega) only [(show tL _ 3328 0 = 200 from hL1 3328 rfl), (show tL _ 3333 0 = 200 from hL1 3333 rfl), (show tL _ 3334 0 = 200 from hL1 3334 rfl), (show tL _ 3330 0 = 200 from hL1 3330 rfl), (show tL _ 3329 0 = 200 from hL1 3329 rfl), (show tL _ 3346 0 = 200 from hL1 3346 rfl), (show tL _ 3337 0 = 200 from hL1 3337 rfl), (show tL _ 3345 0 = 200 from hL1 3345 rfl), (show tL _ 3338 0 = 200 from hL1 3338 rfl), (show tL _ 3310 0 = 150 from hL1 3310 rfl), gd_nt, nt_cl, nxt_e, oc_s, oc_n, ob_s, ob2_s, gb_b1, gb_0, gb_1, gw0, gw1, nt_succ, a3328, a3333, a3334, a3330, a3329, a3346, a3337, a3345, a3338, I_uI, I_uI_n, A_uA, A_uA_n, E_uI, R_uI, L_uI, A_uI, J_uI, Q_uI, E_uA, I_uA, R_uA, L_uA, J_uA, Q_uA, m1_s, g0, g1, g2, Bool.false_eq_true, Bool.true_eq_false, if_true, if_false, not_true_eq_false, not_false_eq_true, hbo, hpd, g4, g5, g6, Nat.lt_irrefl]
    exact if_neg (by decide)
end
