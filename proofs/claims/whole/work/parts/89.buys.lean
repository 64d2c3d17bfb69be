/-! PART 89: buys, the model's turn, both in step. -/
section
variable {t : TS} {n v : Nat}
theorem mturn (k : TS → Int32 → Int32 → Int32 → Int32 → Int32 → Int32 → Int32 → Option (Int32 × TS)) (hL : Ilen t) (hn : n ≤ 10) (h : tI t 1381 0 = nt n) (hv : v < 2 ^ n) {a : Nat} (ha : a ≤ 9999) (x1 x2 b bw bp : Int32) : (fitP (tA t 3382 0) (tA t 3383 0) (tA t 3384 0) v n x1 x2 a ∧ (b < 0 ∨ btr (sb (tA t 3385 0) v n) (sb (tA t 3382 0) v n) bw bp) → BB_X13_buys_53 k t x1 x2 (nt a) b bw bp (nt v) = k t x1 x2 (nt a) (nt v) (sb (tA t 3385 0) v n) (sb (tA t 3382 0) v n) (nt (v + 1))) ∧ (¬ (fitP (tA t 3382 0) (tA t 3383 0) (tA t 3384 0) v n x1 x2 a ∧ (b < 0 ∨ btr (sb (tA t 3385 0) v n) (sb (tA t 3382 0) v n) bw bp)) → BB_X13_buys_53 k t x1 x2 (nt a) b bw bp (nt v) = k t x1 x2 (nt a) b bw bp (nt (v + 1))) := by
  have hp := pow_le n hn
  have hv2 : v < 1024 := by omega
  obtain ⟨r, hr, hr2⟩ := mfits_eq hL hv2 hn h ha x1 x2
  unfold BB_X13_buys_53
  rw [h, pow_b n hn, igE (by omega) (by omega), if_neg (by omega), hr, ob_s]
  by_cases c4 : fitP (tA t 3382 0) (tA t 3383 0) (tA t 3384 0) v n x1 x2 a
  case neg =>
    have hr0 : r = 0 := hr2.mpr c4
    refine ⟨fun q => absurd q.1 c4, fun _ => ?_⟩
    rw [if_neg (fun q => q hr0)]
    unfold B_X13_buys_198
    rw [nt_succ]
  have hr0 : ¬ r = 0 := fun q => hr2.mp q c4
  rw [if_pos hr0]
  have h88 : B_X13_buys_88 k 10000 t x1 x2 (nt a) b bw bp (nt v) 0 0 0 = B_X13_buys_157 k t x1 x2 (nt a) b bw bp (nt v) (sb (tA t 3385 0) v n) (sb (tA t 3382 0) v n) := by
    obtain ⟨N, hN⟩ : ∃ N : Nat, N = 10000 := ⟨_, rfl⟩
    rw [← hN]
    refine loop_wh (B := fun fu (i : Nat) => B_X13_buys_88 k fu t x1 x2 (nt a) b bw bp (nt v) (sb (tA t 3385 0) v i) (sb (tA t 3382 0) v i) (nt i)) (mu := fun i => n - i) (G := fun o => o = B_X13_buys_157 k t x1 x2 (nt a) b bw bp (nt v) (sb (tA t 3385 0) v n) (sb (tA t 3382 0) v n)) (P := fun i => i ≤ n) ?_ N 0 (Nat.zero_le _) (by omega)
    intro fu i hi
    show BB_X13_buys_88 k (B_X13_buys_88 k fu) t _ _ _ _ _ _ _ _ _ _ = _ ∨ ∃ a', BB_X13_buys_88 k (B_X13_buys_88 k fu) t _ _ _ _ _ _ _ _ _ _ = _ ∧ _
    unfold BB_X13_buys_88
    rw [h, igE (by omega) (by omega)]
    by_cases e : i = n
    · left
      subst e
      rw [if_pos (Nat.le_refl _)]
    · right
      refine ⟨i + 1, ?_, by omega, by omega⟩
      rw [if_neg (by omega), bit_bb hv2 (by omega)]
      unfold B_X13_buys_121 B_X13_buys_148
      rw [bit_bb hv2 (by omega), nt_succ]
      show _ = B_X13_buys_88 k fu t x1 x2 (nt a) b bw bp (nt v) (sb (tA t 3385 0) v i + if v.testBit i then tA t 3385 0 i else 0) (sb (tA t 3382 0) v i + if v.testBit i then tA t 3382 0 i else 0) (nt (i + 1))
      cases g : v.testBit i with
      | false =>
        rw [if_pos (by decide), if_pos (by decide)]
        simp only [Bool.false_eq_true, if_false]
      | true =>
        rw [if_neg (by decide), if_neg (by decide), (show tL _ 3382 0 = 10 from hL 3382 rfl), (show tL _ 3385 0 = 10 from hL 3385 rfl), gd_nt _ (by omega) (by omega), gd_nt _ (by omega) (by omega), nt_cl (by omega)]
        simp only [if_true]
  rw [h88]
  unfold B_X13_buys_157 B_X13_buys_186 B_X13_buys_198
  rw [nt_succ]
  by_cases c0 : b < 0
  · rw [if_pos c0]
    exact ⟨fun _ => rfl, fun q => absurd ⟨c4, Or.inl c0⟩ q⟩
  rw [if_neg c0]
  by_cases c1 : sb (tA t 3385 0) v n < bw
  · rw [if_pos c1]
    refine ⟨fun q => absurd q.2 (fun q2 => ?_), fun _ => rfl⟩
    rcases q2 with q2 | q2 | q2
    · exact c0 q2
    · exact (Int32.lt_irrefl (Int32.lt_trans c1 q2)).elim
    · rw [q2.1] at c1; exact (Int32.lt_irrefl c1).elim
  rw [if_neg c1]
  by_cases c2 : sb (tA t 3385 0) v n = bw
  case neg =>
    rw [if_pos c2]
    have hl : bw < sb (tA t 3385 0) v n := by
      rcases Int32.lt_or_eq_of_le (Int32.not_lt.mp c1) with q | q
      · exact q
      · exact absurd q.symm c2
    exact ⟨fun _ => rfl, fun q => absurd ⟨c4, Or.inr (Or.inl hl)⟩ q⟩
  rw [if_neg (fun q => q c2)]
  by_cases c3 : sb (tA t 3382 0) v n < bp
  · rw [if_pos c3]
    exact ⟨fun _ => rfl, fun q => absurd ⟨c4, Or.inr (Or.inr ⟨c2, c3⟩)⟩ q⟩
  · rw [if_neg c3]
    refine ⟨fun q => absurd q.2 (fun q2 => ?_), fun _ => rfl⟩
    rcases q2 with q2 | q2 | q2
    · exact c0 q2
    · rw [c2] at q2; exact (Int32.lt_irrefl q2).elim
    · exact c3 q2.2
def Rbuy (b bw bp b' bw' bp' : Int32) : Prop := (b = -2 ∧ bw = -1 ∧ b' = -1) ∨ (∃ k, k < 1024 ∧ b = nt k ∧ b' = nt k ∧ bw' = bw ∧ bp' = bp)
theorem sb_nn {f : Nat → Int32} {B : Nat} (v : Nat) : ∀ n, (∀ k, k < n → ∃ y, y ≤ B ∧ f k = nt y) → ∃ y, y ≤ B * n ∧ sb f v n = nt y
  | 0, _ => ⟨0, Nat.le_refl _, rfl⟩
  | n + 1, h => by
    obtain ⟨y, h1, h2⟩ := sb_nn v n (fun k hk => h k (by omega))
    obtain ⟨z, h3, h4⟩ := h n (by omega)
    unfold sb
    rw [h2, h4, Nat.mul_succ]
    cases v.testBit n with
    | true => exact ⟨y + z, by omega, by rw [if_pos rfl, nt_add]⟩
    | false => exact ⟨y, by omega, by rw [if_neg (by decide), Int32.add_zero]⟩
theorem buys_lock (hL : Ilen t) (hI : Ibuy t) (hn : n ≤ 10) (h : tI t 204 0 = nt n) {a : Nat} (ha : a ≤ 9999) (x1 x2 : Int32) : ∀ m v f1 f2 b bw bp b' bw' bp', v + m = 2 ^ n → m < f1 → m < f2 → Rbuy b bw bp b' bw' bp' → ∃ r, B_X2_takeBest_13 f1 t x1 x2 (nt a) b bw bp (nt v) = some (r, uI t 204 0 0) ∧ B_X13_buys_53 f2 (uI t 204 0 0) x1 x2 (nt a) b' bw' bp' (nt v) = some (r, uI (uI t 204 0 0) 1381 0 0) := by
  obtain ⟨n0, hn0, g1, g2, g3⟩ := hI
  have en : n0 = n := by
    rw [g1, nt_inj (by omega) (by omega)] at h; exact h
  subst en
  have hu := pow_le n0 hn
  have e81 : tI (uI t 204 0 0) 1381 0 = nt n0 := by rw [I_uI_n (by decide)]; exact g2
  have hLu : Ilen (uI t 204 0 0) := Ilen_f (frm_uI rfl : frm (ks [204]) t _) hL
  intro m
  induction m with
  | zero =>
    intro v f1 f2 b bw bp b' bw' bp' hv h1 h2 hR
    obtain ⟨f1, rfl⟩ : ∃ k, f1 = k + 1 := ⟨f1 - 1, by omega⟩
    obtain ⟨f2, rfl⟩ : ∃ k, f2 = k + 1 := ⟨f2 - 1, by omega⟩
    refine ⟨b, ?_, ?_⟩
    · show BB_X2_takeBest_13 (B_X2_takeBest_13 f1) t _ _ _ _ _ _ _ = _
      unfold BB_X2_takeBest_13
      rw [g1, pow_b n0 hn, igE (by omega) (by omega), if_pos (by omega)]
      rfl
    · show BB_X13_buys_53 (B_X13_buys_53 f2) _ _ _ _ _ _ _ _ = _
      unfold BB_X13_buys_53
      rw [e81, pow_b n0 hn, igE (by omega) (by omega), if_pos (by omega)]
      unfold B_X13_buys_204
      rw [nxt_e]
      rcases hR with ⟨q1, q2, q3⟩ | ⟨k, q1, q2, q3, q4, q5⟩
      · rw [q1, q3, if_neg (by decide)]
      · rw [q2, q3, if_pos (nt_nn (by omega))]
  | succ m ih =>
    intro v f1 f2 b bw bp b' bw' bp' hv h1 h2 hR
    obtain ⟨f1, rfl⟩ : ∃ k, f1 = k + 1 := ⟨f1 - 1, by omega⟩
    obtain ⟨f2, rfl⟩ : ∃ k, f2 = k + 1 := ⟨f2 - 1, by omega⟩
    have hv1 : v < 2 ^ n0 := by omega
    have ct := cturn (B_X2_takeBest_13 f1) hL hn g1 hv1 ha x1 x2 b bw bp
    have mt := mturn (B_X13_buys_53 f2) hLu hn e81 hv1 ha x1 x2 b' bw' bp'
    have eA : ∀ k, tA (uI t 204 0 0) k = tA t k := fun _ => rfl
    have f0 : sb (tA t 2200 0) v n0 = sb (tA t 3382 0) v n0 := sb_cong n0 (fun k hk => (g3 k hk).1)
    have f1' : sb (tA t 2201 0) v n0 = sb (tA t 3385 0) v n0 := sb_cong n0 (fun k hk => (g3 k hk).2.1)
    have f2' : sb (tA t 2202 0) v n0 = sb (tA t 3383 0) v n0 := sb_cong n0 (fun k hk => (g3 k hk).2.2.1)
    have f3 : ∀ p, cpl (tA t 2203 0) v p n0 = cpl (tA t 3384 0) v p n0 := fun p => cntP_c n0 (fun k hk => by
      show (v.testBit k && decide (tA t 2203 0 k = nt p)) = (v.testBit k && decide (tA t 3384 0 k = nt p))
      rw [(g3 k hk).2.2.2.1])
    have ef : fitP (tA t 2200 0) (tA t 2202 0) (tA t 2203 0) v n0 x1 x2 a = fitP (tA t 3382 0) (tA t 3383 0) (tA t 3384 0) v n0 x1 x2 a := by
      unfold fitP plB
      rw [f0, f2', f3, f3, f3, f3]
    rw [ef, f0, f1'] at ct
    simp only [eA] at mt
    show ∃ r, BB_X2_takeBest_13 (B_X2_takeBest_13 f1) t _ _ _ _ _ _ _ = _ ∧ BB_X13_buys_53 (B_X13_buys_53 f2) _ _ _ _ _ _ _ _ = _
    obtain ⟨w, hw1, hw2⟩ := sb_nn v n0 (f := tA t 3385 0) (B := 99999) (fun k hk => (g3 k hk).2.2.2.2.2.2.2)
    have hbt : ∀ p, b < 0 → b' < 0 → bw = -1 → btr (sb (tA t 3385 0) v n0) p bw bp := fun p _ _ e3 => by
      refine Or.inl ?_
      rw [e3, hw2]
      exact Int32.lt_of_lt_of_le (by decide) (nt_nn (by have : 99999 * n0 ≤ 99999 * 10 := Nat.mul_le_mul_left _ hn; omega))
    by_cases c : fitP (tA t 3382 0) (tA t 3383 0) (tA t 3384 0) v n0 x1 x2 a ∧ btr (sb (tA t 3385 0) v n0) (sb (tA t 3382 0) v n0) bw bp
    · rw [ct.1 c]
      have c' : fitP (tA t 3382 0) (tA t 3383 0) (tA t 3384 0) v n0 x1 x2 a ∧ (b' < 0 ∨ btr (sb (tA t 3385 0) v n0) (sb (tA t 3382 0) v n0) bw' bp') := by
        rcases hR with ⟨q1, q2, q3⟩ | ⟨k, q1, q2, q3, q4, q5⟩
        · exact ⟨c.1, Or.inl (by rw [q3]; decide)⟩
        · exact ⟨c.1, Or.inr (by rw [q4, q5]; exact c.2)⟩
      rw [mt.1 c']
      exact ih (v + 1) f1 f2 _ _ _ _ _ _ (by omega) (by omega) (by omega) (Or.inr ⟨v, by omega, rfl, rfl, rfl, rfl⟩)
    · rw [ct.2 c]
      have c' : ¬ (fitP (tA t 3382 0) (tA t 3383 0) (tA t 3384 0) v n0 x1 x2 a ∧ (b' < 0 ∨ btr (sb (tA t 3385 0) v n0) (sb (tA t 3382 0) v n0) bw' bp')) := by
        intro q
        rcases hR with ⟨q1, q2, q3⟩ | ⟨k, q1, q2, q3, q4, q5⟩
        · exact c ⟨q.1, hbt _ (by rw [q1]; decide) (by rw [q3]; decide) q2⟩
        · rcases q.2 with q6 | q6
          · rw [q3] at q6; exact nt_neg (by omega) q6
          · rw [q4, q5] at q6; exact c ⟨q.1, q6⟩
      rw [mt.2 c']
      exact ih (v + 1) f1 f2 _ _ _ _ _ _ (by omega) (by omega) (by omega) hR
theorem m_buys (x1 x2 x3 : Int32) (hL : Ilen t) (hI : Ibuy t) : Eqm (F_X12_buys t x1 x2 x3) (fun t => F_X13_buys t x1 x2 x3) (fun t2 => Ibuy t2 ∧ frm (ks kBuy) t t2) := by
  have hbad : ∀ r, F_X12_buys t x1 x2 x3 = some (r, t) → F_X13_buys t x1 x2 x3 = some (r, t) → Eqm (F_X12_buys t x1 x2 x3) (fun t => F_X13_buys t x1 x2 x3) (fun t2 => Ibuy t2 ∧ frm (ks kBuy) t t2) := fun r h1 h2 => ⟨r, t, t, h1, h2, hI, frm_rf⟩
  have hI2 := hI
  obtain ⟨n, hn, e1, e2, e3⟩ := hI2
  have z1 : (nt n = 0) = (n = 0) := eq_nt (n := 0) (by omega) (by omega)
  by_cases h1 : 0 ≤ x1 ∧ x1 ≤ 9999999
  case neg => exact hbad (-1) (by simp only [F_X12_buys, win_eq, decide_eq_false h1, nxt_e, oc_s, oc_n, ob_s, ob2_s, gb_b1, gb_0, gb_1, gw0, gw1, Bool.false_eq_true, Bool.true_eq_false, if_true, if_false, not_true_eq_false, not_false_eq_true]) (by simp only [F_X13_buys, in_eq, decide_eq_false h1, nxt_e, oc_s, oc_n, ob_s, ob2_s, gb_b1, gb_0, gb_1, gw0, gw1, Bool.false_eq_true, Bool.true_eq_false, if_true, if_false, not_true_eq_false, not_false_eq_true, ite_self])
  by_cases h2 : 0 ≤ x2 ∧ x2 ≤ 109
  case neg => exact hbad (-1) (by simp only [F_X12_buys, win_eq, decide_eq_true h1, decide_eq_false h2, nxt_e, oc_s, oc_n, ob_s, ob2_s, gb_b1, gb_0, gb_1, gw0, gw1, Bool.false_eq_true, Bool.true_eq_false, if_true, if_false, not_true_eq_false, not_false_eq_true]) (by simp only [F_X13_buys, in_eq, decide_eq_true h1, decide_eq_false h2, nxt_e, oc_s, oc_n, ob_s, ob2_s, gb_b1, gb_0, gb_1, gw0, gw1, Bool.false_eq_true, Bool.true_eq_false, if_true, if_false, not_true_eq_false, not_false_eq_true, ite_self])
  by_cases h3 : 0 ≤ x3 ∧ x3 ≤ 9999
  case neg => exact hbad (-1) (by simp only [F_X12_buys, win_eq, decide_eq_true h1, decide_eq_true h2, decide_eq_false h3, nxt_e, oc_s, oc_n, ob_s, ob2_s, gb_b1, gb_0, gb_1, gw0, gw1, Bool.false_eq_true, Bool.true_eq_false, if_true, if_false, not_true_eq_false, not_false_eq_true]) (by simp only [F_X13_buys, in_eq, decide_eq_true h1, decide_eq_true h2, decide_eq_false h3, nxt_e, oc_s, oc_n, ob_s, ob2_s, gb_b1, gb_0, gb_1, gw0, gw1, Bool.false_eq_true, Bool.true_eq_false, if_true, if_false, not_true_eq_false, not_false_eq_true, ite_self])
  by_cases h4 : n = 0
  · have z2 : (nt n = 0) = True := eq_true (by rw [h4]; rfl)
    exact hbad (-1) (by simp only [F_X12_buys, win_eq, decide_eq_true h1, decide_eq_true h2, decide_eq_true h3, nxt_e, oc_s, oc_n, ob_s, ob2_s, gb_b1, gb_0, gb_1, gw0, gw1, Bool.false_eq_true, Bool.true_eq_false, if_true, if_false, not_true_eq_false, not_false_eq_true, e1, z2]) (by simp only [F_X13_buys, e2, z2, nxt_e, oc_s, oc_n, ob_s, ob2_s, gb_b1, gb_0, gb_1, gw0, gw1, Bool.false_eq_true, Bool.true_eq_false, if_true, if_false, not_true_eq_false, not_false_eq_true])
  obtain ⟨a, ha, rfl⟩ := nt_exb (b := 9999) h3.1 (by omega) h3.2
  obtain ⟨N, hN⟩ : ∃ N : Nat, N = 10000 := ⟨_, rfl⟩
  have hp := pow_le n hn
  obtain ⟨r, q1, q2⟩ := buys_lock hL hI hn e1 ha x1 x2 (2 ^ n) 0 N N (-2) (-1) 0 (-1) 0 0 (Nat.zero_add _) (by omega) (by omega) (Or.inl ⟨rfl, rfl, rfl⟩)
  rw [hN] at q1 q2
  refine ⟨r, uI t 204 0 0, uI (uI t 204 0 0) 1381 0 0, ?_, ?_, ⟨0, by omega, ?_, ?_, fun i hi => absurd hi (Nat.not_lt_zero i)⟩, frm_tr (frm_uI rfl) (frm_uI rfl)⟩
  · simp only [F_X12_buys, win_eq, decide_eq_true h1, decide_eq_true h2, decide_eq_true h3, nxt_e, oc_s, oc_n, ob_s, ob2_s, gb_b1, gb_0, gb_1, gw0, gw1, Bool.false_eq_true, Bool.true_eq_false, if_true, if_false, not_true_eq_false, not_false_eq_true, e1, z1, h4, F_X2_takeBest]
    rw [show (0 : Int32) = nt 0 from rfl] at *
    rw [q1, ob2_s]
  · show F_X13_buys (uI t 204 0 0) x1 x2 (nt a) = _
    have e81 : tI (uI t 204 0 0) 1381 0 = nt n := by rw [I_uI_n (by decide)]; exact e2
    simp only [F_X13_buys, in_eq, decide_eq_true h1, decide_eq_true h2, decide_eq_true h3, nxt_e, oc_s, oc_n, ob_s, ob2_s, gb_b1, gb_0, gb_1, gw0, gw1, Bool.false_eq_true, Bool.true_eq_false, if_true, if_false, not_true_eq_false, not_false_eq_true, e81, z1, h4]
    exact q2
  · simp (disch := omega) only [I_uI, I_uI_n, R_uR, R_uR_n, A_uA, A_uA_n, J_uJ, J_uJ_n, Q_uQ, Q_uQ_n, E_uO, E_uO_n, I_uO, I_uO_n, R_uO, R_uO_n, E_uN, E_uN_n, L_uN, L_uN_n, A_uN, A_uN_n, J_uN, J_uN_n, Q_uN, Q_uN_n, A_uCA, A_uCA_n, J_uCJ, J_uCJ_n, E_uI, R_uI, L_uI, A_uI, J_uI, Q_uI, E_uR, I_uR, L_uR, A_uR, J_uR, Q_uR, E_uA, I_uA, R_uA, L_uA, J_uA, Q_uA, E_uJ, I_uJ, R_uJ, L_uJ, A_uJ, Q_uJ, E_uQ, I_uQ, R_uQ, L_uQ, A_uQ, J_uQ, L_uO, A_uO, J_uO, Q_uO, I_uN, R_uN, E_uCA, I_uCA, R_uCA, L_uCA, J_uCA, Q_uCA, E_uCJ, I_uCJ, R_uCJ, L_uCJ, A_uCJ, Q_uCJ, m1_s]; rfl
  · simp (disch := omega) only [I_uI, I_uI_n, R_uR, R_uR_n, A_uA, A_uA_n, J_uJ, J_uJ_n, Q_uQ, Q_uQ_n, E_uO, E_uO_n, I_uO, I_uO_n, R_uO, R_uO_n, E_uN, E_uN_n, L_uN, L_uN_n, A_uN, A_uN_n, J_uN, J_uN_n, Q_uN, Q_uN_n, A_uCA, A_uCA_n, J_uCJ, J_uCJ_n, E_uI, R_uI, L_uI, A_uI, J_uI, Q_uI, E_uR, I_uR, L_uR, A_uR, J_uR, Q_uR, E_uA, I_uA, R_uA, L_uA, J_uA, Q_uA, E_uJ, I_uJ, R_uJ, L_uJ, A_uJ, Q_uJ, E_uQ, I_uQ, R_uQ, L_uQ, A_uQ, J_uQ, L_uO, A_uO, J_uO, Q_uO, I_uN, R_uN, E_uCA, I_uCA, R_uCA, L_uCA, J_uCA, Q_uCA, E_uCJ, I_uCJ, R_uCJ, L_uCJ, A_uCJ, Q_uCJ, m1_s]; rfl
end
