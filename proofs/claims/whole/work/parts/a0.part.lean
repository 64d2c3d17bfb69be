/-! PART a0: part, the method. -/
section
variable {t : TS} {n a : Nat} {rk cf : Nat → Nat}
theorem gtR_0 {r i : Nat} (h : ¬ rk i = r) : gtR rk cf n a r i = 0 := by
  unfold gtR
  by_cases e : sN (qR rk cf r) n = 0
  · rw [if_pos e]
  · rw [if_neg e]
    exact pr_0 (by omega) (if_neg h)
theorem cp_all (hn : n ≤ 12) (ha : a ≤ 9999999) : ∀ d r, r + d = 4 → ∀ N u, d < N → Ilen u → tI u 302 0 = nt n → (∀ i, i < n → tA u 2300 0 i = nt (rk i) ∧ rk i < 4 ∧ tA u 2301 0 i = nt (cf i) ∧ cf i ≤ 999999) → (∀ i, i < n → tA u 2303 0 i = if rk i < r then nt (gtR rk cf n a (rk i) i) else 0) → ∃ v, B_X3_pay_27 N u (nt a) (nt (lfR rk cf n a r)) (nt r) = B_X3_pay_130 v (nt a) (nt (lfR rk cf n a 4)) ∧ frm (ks [2303, 2305]) u v ∧ ∀ i, i < n → tA v 2303 0 i = nt (gtR rk cf n a (rk i) i) := by
  intro d
  induction d with
  | zero =>
    intro r hr N u hN hL h302 hq hz
    obtain ⟨N, rfl⟩ : ∃ k, N = k + 1 := ⟨N - 1, by omega⟩
    have er : r = 4 := by omega
    subst er
    refine ⟨u, ?_, frm_rf, fun i hi => by rw [hz i hi, if_pos (hq i hi).2.1]⟩
    show BB_X3_pay_27 (B_X3_pay_27 N) u _ _ _ = _
    unfold BB_X3_pay_27
    rw [if_pos (by decide)]
  | succ d ih =>
    intro r hr N u hN hL h302 hq hz
    obtain ⟨N, rfl⟩ : ∃ k, N = k + 1 := ⟨N - 1, by omega⟩
    have hr4 : r < 4 := by omega
    obtain ⟨v, a1, a2, a3⟩ := cp_rank (t := u) (a := a) (rk := rk) (cf := cf) (B_X3_pay_27 N) hL hn h302 hq (nt a) ha hr4
    obtain ⟨w, b1_, b2, b3⟩ := ih (r + 1) (by omega) N v (by omega) (Ilen_f a2 hL) (by rw [(a2.1 302 rfl).2.1]; exact h302) (fun i hi => by rw [(a2.1 2300 rfl).2.2.2.2.1, (a2.1 2301 rfl).2.2.2.2.1]; exact hq i hi) (fun i hi => by
      rw [a3 i hi, hz i hi]
      by_cases c : rk i = r
      · rw [if_neg (by omega), if_pos (by omega), c, Int32.zero_add]
      · rw [gtR_0 c, show nt 0 = 0 from rfl, Int32.add_zero]
        by_cases c2 : rk i < r
        · rw [if_pos c2, if_pos (by omega)]
        · rw [if_neg c2, if_neg (by omega)])
    refine ⟨w, ?_, frm_tr a2 b2, b3⟩
    rw [← b1_]
    show BB_X3_pay_27 (B_X3_pay_27 N) u _ _ _ = _
    unfold BB_X3_pay_27
    rw [if_neg (by rw [show ((3 : Int32) < nt r) = (3 < r) from lt_nt (k := 3) (by omega) (by omega)]; omega), a1]
theorem mp_all (hn : n ≤ 12) (ha : a ≤ 9999999) : ∀ d r, r + d = 4 → ∀ N u, d < N → Ilen u → tI u 1386 0 = nt n → (∀ i, i < n → tA u 3387 0 i = nt (rk i) ∧ rk i < 4 ∧ tA u 3388 0 i = nt (cf i) ∧ 1 ≤ cf i ∧ cf i ≤ 999999) → (∀ i, i < n → rk i < r → tA u 3389 0 i = nt (gtR rk cf n a (rk i) i)) → ∃ v, B_X13_part_26 N u (nt a) (jn (lfR rk cf n a r)) (nt r) = B_X13_part_320 v (nt a) (jn (lfR rk cf n a 4)) ∧ oA 3389 0 u v ∧ ∀ i, i < n → tA v 3389 0 i = nt (gtR rk cf n a (rk i) i) := by
  intro d
  induction d with
  | zero =>
    intro r hr N u hN hL h86 hq hz
    obtain ⟨N, rfl⟩ : ∃ k, N = k + 1 := ⟨N - 1, by omega⟩
    have er : r = 4 := by omega
    subst er
    refine ⟨u, ?_, oA_rf, fun i hi => hz i hi (hq i hi).2.1⟩
    show BB_X13_part_26 (B_X13_part_26 N) u _ _ _ = _
    unfold BB_X13_part_26
    rw [if_pos (by decide)]
  | succ d ih =>
    intro r hr N u hN hL h86 hq hz
    obtain ⟨N, rfl⟩ : ∃ k, N = k + 1 := ⟨N - 1, by omega⟩
    have hr4 : r < 4 := by omega
    obtain ⟨v, a1, a2, a3⟩ := mp_rank (t := u) (a := a) (rk := rk) (cf := cf) (B_X13_part_26 N) hL hn h86 hq (nt a) ha hr4
    have h87 : tA v 3387 = tA u 3387 := a2.2.2.2.2.2.2.1 3387 (by decide)
    have h88 : tA v 3388 = tA u 3388 := a2.2.2.2.2.2.2.1 3388 (by decide)
    obtain ⟨w, b1_, b2, b3⟩ := ih (r + 1) (by omega) N v (by omega) (Ilen_f (oA_f (D := ks [3389]) a2 rfl) hL) (by rw [a2.2.1]; exact h86) (fun i hi => by rw [h87, h88]; exact hq i hi) (fun i hi hc => by
      rw [a3 i]
      by_cases c : rk i = r
      · rw [if_pos ⟨hi, c⟩, c]
      · rw [if_neg (fun q => c q.2)]
        exact hz i hi (by omega))
    refine ⟨w, ?_, oA_tr a2 b2, b3⟩
    rw [← b1_]
    show BB_X13_part_26 (B_X13_part_26 N) u _ _ _ = _
    unfold BB_X13_part_26
    rw [if_neg (by rw [show ((4 : Int32) ≤ nt r) = (4 ≤ r) from ge_nt (n := 4) (by omega) (by omega)]; omega), show (0 : Int64) = jn 0 from rfl] at *
    exact a1
theorem cp_zero (hL : Ilen t) (hn : n ≤ 12) (h302 : tI t 302 0 = nt n) (x : Int32) : ∃ u, F_X3_pay t x = B_X3_pay_27 10000 u x x 0 ∧ oA 2303 0 t u ∧ ∀ j, j < n → tA u 2303 0 j = 0 := by
  unfold F_X3_pay
  have hst : ∀ u, B_X3_pay_25 u x x = B_X3_pay_27 10000 u x x 0 := fun _ => rfl
  obtain ⟨N, hN⟩ : ∃ N : Nat, N = 10000 := ⟨_, rfl⟩
  rw [← hN] at hst ⊢
  refine loop_wh (B := fun fu (y : Nat × TS) => B_X3_pay_4 fu y.2 x x (nt y.1)) (mu := fun y => n - y.1) (G := fun o => ∃ u, o = B_X3_pay_27 N u x x 0 ∧ oA 2303 0 t u ∧ ∀ j, j < n → tA u 2303 0 j = 0) (P := fun y => y.1 ≤ n ∧ oA 2303 0 t y.2 ∧ ∀ j, j < y.1 → tA y.2 2303 0 j = 0) ?_ N (0, t) ⟨Nat.zero_le _, oA_rf, fun j hj => absurd hj (Nat.not_lt_zero j)⟩ (by show n - 0 < N; omega)
  intro fu y hy
  obtain ⟨i, u⟩ := y
  have hi : i ≤ n := hy.1
  have h : oA 2303 0 t u := hy.2.1
  have hz : ∀ j, j < i → tA u 2303 0 j = 0 := hy.2.2
  show (∃ u', BB_X3_pay_4 (B_X3_pay_4 fu) u x x (nt i) = _ ∧ _) ∨ ∃ a', BB_X3_pay_4 (B_X3_pay_4 fu) u x x (nt i) = _ ∧ _
  have hLu : Ilen u := Ilen_f (oA_f (D := ks [2303]) h rfl) hL
  have h302u : tI u 302 0 = nt n := by rw [h.2.1]; exact h302
  unfold BB_X3_pay_4
  rw [h302u, igE (by omega) (by omega)]
  by_cases e : i = n
  · left
    rw [if_pos (by omega), hst]
    rw [e] at hz
    exact ⟨u, rfl, h, hz⟩
  right
  refine ⟨(i + 1, uA u 2303 0 i 0), ?_, ⟨by show i + 1 ≤ n; omega, oA_uA h, fun j hj => ?_⟩, by show n - (i + 1) < n - i; omega⟩
  · rw [if_neg (by omega), (show tL _ 2303 0 = 12 from hLu 2303 rfl), gd_nt _ (by omega) (by omega), nxt_e, nt_cl (by omega), nt_succ]
  · show tA (uA u 2303 0 i 0) 2303 0 j = _
    rw [A_uA, m1_s]
    by_cases c : j = i
    · subst c; rw [m1_s]
    · have : j < i + 1 := hj
      rw [m1_n c, hz j (by omega)]
theorem m_part (x1 : Int32) (hL : Ilen t) (hI : Iclm t) : Eqm (F_X12_part t x1) (fun t => F_X13_part t x1) (fun t2 => Iclm t2 ∧ frm (ks kClm) t t2) := by
  have hbad : ∀ r, F_X12_part t x1 = some (r, t) → F_X13_part t x1 = some (r, t) → Eqm (F_X12_part t x1) (fun t => F_X13_part t x1) (fun t2 => Iclm t2 ∧ frm (ks kClm) t t2) := fun r h1 h2 => ⟨r, t, t, h1, h2, hI, frm_rf⟩
  have hI2 := hI
  obtain ⟨⟨n, hn, e1, e2, e3⟩, hg⟩ := hI2
  by_cases h1 : 0 ≤ x1 ∧ x1 ≤ 9999999
  case neg => exact hbad (-1) (by simp only [F_X12_part, win_eq, decide_eq_false h1, nxt_e, oc_s, oc_n, ob_s, ob2_s, gb_b1, gb_0, gb_1, gw0, gw1, Bool.false_eq_true, Bool.true_eq_false, if_true, if_false, not_true_eq_false, not_false_eq_true]) (by simp only [F_X13_part, in_eq, decide_eq_false h1, nxt_e, oc_s, oc_n, ob_s, ob2_s, gb_b1, gb_0, gb_1, gw0, gw1, Bool.false_eq_true, Bool.true_eq_false, if_true, if_false, not_true_eq_false, not_false_eq_true, ite_self])
  by_cases h0 : n = 0
  · have z2 : (nt n = 0) = True := eq_true (by rw [h0]; rfl)
    exact hbad (-1) (by simp only [F_X12_part, win_eq, decide_eq_true h1, nxt_e, oc_s, oc_n, ob_s, ob2_s, gb_b1, gb_0, gb_1, gw0, gw1, Bool.false_eq_true, Bool.true_eq_false, if_true, if_false, not_true_eq_false, not_false_eq_true, e1, z2]) (by simp only [F_X13_part, e2, z2, nxt_e, oc_s, oc_n, ob_s, ob2_s, gb_b1, gb_0, gb_1, gw0, gw1, Bool.false_eq_true, Bool.true_eq_false, if_true, if_false, not_true_eq_false, not_false_eq_true])
  have z1 : (nt n = 0) = False := eq_false (fun q => h0 ((nt_inj (b := 0) (by omega) (by omega)).mp q))
  obtain ⟨a, ha, rfl⟩ := nt_exb (b := 9999999) h1.1 (by omega) h1.2
  obtain ⟨rk, hrk⟩ : ∃ rk : Nat → Nat, rk = fun i => (tA t 3387 0 i).toNatClampNeg := ⟨_, rfl⟩
  obtain ⟨cf, hcf⟩ : ∃ cf : Nat → Nat, cf = fun i => (tA t 3388 0 i).toNatClampNeg := ⟨_, rfl⟩
  have hq : ∀ i, i < n → tA t 3387 0 i = nt (rk i) ∧ rk i < 4 ∧ tA t 3388 0 i = nt (cf i) ∧ 1 ≤ cf i ∧ cf i ≤ 999999 := by
    intro i hi
    obtain ⟨-, -, ⟨r, hr, q1⟩, c, hc1, hc2, q2⟩ := e3 i hi
    have er : rk i = r := by
      rw [hrk]
      show (tA t 3387 0 i).toNatClampNeg = r
      rw [q1, nt_cl (by omega)]
    have ec : cf i = c := by
      rw [hcf]
      show (tA t 3388 0 i).toNatClampNeg = c
      rw [q2, nt_cl (by omega)]
    rw [er, ec]
    exact ⟨q1, hr, q2, hc1, hc2⟩
  obtain ⟨N, hN⟩ : ∃ N : Nat, N = 10000 := ⟨_, rfl⟩
  obtain ⟨u0, a1, a2, a3⟩ := cp_zero hL hn e1 (nt a)
  have f0 : frm (ks [2303, 2305]) t u0 := oA_f a2 rfl
  obtain ⟨u1, b1_, b2, b3⟩ := cp_all (rk := rk) (cf := cf) hn ha 4 0 rfl N u0 (by omega) (Ilen_f f0 hL) (by rw [a2.2.1]; exact e1) (fun i hi => by
    rw [(f0.1 2300 rfl).2.2.2.2.1.trans rfl, (f0.1 2301 rfl).2.2.2.2.1.trans rfl, (e3 i hi).1, (e3 i hi).2.1]
    obtain ⟨q1, q2, q3, q4, q5⟩ := hq i hi
    exact ⟨q1, q2, q3, q5⟩) (fun i hi => by rw [a3 i hi, if_neg (Nat.not_lt_zero _)])
  have hl4 := lfR_le (rk := rk) (cf := cf) (n := n) (a := a) 4
  have hf1 : frm (ks [2303, 2305]) t u1 := frm_tr f0 b2
  obtain ⟨t1, ht1⟩ : ∃ t1, t1 = uI (uI u1 304 0 (nt n)) 302 0 0 := ⟨_, rfl⟩
  have hf : frm (ks [302, 304, 2303, 2305]) t t1 := by
    rw [ht1]
    exact frm_tr (frm_sb hf1 (ks_sb rfl)) (frm_tr (frm_uI rfl) (frm_uI rfl))
  have g1 : tA t1 2303 = tA u1 2303 := by rw [ht1]; rfl
  have g2 : tI t1 304 0 = nt n := by rw [ht1]; simp (disch := omega) only [I_uI, I_uI_n, R_uR, R_uR_n, A_uA, A_uA_n, J_uJ, J_uJ_n, Q_uQ, Q_uQ_n, E_uO, E_uO_n, I_uO, I_uO_n, R_uO, R_uO_n, E_uN, E_uN_n, L_uN, L_uN_n, A_uN, A_uN_n, J_uN, J_uN_n, Q_uN, Q_uN_n, A_uCA, A_uCA_n, J_uCJ, J_uCJ_n, E_uI, R_uI, L_uI, A_uI, J_uI, Q_uI, E_uR, I_uR, L_uR, A_uR, J_uR, Q_uR, E_uA, I_uA, R_uA, L_uA, J_uA, Q_uA, E_uJ, I_uJ, R_uJ, L_uJ, A_uJ, Q_uJ, E_uQ, I_uQ, R_uQ, L_uQ, A_uQ, J_uQ, L_uO, A_uO, J_uO, Q_uO, I_uN, R_uN, E_uCA, I_uCA, R_uCA, L_uCA, J_uCA, Q_uCA, E_uCJ, I_uCJ, R_uCJ, L_uCJ, A_uCJ, Q_uCJ, m1_s]
  have g3_ : tI t1 302 0 = 0 := by rw [ht1]; simp (disch := omega) only [I_uI, I_uI_n, R_uR, R_uR_n, A_uA, A_uA_n, J_uJ, J_uJ_n, Q_uQ, Q_uQ_n, E_uO, E_uO_n, I_uO, I_uO_n, R_uO, R_uO_n, E_uN, E_uN_n, L_uN, L_uN_n, A_uN, A_uN_n, J_uN, J_uN_n, Q_uN, Q_uN_n, A_uCA, A_uCA_n, J_uCJ, J_uCJ_n, E_uI, R_uI, L_uI, A_uI, J_uI, Q_uI, E_uR, I_uR, L_uR, A_uR, J_uR, Q_uR, E_uA, I_uA, R_uA, L_uA, J_uA, Q_uA, E_uJ, I_uJ, R_uJ, L_uJ, A_uJ, Q_uJ, E_uQ, I_uQ, R_uQ, L_uQ, A_uQ, J_uQ, L_uO, A_uO, J_uO, Q_uO, I_uN, R_uN, E_uCA, I_uCA, R_uCA, L_uCA, J_uCA, Q_uCA, E_uCJ, I_uCJ, R_uCJ, L_uCJ, A_uCJ, Q_uCJ, m1_s]
  have hL1 := Ilen_f hf hL
  have e86 : tI t1 1386 0 = nt n := by rw [(hf.1 1386 rfl).2.1]; exact e2
  obtain ⟨u2, c1, c2, c3⟩ := mp_all (rk := rk) (cf := cf) hn ha 4 0 rfl N t1 (by omega) hL1 e86 (fun i hi => by rw [(hf.1 3387 rfl).2.2.2.2.1, (hf.1 3388 rfl).2.2.2.2.1]; exact hq i hi) (fun i hi hc => absurd hc (Nat.not_lt_zero _))
  have hf2 : frm (ks [3389]) t1 u2 := oA_f c2 rfl
  refine ⟨nt (a - lfR rk cf n a 4), t1, uI (uI u2 1390 0 (nt n)) 1386 0 0, ?_, ?_, ⟨⟨0, by omega, ?_, ?_, fun i hi => absurd hi (Nat.not_lt_zero i)⟩, n, hn, ?_, Or.inl ?_, fun i hi => ?_⟩, ?_⟩
  · simp only [F_X12_part, win_eq, decide_eq_true h1, nxt_e, oc_s, oc_n, ob_s, ob2_s, gb_b1, gb_0, gb_1, gw0, gw1, Bool.false_eq_true, Bool.true_eq_false, if_true, if_false, not_true_eq_false, not_false_eq_true, e1, z1]
    rw [a1, ← hN]
    show ob2 (B_X3_pay_27 N u0 (nt a) (nt (lfR rk cf n a 0)) (nt 0)) _ = _
    rw [b1_]
    unfold B_X3_pay_130
    rw [show tI u1 302 0 = nt n by rw [(hf1.1 302 rfl).2.1]; exact e1, nxt_e, nxt_e, ob2_s, nt_sub hl4, ht1]
  · show F_X13_part t1 (nt a) = _
    simp only [F_X13_part, in_eq, decide_eq_true h1, nxt_e, oc_s, oc_n, ob_s, ob2_s, gb_b1, gb_0, gb_1, gw0, gw1, Bool.false_eq_true, Bool.true_eq_false, if_true, if_false, not_true_eq_false, not_false_eq_true, e86, z1]
    rw [← hN, nt_jn (by omega)]
    show B_X13_part_26 N t1 (nt a) (jn (lfR rk cf n a 0)) (nt 0) = _
    rw [c1]
    unfold B_X13_part_320
    rw [show tI u2 1386 0 = nt n by rw [c2.2.1]; exact e86, nxt_e, nxt_e, nt_jn (by omega), jn_sub hl4, jn_nt]
  · simp (disch := omega) only [I_uI, I_uI_n, R_uR, R_uR_n, A_uA, A_uA_n, J_uJ, J_uJ_n, Q_uQ, Q_uQ_n, E_uO, E_uO_n, I_uO, I_uO_n, R_uO, R_uO_n, E_uN, E_uN_n, L_uN, L_uN_n, A_uN, A_uN_n, J_uN, J_uN_n, Q_uN, Q_uN_n, A_uCA, A_uCA_n, J_uCJ, J_uCJ_n, E_uI, R_uI, L_uI, A_uI, J_uI, Q_uI, E_uR, I_uR, L_uR, A_uR, J_uR, Q_uR, E_uA, I_uA, R_uA, L_uA, J_uA, Q_uA, E_uJ, I_uJ, R_uJ, L_uJ, A_uJ, Q_uJ, E_uQ, I_uQ, R_uQ, L_uQ, A_uQ, J_uQ, L_uO, A_uO, J_uO, Q_uO, I_uN, R_uN, E_uCA, I_uCA, R_uCA, L_uCA, J_uCA, Q_uCA, E_uCJ, I_uCJ, R_uCJ, L_uCJ, A_uCJ, Q_uCJ, m1_s]
    rw [(hf2.1 302 rfl).2.1, g3_]; rfl
  · simp (disch := omega) only [I_uI, I_uI_n, R_uR, R_uR_n, A_uA, A_uA_n, J_uJ, J_uJ_n, Q_uQ, Q_uQ_n, E_uO, E_uO_n, I_uO, I_uO_n, R_uO, R_uO_n, E_uN, E_uN_n, L_uN, L_uN_n, A_uN, A_uN_n, J_uN, J_uN_n, Q_uN, Q_uN_n, A_uCA, A_uCA_n, J_uCJ, J_uCJ_n, E_uI, R_uI, L_uI, A_uI, J_uI, Q_uI, E_uR, I_uR, L_uR, A_uR, J_uR, Q_uR, E_uA, I_uA, R_uA, L_uA, J_uA, Q_uA, E_uJ, I_uJ, R_uJ, L_uJ, A_uJ, Q_uJ, E_uQ, I_uQ, R_uQ, L_uQ, A_uQ, J_uQ, L_uO, A_uO, J_uO, Q_uO, I_uN, R_uN, E_uCA, I_uCA, R_uCA, L_uCA, J_uCA, Q_uCA, E_uCJ, I_uCJ, R_uCJ, L_uCJ, A_uCJ, Q_uCJ, m1_s]; rfl
  · simp (disch := omega) only [I_uI, I_uI_n, R_uR, R_uR_n, A_uA, A_uA_n, J_uJ, J_uJ_n, Q_uQ, Q_uQ_n, E_uO, E_uO_n, I_uO, I_uO_n, R_uO, R_uO_n, E_uN, E_uN_n, L_uN, L_uN_n, A_uN, A_uN_n, J_uN, J_uN_n, Q_uN, Q_uN_n, A_uCA, A_uCA_n, J_uCJ, J_uCJ_n, E_uI, R_uI, L_uI, A_uI, J_uI, Q_uI, E_uR, I_uR, L_uR, A_uR, J_uR, Q_uR, E_uA, I_uA, R_uA, L_uA, J_uA, Q_uA, E_uJ, I_uJ, R_uJ, L_uJ, A_uJ, Q_uJ, E_uQ, I_uQ, R_uQ, L_uQ, A_uQ, J_uQ, L_uO, A_uO, J_uO, Q_uO, I_uN, R_uN, E_uCA, I_uCA, R_uCA, L_uCA, J_uCA, Q_uCA, E_uCJ, I_uCJ, R_uCJ, L_uCJ, A_uCJ, Q_uCJ, m1_s]
    rw [(hf2.1 304 rfl).2.1, g2]
  · simp (disch := omega) only [I_uI, I_uI_n, R_uR, R_uR_n, A_uA, A_uA_n, J_uJ, J_uJ_n, Q_uQ, Q_uQ_n, E_uO, E_uO_n, I_uO, I_uO_n, R_uO, R_uO_n, E_uN, E_uN_n, L_uN, L_uN_n, A_uN, A_uN_n, J_uN, J_uN_n, Q_uN, Q_uN_n, A_uCA, A_uCA_n, J_uCJ, J_uCJ_n, E_uI, R_uI, L_uI, A_uI, J_uI, Q_uI, E_uR, I_uR, L_uR, A_uR, J_uR, Q_uR, E_uA, I_uA, R_uA, L_uA, J_uA, Q_uA, E_uJ, I_uJ, R_uJ, L_uJ, A_uJ, Q_uJ, E_uQ, I_uQ, R_uQ, L_uQ, A_uQ, J_uQ, L_uO, A_uO, J_uO, Q_uO, I_uN, R_uN, E_uCA, I_uCA, R_uCA, L_uCA, J_uCA, Q_uCA, E_uCJ, I_uCJ, R_uCJ, L_uCJ, A_uCJ, Q_uCJ, m1_s]
  · show tA u2 2303 0 i = tA u2 3389 0 i
    rw [(hf2.1 2303 rfl).2.2.2.2.1, g1, b3 i hi, c3 i hi]
  · exact frm_tr (frm_sb hf (ks_sb rfl)) (frm_tr (frm_sb hf2 (ks_sb rfl)) (frm_tr (frm_uI rfl) (frm_uI rfl)))
end
