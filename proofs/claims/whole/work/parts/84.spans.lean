/-! PART 84: spans. -/
theorem bm_i6 {a : Int} (h1 : -9223372036854775808 ≤ a) (h2 : a < 9223372036854775808) : a.bmod (2 ^ 64) = a := by
  unfold Int.bmod
  have h3 : ((2 ^ 64 : Nat) : Int) = 18446744073709551616 := by decide
  rw [h3]
  by_cases h : 0 ≤ a
  · rw [Int.emod_eq_of_lt h (by omega), if_pos (by omega)]
  · have h4 : a % 18446744073709551616 = a + 18446744073709551616 := by omega
    rw [h4, if_neg (by omega)]
    omega
theorem lj_add {x y : Int64} (h1 : -9223372036854775808 ≤ x.toInt + y.toInt) (h2 : x.toInt + y.toInt < 9223372036854775808) : (x + y).toInt = x.toInt + y.toInt := by rw [Int64.toInt_add]; exact bm_i6 h1 h2
theorem lc_lt (x y : Int64) : (lg_cmp x y < 0) = (x.toInt < y.toInt) := by
  unfold lg_cmp
  by_cases h : x > y
  · have h' := Int64.lt_iff_toInt_lt.mp h
    rw [if_pos h]; exact propext ⟨fun q => absurd q (by decide), fun q => by omega⟩
  · have h' : ¬ y.toInt < x.toInt := fun q => h (Int64.lt_iff_toInt_lt.mpr q)
    rw [if_neg h]
    by_cases e : x = y
    · rw [if_pos e, e]; exact propext ⟨fun q => absurd q (by decide), fun q => by omega⟩
    · have e' : ¬ x.toInt = y.toInt := fun q => e (Int64.toInt_inj.mp q)
      rw [if_neg e]; exact propext ⟨fun _ => by omega, fun _ => by decide⟩
theorem lc_ge (x y : Int64) : (0 ≤ lg_cmp x y) = (y.toInt ≤ x.toInt) := by
  have h := lc_lt x y
  exact propext ⟨fun q => by
    have h2 : ¬ x.toInt < y.toInt := by rw [← h]; exact Int32.not_lt.mpr q
    omega, fun q => by
    have h2 : ¬ lg_cmp x y < 0 := by rw [h]; omega
    exact Int32.not_lt.mp h2⟩
theorem ls_int {x : Int32} {k : Nat} (hk : k < 1000) : (x.toInt64 + (3 * nt k).toInt64).toInt = x.toInt + 3 * k := by
  have e : (3 : Int32) * nt k = nt (3 * k) := by rw [show (3 : Int32) = nt 3 from rfl, nt_mul]
  have hb := ni_bd x
  have h1 : ((3 : Int32) * nt k).toInt64.toInt = 3 * (k : Int) := by rw [Int32.toInt_toInt64, e, nt_int (by omega)]; omega
  rw [lj_add (by rw [h1, Int32.toInt_toInt64]; omega) (by rw [h1, Int32.toInt_toInt64]; omega), h1, Int32.toInt_toInt64]
theorem ls_int2 {x : Int32} {k : Nat} (hk : k < 1000) : (x.toInt64 + (3 * nt k).toInt64 + 2).toInt = x.toInt + 3 * k + 2 := by
  have hb := ni_bd x
  have h2 : (2 : Int64).toInt = 2 := rfl
  rw [lj_add (by rw [ls_int hk, h2]; omega) (by rw [ls_int hk, h2]; omega), ls_int hk, h2]
theorem ls_i32 {a k : Nat} (ha : a < 1000) (hk : k < 1000) : ((nt a).toInt64 + (3 * nt k).toInt64).toInt32 = nt (a + 3 * k) := by
  refine Int32.toInt_inj.mp ?_
  have h1 := nt_int (a := a) (by omega)
  rw [Int64.toInt_toInt32, ls_int hk, h1, nt_int (by omega), bm_id (by omega) (by omega)]
  omega
section
variable {t : TS} {nB nS nM p s n k : Nat} {x : Int32}
def isTh (t : TS) (s n : Nat) : Prop := (n = 0 ∧ tI t 1000 s = 0 ∧ tA t 3393 0 s = -1) ∨ isRow t s 1 n
theorem isTh_f {D : Nat → Bool} {t' : TS} (h : frm D t t') (hd : ∀ k, k ∈ kShelf → D k = false) : isTh t' s n = isTh t s n := by
  unfold isTh isRow
  simp only [(h.1 1000 (hd 1000 (by decide))).2.1, (h.1 1001 (hd 1001 (by decide))).2.2.1, (h.1 1002 (hd 1002 (by decide))).2.1, (h.1 1003 (hd 1003 (by decide))).2.1, (h.1 3004 (hd 3004 (by decide))).2.2.2.2.2.1, (h.1 3393 (hd 3393 (by decide))).2.2.2.2.1, (h.1 3394 (hd 3394 (by decide))).2.2.2.2.1, (h.1 3395 (hd 3395 (by decide))).2.2.2.2.2.1]
def el (t : TS) (s j : Nat) : Int32 := (tJ t 3395 0 (60 * s + j)).toInt32
def g3 (t : TS) (nB s n : Nat) (x : Int32) (k : Nat) : Option (Nat × Int32 × Int32) :=
  if 0 ≤ x ∧ x.toNatClampNeg + 3 * k + 3 ≤ n then
    oel (six isCl t nB (el t s (x.toNatClampNeg + 3 * k))) none (fun c => if (-9999 ≤ el t s (x.toNatClampNeg + 3 * k + 1) ∧ el t s (x.toNatClampNeg + 3 * k + 1) ≤ 0) ∧ (el t s (x.toNatClampNeg + 3 * k + 1) ≤ el t s (x.toNatClampNeg + 3 * k + 2) ∧ el t s (x.toNatClampNeg + 3 * k + 2) ≤ 0) then some (c, el t s (x.toNatClampNeg + 3 * k + 1), el t s (x.toNatClampNeg + 3 * k + 2)) else none)
  else none
theorem g3_f {D : Nat → Bool} {t' : TS} (h : frm D t t') (hd : ∀ k, k ∈ [3308, 3395] → D k = false) : g3 t' nB s n x k = g3 t nB s n x k := by
  unfold g3 el six
  simp only [(h.1 3308 (hd 3308 (by decide))).2.2.2.2.1, (h.1 3395 (hd 3395 (by decide))).2.2.2.2.2.1]
def sel {α : Type} (o : Option (Nat × Int32 × Int32)) (d : α) (f : Nat → Int32 → Int32 → α) : α := match o with
  | none => d
  | some q => f q.1 q.2.1 q.2.2
theorem sel_n {α : Type} (d : α) (f : Nat → Int32 → Int32 → α) : sel none d f = d := rfl
theorem sel_s {α : Type} (c : Nat) (a b : Int32) (d : α) (f : Nat → Int32 → Int32 → α) : sel (some (c, a, b)) d f = f c a b := rfl
theorem addSpan_c0 {c : Nat} {so fr to : Int32} (h205 : tI t 1205 0 = nt nS) (hE : tE t 11 nS = false) (h : nS < 600) : F_X12_addSpan t (some p) (some c) so fr to = some (some nS, cS t p c nS so fr to) := by
  have e110 : tR (cS0 t c nS so fr to) 110 p = tR t 110 p := by simp (disch := omega) only [cS0, I_uI, I_uI_n, R_uR, R_uR_n, A_uA, A_uA_n, J_uJ, J_uJ_n, Q_uQ, Q_uQ_n, E_uO, E_uO_n, I_uO, I_uO_n, R_uO, R_uO_n, E_uN, E_uN_n, L_uN, L_uN_n, A_uN, A_uN_n, J_uN, J_uN_n, Q_uN, Q_uN_n, A_uCA, A_uCA_n, J_uCJ, J_uCJ_n, E_uI, R_uI, L_uI, A_uI, J_uI, Q_uI, E_uR, I_uR, L_uR, A_uR, J_uR, Q_uR, E_uA, I_uA, R_uA, L_uA, J_uA, Q_uA, E_uJ, I_uJ, R_uJ, L_uJ, A_uJ, Q_uJ, E_uQ, I_uQ, R_uQ, L_uQ, A_uQ, J_uQ, L_uO, A_uO, J_uO, Q_uO, I_uN, R_uN, E_uCA, I_uCA, R_uCA, L_uCA, J_uCA, Q_uCA, E_uCJ, I_uCJ, R_uCJ, L_uCJ, A_uCJ, Q_uCJ, m1_s]
  have e111 : tI (cS0 t c nS so fr to) 111 p = tI t 111 p := by simp (disch := omega) only [cS0, I_uI, I_uI_n, R_uR, R_uR_n, A_uA, A_uA_n, J_uJ, J_uJ_n, Q_uQ, Q_uQ_n, E_uO, E_uO_n, I_uO, I_uO_n, R_uO, R_uO_n, E_uN, E_uN_n, L_uN, L_uN_n, A_uN, A_uN_n, J_uN, J_uN_n, Q_uN, Q_uN_n, A_uCA, A_uCA_n, J_uCJ, J_uCJ_n, E_uI, R_uI, L_uI, A_uI, J_uI, Q_uI, E_uR, I_uR, L_uR, A_uR, J_uR, Q_uR, E_uA, I_uA, R_uA, L_uA, J_uA, Q_uA, E_uJ, I_uJ, R_uJ, L_uJ, A_uJ, Q_uJ, E_uQ, I_uQ, R_uQ, L_uQ, A_uQ, J_uQ, L_uO, A_uO, J_uO, Q_uO, I_uN, R_uN, E_uCA, I_uCA, R_uCA, L_uCA, J_uCA, Q_uCA, E_uCJ, I_uCJ, R_uCJ, L_uCJ, A_uCJ, Q_uCJ, m1_s]
  have h1 : F_X12_addSpan t (some p) (some c) so fr to = Option.bind (F_X1_append (cS0 t c nS so fr to) p (some nS)) (fun r25 => some (some nS, r25)) := by
    simp (disch := omega) only [F_X12_addSpan, F_X11_init, h205, nt_cl, hE, gE_0, nxt_e, oc_s, oc_n, ob_s, ob2_s, gb_b1, gb_0, gb_1, gw0, gw1, I_uI, I_uI_n, R_uR, R_uR_n, A_uA, A_uA_n, J_uJ, J_uJ_n, Q_uQ, Q_uQ_n, E_uO, E_uO_n, I_uO, I_uO_n, R_uO, R_uO_n, E_uN, E_uN_n, L_uN, L_uN_n, A_uN, A_uN_n, J_uN, J_uN_n, Q_uN, Q_uN_n, A_uCA, A_uCA_n, J_uCJ, J_uCJ_n, E_uI, R_uI, L_uI, A_uI, J_uI, Q_uI, E_uR, I_uR, L_uR, A_uR, J_uR, Q_uR, E_uA, I_uA, R_uA, L_uA, J_uA, Q_uA, E_uJ, I_uJ, R_uJ, L_uJ, A_uJ, Q_uJ, E_uQ, I_uQ, R_uQ, L_uQ, A_uQ, J_uQ, L_uO, A_uO, J_uO, Q_uO, I_uN, R_uN, E_uCA, I_uCA, R_uCA, L_uCA, J_uCA, Q_uCA, E_uCJ, I_uCJ, R_uCJ, L_uCJ, A_uCJ, Q_uCJ, m1_s, nt_succ]
    rfl
  rw [h1]
  unfold F_X1_append B_X1_append_23 cS
  cases ej : tR t 110 p with
  | none => simp (disch := omega) only [e110, ej, nxt_e, oc_s, oc_n, ob_s, ob2_s, gb_b1, gb_0, gb_1, gw0, gw1, I_uI, I_uI_n, R_uR, R_uR_n, A_uA, A_uA_n, J_uJ, J_uJ_n, Q_uQ, Q_uQ_n, E_uO, E_uO_n, I_uO, I_uO_n, R_uO, R_uO_n, E_uN, E_uN_n, L_uN, L_uN_n, A_uN, A_uN_n, J_uN, J_uN_n, Q_uN, Q_uN_n, A_uCA, A_uCA_n, J_uCJ, J_uCJ_n, E_uI, R_uI, L_uI, A_uI, J_uI, Q_uI, E_uR, I_uR, L_uR, A_uR, J_uR, Q_uR, E_uA, I_uA, R_uA, L_uA, J_uA, Q_uA, E_uJ, I_uJ, R_uJ, L_uJ, A_uJ, Q_uJ, E_uQ, I_uQ, R_uQ, L_uQ, A_uQ, J_uQ, L_uO, A_uO, J_uO, Q_uO, I_uN, R_uN, E_uCA, I_uCA, R_uCA, L_uCA, J_uCA, Q_uCA, E_uCJ, I_uCJ, R_uCJ, L_uCJ, A_uCJ, Q_uCJ, m1_s, e111, oel_n]
  | some j => simp (disch := omega) only [e110, ej, nxt_e, oc_s, oc_n, ob_s, ob2_s, gb_b1, gb_0, gb_1, gw0, gw1, I_uI, I_uI_n, R_uR, R_uR_n, A_uA, A_uA_n, J_uJ, J_uJ_n, Q_uQ, Q_uQ_n, E_uO, E_uO_n, I_uO, I_uO_n, R_uO, R_uO_n, E_uN, E_uN_n, L_uN, L_uN_n, A_uN, A_uN_n, J_uN, J_uN_n, Q_uN, Q_uN_n, A_uCA, A_uCA_n, J_uCJ, J_uCJ_n, E_uI, R_uI, L_uI, A_uI, J_uI, Q_uI, E_uR, I_uR, L_uR, A_uR, J_uR, Q_uR, E_uA, I_uA, R_uA, L_uA, J_uA, Q_uA, E_uJ, I_uJ, R_uJ, L_uJ, A_uJ, Q_uJ, E_uQ, I_uQ, R_uQ, L_uQ, A_uQ, J_uQ, L_uO, A_uO, J_uO, Q_uO, I_uN, R_uN, E_uCA, I_uCA, R_uCA, L_uCA, J_uCA, Q_uCA, E_uCJ, I_uCJ, R_uCJ, L_uCJ, A_uCJ, Q_uCJ, m1_s, e111, oel_s]
theorem pdays {t : TS} (a b : Int32) : F_X12_arePastDays t a b = some (b1 (decide (-9999 ≤ a ∧ a ≤ 0) && decide (a ≤ b ∧ b ≤ 0))) := by
  unfold F_X12_arePastDays
  rw [win_eq, ob_s, gw0, win_eq, ob_s, gw0]
  cases decide (-9999 ≤ a ∧ a ≤ 0) <;> cases decide (a ≤ b ∧ b ≤ 0) <;> rfl
theorem asf_eq (hL : Ilen t) (hB : Ibody nB t) (h205 : tI t 1205 0 = nt nS) (hE : tE t 11 nS = false) (h : nS < 600) (hl : tL t 3004 s = 60) (hth : isTh t s n) (hk : k < 20) : F_X12_addSpanFrom t (some p) (some s) x (nt k) = sel (g3 t nB s n x k) (some (0, t)) (fun c a b => some (1, cS t p c nS 0 a b)) := by
  have hn : n ≤ 60 := by
    rcases hth with q | q
    · omega
    · exact q.2.1
  unfold F_X12_addSpanFrom
  rw [win_eq, ob_s]
  by_cases h0 : 0 ≤ x ∧ x ≤ 60
  case neg =>
    have hg : g3 t nB s n x k = none := by
      unfold g3
      refine if_neg (fun q => h0 ⟨q.1, ?_⟩)
      rw [nt_of q.1, show (60 : Int32) = nt 60 from rfl, nt_le (Int32.toNatClampNeg_lt x) (by omega)]
      omega
    rw [hg, decide_eq_false h0, sel_n, gw0, if_neg (by decide)]
  obtain ⟨a, ha, rfl⟩ := nt_exb (b := 60) h0.1 (by omega) h0.2
  have e : nt a + 3 * nt k = nt (a + 3 * k) := by rw [show (3 : Int32) = nt 3 from rfl, nt_mul, nt_add]
  have hh : F_X10_has t s (nt (a + 3 * k)) 3 = some (b1 (decide (a + 3 * k + 3 ≤ n))) := by
    rcases hth with ⟨rfl, q1, q2⟩ | q
    · unfold F_X10_has
      rw [q1, if_pos (by decide), decide_eq_false (by omega)]; rfl
    · rw [has_eq q, show (3 : Int32) = nt 3 from rfl, has2 (by omega) (by omega) q.2.1, decide_eq_decide.mpr]
      omega
  unfold g3
  rw [decide_eq_true h0, if_neg (by decide), oc_s, e, hh, ob_s, gw1, nt_cl (a := a) (by omega)]
  by_cases h1 : a + 3 * k + 3 ≤ n
  case neg => rw [decide_eq_false h1, if_neg (by decide), if_neg (fun q => h1 q.2), sel_n]
  have hr : isRow t s 1 n := by
    rcases hth with q | q
    · omega
    · exact q
  have hj := hr.2.2.2.2.2.2.2.2
  rw [decide_eq_true h1, if_pos rfl, if_pos ⟨h0.1, h1⟩, show nt (a + 3 * k) + 2 = nt (a + 3 * k + 2) from nt_add _ 2, nt_succ, hl, gd_nt _ (by omega) (by omega), clubAt_eq hL hB, ob_s, gd_nt _ (by omega) (by omega), gd_nt _ (by omega) (by omega), nt_cl (by omega), nt_cl (by omega), nt_cl (by omega), hj _ (by omega), hj _ (by omega), hj _ (by omega)]
  show oc (six isCl t nB (el t s (a + 3 * k))) _ _ = _
  cases hc : six isCl t nB (el t s (a + 3 * k)) with
  | none => rw [oc_n, oel_n, sel_n]
  | some c =>
    rw [oc_s, oel_s]
    show Option.bind (F_X12_arePastDays t (el t s (a + 3 * k + 1)) (el t s (a + 3 * k + 2))) _ = _
    rw [pdays, ob_s, gw1]
    by_cases h2 : -9999 ≤ el t s (a + 3 * k + 1) ∧ el t s (a + 3 * k + 1) ≤ 0
    case neg => rw [decide_eq_false h2, Bool.false_and, if_neg (by decide), if_neg (fun q => h2 q.1), sel_n]
    by_cases h3 : el t s (a + 3 * k + 1) ≤ el t s (a + 3 * k + 2) ∧ el t s (a + 3 * k + 2) ≤ 0
    case neg => rw [decide_eq_true h2, decide_eq_false h3, Bool.and_false, if_neg (by decide), if_neg (fun q => h3 q.2), sel_n]
    rw [decide_eq_true h2, decide_eq_true h3, Bool.and_true, if_pos rfl, if_pos ⟨h2, h3⟩, sel_s]
    show ob2 (F_X12_addSpan t (some p) (some c) 0 (el t s (a + 3 * k + 1)) (el t s (a + 3 * k + 2))) _ = _
    rw [addSpan_c0 h205 hE h, ob2_s]
/-- a turn of the model's loop -/
theorem bsp_eq (kk : TS → Int32 → Int32 → Int32 → Int32 → Int32 → Option (Int32 × TS)) (hL : Ilen t) (hB : Ibody nB t) (h316 : tI t 1316 0 = nt nS) (h : nS < 600) (hs : s < 6) (hth : isTh t s n) (hk : k < 20) (h0 : k = 0 ∨ 0 ≤ x) (y : Int32) (hy : ¬ y ≤ nt k) : BB_X13_spans_55 kk t (nt p) (nt s) x y (nt k) = sel (g3 t nB s n x k) (B_X13_spans_234 t (nt p) (nt k)) (fun c a b => kk (mS t p c nS 0 a b) (nt p) (nt s) x y (nt (k + 1))) := by
  have hn : n ≤ 60 := by
    rcases hth with q | q
    · omega
    · exact q.2.1
  have hlen := hL
  have hn9 : ¬ nt nS = 600 := by rw [n600 (by omega)]; omega
  have hz : ∀ w : Int64, B_X13_spans_123 kk t (nt p) (nt s) x y (nt k) w = B_X13_spans_234 t (nt p) (nt k) := by
    intro w
    unfold B_X13_spans_123 B_X13_spans_124
    rw [if_pos rfl]
    unfold B_X13_spans_142
    rw [show (60 : Int32) * nt s + 0 = nt (60 * s) by rw [show (60 : Int32) = nt 60 from rfl, nt_mul, show (0 : Int32) = nt 0 from rfl, nt_add]; rfl, (show tL _ 3395 0 = 360 from hL 3395 rfl), gd_nt _ (by omega) (by omega), if_pos rfl]
    unfold B_X13_spans_174
    rw [if_pos rfl]
    unfold B_X13_spans_195
    rw [if_pos rfl]
  unfold BB_X13_spans_55
  rw [if_neg hy, h316, if_pos hn9]
  simp (disch := omega) only [(show tL _ 3393 0 = 6 from hL 3393 rfl), (show tL _ 3394 0 = 6 from hL 3394 rfl), gd_nt, nt_cl]
  rcases hth with ⟨rfl, q1, q2⟩ | hr
  · rw [q2, if_pos rfl, hz]
    have hg : g3 t nB s 0 x k = none := if_neg (fun q => by omega)
    rw [hg, sel_n]
  obtain ⟨-, -, -, -, -, -, r5, r6, r7⟩ := hr
  have c1 : (lg_cmp (x.toInt64 + (3 * nt k).toInt64) 0 < 0) = (x.toInt + 3 * (k : Int) < 0) := by rw [lc_lt, ls_int (by omega), show (0 : Int64).toInt = 0 from rfl]
  have c2 : (0 ≤ lg_cmp (x.toInt64 + (3 * nt k).toInt64 + 2) (nt n).toInt64) = ((n : Int) ≤ x.toInt + 3 * (k : Int) + 2) := by rw [lc_ge, ls_int2 (by omega), Int32.toInt_toInt64, nt_int (by omega)]
  rw [r5, if_neg (by decide), r6, hz]
  by_cases g1 : x.toInt + 3 * (k : Int) < 0
  · have hg : g3 t nB s n x k = none := if_neg (fun q => by
      have := ni_le.mp q.1
      rw [show (0 : Int32).toInt = 0 from rfl] at this
      omega)
    rw [if_pos (by rw [c1]; exact g1), hg, sel_n]
  rw [if_neg (by rw [c1]; exact g1)]
  have hx0 : 0 ≤ x := by
    rcases h0 with q | q
    · subst q
      rw [ni_le, show (0 : Int32).toInt = 0 from rfl]
      omega
    · exact q
  have hxi : x.toInt = x.toNatClampNeg := by
    conv => lhs; rw [nt_of hx0, nt_int (Int32.toNatClampNeg_lt x)]
  by_cases g2 : (n : Int) ≤ x.toInt + 3 * (k : Int) + 2
  · have hg : g3 t nB s n x k = none := if_neg (fun q => by omega)
    rw [if_pos (by rw [c2]; exact g2), hg, sel_n]
  rw [if_neg (by rw [c2]; exact g2)]
  obtain ⟨a, ha⟩ : ∃ a, x.toNatClampNeg = a := ⟨_, rfl⟩
  have hxa : x = nt a := by rw [← ha]; exact nt_of hx0
  subst hxa
  have h1 : a + 3 * k + 3 ≤ n := by omega
  unfold g3 B_X13_spans_124
  rw [nt_cl (a := a) (by omega), if_neg (show ¬ (1 : Int32) = 0 by decide), if_pos ⟨hx0, h1⟩, ls_i32 (by omega) (by omega)]
  have e1 : (60 : Int32) * nt s + nt (a + 3 * k) = nt (60 * s + (a + 3 * k)) := by rw [show (60 : Int32) = nt 60 from rfl, nt_mul, nt_add]
  unfold B_X13_spans_142
  rw [e1, nt_succ, (show tL _ 3395 0 = 360 from hL 3395 rfl), gd_nt _ (by omega) (by omega), gd_nt _ (by omega) (by omega), if_neg (by decide), nt_cl (by omega), nt_cl (by omega)]
  unfold B_X13_spans_174
  rw [show nt (60 * s + (a + 3 * k)) + 2 = nt (60 * s + (a + 3 * k) + 2) from nt_add _ 2, (show tL _ 3395 0 = 360 from hL 3395 rfl), gd_nt _ (by omega) (by omega), if_neg (by decide), nt_cl (by omega)]
  show B_X13_spans_195 kk t (nt p) (nt s) (nt a) y (nt k) 1 (el t s (a + 3 * k)) (el t s (a + 3 * k + 1)) (el t s (a + 3 * k + 2)) = _
  unfold B_X13_spans_195
  rw [if_neg (by decide), isClub_eq hL hB, ob_s, gw0]
  cases hc : six isCl t nB (el t s (a + 3 * k)) with
  | none => rw [isS_n, if_neg (by decide), oel_n, sel_n]
  | some c =>
    obtain ⟨hcl, hcx, hcc⟩ := six_some hc
    rw [isS_s, if_pos rfl, oel_s, in_eq, ob_s, gw0]
    by_cases h2 : -9999 ≤ el t s (a + 3 * k + 1) ∧ el t s (a + 3 * k + 1) ≤ 0
    case neg => rw [decide_eq_false h2, if_neg (by decide), if_neg (fun q => h2 q.1), sel_n]
    rw [decide_eq_true h2, if_pos rfl, in_eq, ob_s, gw1]
    by_cases h3 : el t s (a + 3 * k + 1) ≤ el t s (a + 3 * k + 2) ∧ el t s (a + 3 * k + 2) ≤ 0
    case neg => rw [decide_eq_false h3, if_neg (by decide), if_neg (fun q => h3 q.2), sel_n]
    rw [decide_eq_true h3, if_pos rfl, if_pos ⟨h2, h3⟩, sel_s, hcx, addSpan_m hL h316 h, ob2_s, nt_succ]
end
