/-! PART 34: class and model side by side: time, terms, leagues. A call: the class's function, then the model's, on one heap. -/
/-- class, then model: one answer, and what holds behind -/
def Eqm (c : Option (Int32 × TS)) (m : TS → Option (Int32 × TS)) (P : TS → Prop) : Prop := ∃ r t1 t2, c = some (r, t1) ∧ m t1 = some (r, t2) ∧ P t2
def lf (t : TS) (o : Option Int32) : Option (Int32 × TS) := o.map (fun r => (r, t))
theorem lf_s (t : TS) (r : Int32) : lf t (some r) = some (r, t) := rfl
theorem Eqm_i {c : Option (Int32 × TS)} {m : TS → Option (Int32 × TS)} {P : TS → Prop} (r : Int32) (t1 t2 : TS) (h1 : c = some (r, t1)) (h2 : m t1 = some (r, t2)) (h3 : P t2) : Eqm c m P := ⟨r, t1, t2, h1, h2, h3⟩
def Itime (t : TS) : Prop := ∃ d m : Nat, d ≤ 2999 ∧ m ≤ 1439 ∧ tI t 1200 0 = nt d ∧ tI t 1301 0 = nt d ∧ tI t 1201 0 = nt m ∧ tI t 1302 0 = nt m
def kTime : List Nat := [1200, 1301, 1201, 1302]
theorem Itime_f {D : Nat → Bool} {t t' : TS} (h : frm D t t') (hd : ∀ k, k ∈ kTime → D k = false) (hI : Itime t) : Itime t' := by
  unfold Itime at hI ⊢
  simp only [(h.1 1200 (hd 1200 (by decide))).2.1, (h.1 1301 (hd 1301 (by decide))).2.1, (h.1 1201 (hd 1201 (by decide))).2.1, (h.1 1302 (hd 1302 (by decide))).2.1]
  exact hI
theorem m_days {t : TS} (x : Int32) (hI : Itime t) : Eqm (F_X12_days t x) (fun t => F_X13_days t x) (fun t2 => frm (ks kTime) t t2 ∧ Itime t2) := by
  obtain ⟨d, m, hd, hm, e1, e2, e3, e4⟩ := hI
  by_cases hx : 1 ≤ x ∧ x ≤ 300
  · have hx0 : x = nt x.toNatClampNeg := nt_of (Int32.le_trans (by decide) hx.1)
    generalize x.toNatClampNeg = n at hx0
    subst hx0
    by_cases hn : nt n ≤ 2999 - nt d
    · sorry
    · sorry
  · refine Eqm_i (-1) t t ?_ ?_ ⟨frm_rf, d, m, hd, hm, e1, e2, e3, e4⟩
    · simp only [F_X12_days, win_eq, nxt_e, oc_s, oc_n, ob_s, ob2_s, gb_b1, gb_0, gb_1, b1_0, b1_t, b1_f, decide_eq_false hx, if_true]
    · simp only [F_X13_days, in_eq, nxt_e, oc_s, oc_n, ob_s, ob2_s, gb_b1, gb_0, gb_1, b1_0, b1_t, b1_f, decide_eq_false hx, if_true]
theorem tst1 (a x : Int32) (h1 : 1 ≤ x) (h2 : x ≤ 300) (h3 : 0 ≤ a) (h4 : a ≤ 2999) : (x ≤ 2999 - a) ↔ (a + x ≤ 2999) := by grind
theorem tst2 (a x : Int32) (h1 : ¬ a < x) (h2 : ¬ x < a) : a = x := by grind
theorem tst3 (n d : Nat) (h1 : n ≤ 300) (h2 : d ≤ 2999) : (nt n ≤ 2999 - nt d) ↔ n + d ≤ 2999 := by
  rw [nt_lit, nt_sub h2, nt_le (by omega) (by omega)]
  omega
theorem tst4 (a b c : Int32) (h1 : a < b) (h2 : b ≤ c) : a < c := by grind
theorem tst5 (a b : Int32) (h1 : 0 ≤ a) (h2 : a ≤ 1000000) (h3 : 0 ≤ b) (h4 : b ≤ 1000000) : a - b ≤ 1000000 := by grind
theorem tst6 (t : TS) (v : Int32) : tI (uI (uI t 1200 0 v) 1201 0 0) 1301 0 = tI t 1301 0 := by simp only [I_uI, I_uI_n, A_uA, A_uA_n, E_uI, R_uI, L_uI, A_uI, J_uI, Q_uI, E_uA, I_uA, R_uA, L_uA, J_uA, Q_uA, m1_s, Nat.reduceEqDiff, not_false_eq_true]
theorem tst7 (t : TS) (v : Int32) : tI (uI (uI t 1200 0 v) 1201 0 0) 1200 0 = v := by simp only [I_uI, I_uI_n, A_uA, A_uA_n, E_uI, R_uI, L_uI, A_uI, J_uI, Q_uI, E_uA, I_uA, R_uA, L_uA, J_uA, Q_uA, m1_s, Nat.reduceEqDiff, not_false_eq_true]
theorem tst8 (t : TS) (v : Int32) : tI (uI (uI t 1200 0 v) 1201 0 0) 1200 0 = v := rfl
theorem tst9 (t : TS) (hL : Ilen t) : tL t 3308 0 = 150 := by rw [(hL 3308 rfl : tL _ 3308 0 = 150)]
