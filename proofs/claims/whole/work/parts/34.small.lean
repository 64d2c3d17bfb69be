/-! PART 34: class and model side by side: time, terms, leagues. A call: the class's function, then the model's, on one heap. -/
/-- class, then model: one answer, and what holds behind -/
def Eqm (c : Option (Int32 × TS)) (m : TS → Option (Int32 × TS)) (P : TS → Prop) : Prop := ∃ r t1 t2, c = some (r, t1) ∧ m t1 = some (r, t2) ∧ P t2
def lf (t : TS) (o : Option Int32) : Option (Int32 × TS) := o.map (fun r => (r, t))
theorem lf_s (t : TS) (r : Int32) : lf t (some r) = some (r, t) := rfl
theorem Eqm_i {c : Option (Int32 × TS)} {m : TS → Option (Int32 × TS)} {P : TS → Prop} (r : Int32) (t1 t2 : TS) (h1 : c = some (r, t1)) (h2 : m t1 = some (r, t2)) (h3 : P t2) : Eqm c m P := ⟨r, t1, t2, h1, h2, h3⟩
def Itime (t : TS) : Prop := ∃ d m : Nat, d ≤ 2999 ∧ m ≤ 1439 ∧ tI t 1200 0 = nt d ∧ tI t 1301 0 = nt d ∧ tI t 1201 0 = nt m ∧ tI t 1302 0 = nt m
def kTime : List Nat := [1200, 1301, 1201, 1302]
theorem Itime_f {D : Nat → Bool} {t t' : TS} (h : frm D t t') (hd : ∀ k, k ∈ kTime → D k = false) (hI : Itime t) : Itime t' := by
  unfold Itime at hI ⊢
  simp only [(h.1 1200 (hd 1200 (by decide))).2.1, (h.1 1301 (hd 1301 (by decide))).2.1, (h.1 1201 (hd 1201 (by decide))).2.1, (h.1 1302 (hd 1302 (by decide))).2.1]
  exact hI
theorem m_days {t : TS} (x : Int32) (hI : Itime t) : Eqm (F_X12_days t x) (fun t => F_X13_days t x) (fun t2 => frm (ks kTime) t t2 ∧ Itime t2) := by
  obtain ⟨d, m, hd, hm, e1, e2, e3, e4⟩ := hI
  by_cases hx : 1 ≤ x ∧ x ≤ 300
  · obtain ⟨n, hn3, rfl⟩ := nt_exb (b := 300) (Int32.le_trans (by decide) hx.1) (by omega) hx.2
    have e7 : (nt n ≤ 2999 - nt d) = (n + d ≤ 2999) := by
      rw [show (2999 : Int32) = nt 2999 from rfl, nt_sub hd, ge_nt (by omega) (by omega)]
      exact propext ⟨fun q => by omega, fun q => by omega⟩
    have e8 : (nt (d + n) ≤ 2999) = (n + d ≤ 2999) := by
      rw [show (2999 : Int32) = nt 2999 from rfl, ge_nt (by omega) (by omega)]
      exact propext ⟨fun q => by omega, fun q => by omega⟩
    by_cases hn : n + d ≤ 2999
    · refine ⟨nt (d + n), uI (uI t 1200 0 (nt (d + n))) 1201 0 0, uI (uI (uI (uI t 1200 0 (nt (d + n))) 1201 0 0) 1301 0 (nt (d + n))) 1302 0 0, ?_, ?_, frm_tr (frm_uI rfl) (frm_tr (frm_uI rfl) (frm_tr (frm_uI rfl) (frm_uI rfl))), d + n, 0, by omega, by omega, ?_, ?_, ?_, ?_⟩
      · simp only [F_X12_days, win_eq, ob_s, gw0, decide_eq_true hx, tr_b, e1, e7, hn, if_true, nxt_e, nt_add, I_uI, I_uI_n, A_uA, A_uA_n, E_uI, R_uI, L_uI, A_uI, J_uI, Q_uI, E_uA, I_uA, R_uA, L_uA, J_uA, Q_uA, m1_s, Nat.reduceEqDiff, not_false_eq_true]
      · simp only [F_X13_days, in_eq, ob_s, gw0, decide_eq_true hx, tr_b, e2, nt_add, e8, hn, if_true, nxt_e, I_uI, I_uI_n, A_uA, A_uA_n, E_uI, R_uI, L_uI, A_uI, J_uI, Q_uI, E_uA, I_uA, R_uA, L_uA, J_uA, Q_uA, m1_s, Nat.reduceEqDiff, not_false_eq_true]
      all_goals simp only [I_uI, I_uI_n, A_uA, A_uA_n, E_uI, R_uI, L_uI, A_uI, J_uI, Q_uI, E_uA, I_uA, R_uA, L_uA, J_uA, Q_uA, m1_s, Nat.reduceEqDiff, not_false_eq_true, nt0]
    · refine Eqm_i (-1) t t ?_ ?_ ⟨frm_rf, d, m, hd, hm, e1, e2, e3, e4⟩
      · simp only [F_X12_days, win_eq, ob_s, gw0, decide_eq_true hx, tr_b, e1, e7, hn, nt_add, if_false, if_true]
      · simp only [F_X13_days, in_eq, ob_s, gw0, decide_eq_true hx, tr_b, e2, nt_add, e8, hn, if_false, if_true]
  · refine Eqm_i (-1) t t ?_ ?_ ⟨frm_rf, d, m, hd, hm, e1, e2, e3, e4⟩
    · simp only [F_X12_days, win_eq, nxt_e, oc_s, oc_n, ob_s, ob2_s, gb_b1, gb_0, gb_1, b1_0, b1_t, b1_f, decide_eq_false hx, if_true]
    · simp only [F_X13_days, in_eq, nxt_e, oc_s, oc_n, ob_s, ob2_s, gb_b1, gb_0, gb_1, b1_0, b1_t, b1_f, decide_eq_false hx, if_true]
