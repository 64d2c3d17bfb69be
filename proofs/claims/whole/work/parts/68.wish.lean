/-! PART 68: wishes, what they got, traces. -/
section
variable {t : TS}
def bitAt (x : Int32) (n : Nat) : Int32 := (x >>> (nt n &&& 31)) &&& 1
theorem and1 (y : Int32) : y &&& 1 = 0 ∨ y &&& 1 = 1 := by
  have h : y.toBitVec &&& 1#32 = 0#32 ∨ y.toBitVec &&& 1#32 = 1#32 := by
    rw [BitVec.and_one_eq_setWidth_ofBool_getLsbD]
    cases y.toBitVec.getLsbD 0
    · left; rfl
    · right; rfl
  rcases h with h | h
  · left; exact Int32.toBitVec.inj h
  · right; exact Int32.toBitVec.inj h
theorem bit8 : ∀ w, w < 256 → bitAt (nt w) 8 = 0 := by decide +kernel
def Iring (t : TS) : Prop := (∃ n, n ≤ 8 ∧ tI t 801 0 = nt n ∧ tI t 1375 0 = nt n ∧ ∀ i, i < n → tA t 2800 0 i = tA t 3376 0 i ∧ bitAt (tA t 3376 0 i) i = 0 ∧ ∃ w, w < 256 ∧ tA t 3376 0 i = nt w) ∧
  ∃ g, g ≤ 8 ∧ (tI t 1379 0 = nt g ∨ (g = 0 ∧ tI t 1379 0 = -1)) ∧ tI t 803 0 = nt g ∧ ∀ i, i < g → tA t 3378 0 i = if tA t 2802 0 i = nt i then -2 else tA t 2802 0 i
def kRing : List Nat := [801, 803, 1375, 1379, 2800, 2802, 3376, 3378]
theorem Iring_f {D : Nat → Bool} {t t' : TS} (h : frm D t t') (hd : ∀ k, k ∈ kRing → D k = false) (hI : Iring t) : Iring t' := by
  unfold Iring at hI ⊢
  simp only [(h.1 801 (hd 801 (by decide))).2.1, (h.1 803 (hd 803 (by decide))).2.1, (h.1 1375 (hd 1375 (by decide))).2.1, (h.1 1379 (hd 1379 (by decide))).2.1, (h.1 2800 (hd 2800 (by decide))).2.2.2.2.1, (h.1 2802 (hd 2802 (by decide))).2.2.2.2.1, (h.1 3376 (hd 3376 (by decide))).2.2.2.2.1, (h.1 3378 (hd 3378 (by decide))).2.2.2.2.1]
  exact hI
theorem m_wish (x1 : Int32) (hL : Ilen t) (hI : Iring t) : Eqm (F_X12_wish t x1) (fun t => F_X13_wish t x1) (fun t2 => Iring t2 ∧ frm (ks kRing) t t2) := by
  have hbad : ∀ r, F_X12_wish t x1 = some (r, t) → F_X13_wish t x1 = some (r, t) → Eqm (F_X12_wish t x1) (fun t => F_X13_wish t x1) (fun t2 => Iring t2 ∧ frm (ks kRing) t t2) := fun r h1 h2 => ⟨r, t, t, h1, h2, hI, frm_rf⟩
  obtain ⟨⟨n, hn, e1, e2, e3⟩, hg⟩ := hI
  by_cases h1 : 0 ≤ x1 ∧ x1 ≤ 255
  case neg => exact hbad (-1) (by simp only [F_X12_wish, win_eq, decide_eq_false h1, nxt_e, oc_s, oc_n, ob_s, ob2_s, gb_b1, gb_0, gb_1, gw0, gw1, Bool.false_eq_true, Bool.true_eq_false, if_true, if_false, not_true_eq_false, not_false_eq_true]) (by simp only [F_X13_wish, in_eq, decide_eq_false h1, nxt_e, oc_s, oc_n, ob_s, ob2_s, gb_b1, gb_0, gb_1, gw0, gw1, Bool.false_eq_true, Bool.true_eq_false, if_true, if_false, not_true_eq_false, not_false_eq_true])
  obtain ⟨w, hw, rfl⟩ := nt_exb (b := 255) h1.1 (by omega) h1.2
  have c8 : ((8 : Int32) ≤ nt n) = (8 ≤ n) := ge_nt (n := 8) (by omega) (by omega)
  have q8 : (nt n = (8 : Int32)) = (n = 8) := eq_nt (n := 8) (by omega) (by omega)
  have l8 : (nt n < Int32.ofNat 8) = (n < 8) := lt_nt (n := 8) (by omega) (by omega)
  have hc : F_X12_wish t (nt w) = if bitAt (nt w) n = 0 then (ob2 (F_X8_add t (nt w)) (fun x23 t24 => if x23 = 0 then some (-3, t24) else some (tI t24 801 0, t24))) else some (-1, t) := by
    simp only [F_X12_wish, win_eq, decide_eq_true h1, nxt_e, oc_s, oc_n, ob_s, ob2_s, gb_b1, gb_0, gb_1, gw0, gw1, Bool.false_eq_true, Bool.true_eq_false, if_true, if_false, not_true_eq_false, not_false_eq_true, e1]
    rfl
  have hm : ∀ v : TS, tI v 1375 0 = nt n → F_X13_wish v (nt w) = if 8 ≤ n then B_X13_wish_34 v (nt w) else if ¬ bitAt (nt w) n = 1 then B_X13_wish_34 v (nt w) else some (-1, v) := by
    intro v hv
    simp only [F_X13_wish, in_eq, decide_eq_true h1, nxt_e, oc_s, oc_n, ob_s, ob2_s, gb_b1, gb_0, gb_1, gw0, gw1, Bool.false_eq_true, Bool.true_eq_false, if_true, if_false, not_true_eq_false, not_false_eq_true, hv, c8]
    rfl
  by_cases hn8 : n = 8
  · subst hn8
    refine hbad (-3) ?_ ?_
    · rw [hc, if_pos (bit8 w (by omega))]
      unfold F_X8_add
      rw [e1, (show tL _ 2800 0 = 8 from hL 2800 rfl), if_neg (by decide), ob2_s, if_pos rfl]
    · rw [hm t e2, if_pos (Nat.le_refl _)]
      unfold B_X13_wish_34
      rw [e2, if_neg (fun q => q rfl)]
  by_cases hb : bitAt (nt w) n = 0
  case neg =>
    have hb1 : bitAt (nt w) n = 1 := (and1 _).resolve_left hb
    exact hbad (-1) (by rw [hc, if_neg hb]) (by rw [hm t e2, if_neg (by omega), if_neg (fun q => q hb1)])
  refine ⟨nt (n + 1), uI (uA t 2800 0 n (nt w)) 801 0 (nt (n + 1)), uI (uA (uI (uA t 2800 0 n (nt w)) 801 0 (nt (n + 1))) 3376 0 n (nt w)) 1375 0 (nt (n + 1)), ?_, ?_, ⟨⟨n + 1, by omega, ?_, ?_, fun i hi => ?_⟩, ?_⟩, frm_tr (frm_uA rfl) (frm_tr (frm_uI rfl) (frm_tr (frm_uA rfl) (frm_uI rfl)))⟩
  · rw [hc, if_pos hb]
    unfold F_X8_add
    simp (disch := omega) only [e1, (show tL _ 2800 0 = 8 from hL 2800 rfl), l8, gd_nt, nt_cl, nxt_e, oc_s, oc_n, ob_s, ob2_s, gb_b1, gb_0, gb_1, gw0, gw1, I_uI, I_uI_n, A_uA, A_uA_n, E_uI, R_uI, L_uI, A_uI, J_uI, Q_uI, E_uA, I_uA, R_uA, L_uA, J_uA, Q_uA, m1_s, nt_succ]
    rw [if_pos (by omega), ob2_s, if_neg (by decide)]
    simp (disch := omega) only [I_uI, I_uI_n, A_uA, A_uA_n, E_uI, R_uI, L_uI, A_uI, J_uI, Q_uI, E_uA, I_uA, R_uA, L_uA, J_uA, Q_uA, m1_s]
  · show F_X13_wish (uI (uA t 2800 0 n (nt w)) 801 0 (nt (n + 1))) (nt w) = _
    rw [hm _ (by simp (disch := omega) only [I_uI, I_uI_n, A_uA, A_uA_n, E_uI, R_uI, L_uI, A_uI, J_uI, Q_uI, E_uA, I_uA, R_uA, L_uA, J_uA, Q_uA, m1_s]; exact e2), if_neg (by omega), if_pos (by rw [hb]; decide)]
    unfold B_X13_wish_34
    simp (disch := omega) only [nxt_e, oc_s, oc_n, ob_s, ob2_s, gb_b1, gb_0, gb_1, gw0, gw1, I_uI, I_uI_n, A_uA, A_uA_n, E_uI, R_uI, L_uI, A_uI, J_uI, Q_uI, E_uA, I_uA, R_uA, L_uA, J_uA, Q_uA, m1_s, e2, nt_succ, (show tL _ 3376 0 = 8 from hL 3376 rfl), gd_nt, nt_cl, q8]
    rw [if_pos hn8]
  · simp (disch := omega) only [I_uI, I_uI_n, A_uA, A_uA_n, E_uI, R_uI, L_uI, A_uI, J_uI, Q_uI, E_uA, I_uA, R_uA, L_uA, J_uA, Q_uA, m1_s]
  · simp (disch := omega) only [I_uI, I_uI_n, A_uA, A_uA_n, E_uI, R_uI, L_uI, A_uI, J_uI, Q_uI, E_uA, I_uA, R_uA, L_uA, J_uA, Q_uA, m1_s]
  · simp (disch := omega) only [I_uI, I_uI_n, A_uA, A_uA_n, E_uI, R_uI, L_uI, A_uI, J_uI, Q_uI, E_uA, I_uA, R_uA, L_uA, J_uA, Q_uA, m1_s]
    by_cases e : i = n
    · subst e
      simp only [m1_s]
      exact ⟨trivial, hb, w, by omega, rfl⟩
    · simp only [m1_n e]
      exact e3 i (by omega)
  · simp (disch := omega) only [I_uI, I_uI_n, A_uA, A_uA_n, E_uI, R_uI, L_uI, A_uI, J_uI, Q_uI, E_uA, I_uA, R_uA, L_uA, J_uA, Q_uA, m1_s]
    exact hg
theorem m_gets (x1 : Int32) (hL : Ilen t) (hI : Iring t) : ∃ r, F_X12_gets t x1 = some r ∧ F_X13_gets t x1 = some r := by
  obtain ⟨-, g, hg, e1, e2, e3⟩ := hI
  unfold F_X12_gets F_X13_gets
  have hm : decide (0 ≤ x1 ∧ x1 ≤ tI t 1379 0 - 1) = (ix g x1).isSome := by
    rcases e1 with e | ⟨q, e⟩
    · rw [e, dix (by omega)]
    · subst q
      rw [e]
      have h0 : ix 0 x1 = none := by
        cases h : ix 0 x1 with
        | none => rfl
        | some j => exact absurd (ix_some h).1 (Nat.not_lt_zero _)
      rw [h0]
      refine decide_eq_false (fun h => ?_)
      have h3 : (0 : Int32) ≤ -1 - 1 := Int32.le_trans h.1 h.2
      exact absurd h3 (by decide)
  rw [win_eq, in_eq, e2, dix (by omega), hm, ob_s, ob_s]
  cases hx : ix g x1 with
  | none => exact ⟨-1, rfl, rfl⟩
  | some i =>
  obtain ⟨hi, rfl⟩ := ix_some hx
  refine ⟨if tA t 2802 0 i = nt i then -2 else tA t 2802 0 i, ?_, ?_⟩
  · rw [isS_s, gw1, if_pos rfl, (show tL _ 2802 0 = 8 from hL 2802 rfl)]
    simp (disch := omega) only [gd_nt, nt_cl]
    by_cases e : tA t 2802 0 i = nt i
    · rw [if_neg (fun q => q e), if_pos e]
    · rw [if_pos e, if_neg e]
  · rw [isS_s, gw0, if_pos rfl, (show tL _ 3378 0 = 8 from hL 3378 rfl)]
    simp (disch := omega) only [gd_nt, nt_cl, e3 i hi]
def Iact (t : TS) : Prop := ∃ k, k ≤ 100000 ∧ tI t 1 0 = nt k ∧ tI t 1391 0 = nt k ∧ ∀ i, i < k → i < 24 → tA t 2000 0 i = tA t 3392 0 i
def kAct : List Nat := [1, 1391, 2000, 3392]
theorem m_trace (x1 : Int32) (hL : Ilen t) (hI : Iact t) : ∃ r, F_X12_trace t x1 = some r ∧ F_X13_trace t x1 = some r := by
  obtain ⟨k, hk, e1, e2, e3⟩ := hI
  unfold F_X12_trace F_X13_trace
  have e24 : (if Int32.ofNat 24 < nt k then Int32.ofNat 24 else nt k) = nt (min 24 k) := by
    have : (Int32.ofNat 24 < nt k) = (24 < k) := lt_nt (k := 24) (by omega) (by omega)
    simp only [this]
    by_cases h : 24 < k
    · rw [if_pos h, show min 24 k = 24 by omega]; rfl
    · rw [if_neg h, show min 24 k = k by omega]
  rw [(show tL _ 2000 0 = 24 from hL 2000 rfl), e1, e2, e24, win_eq, dix (by omega), ob_s]
  cases hx : ix (min 24 k) x1 with
  | none =>
    refine ⟨-1, rfl, ?_⟩
    by_cases h : x1 < 0
    · rw [if_pos h]
    · have h0 : 0 ≤ x1 := Int32.not_lt.mp h
      by_cases h2 : nt k ≤ x1
      · rw [if_neg h, if_pos h2]
      · by_cases h3 : 24 ≤ x1
        · rw [if_neg h, if_neg h2, if_pos h3]
        · obtain ⟨a, ha, rfl⟩ := nt_exb (b := 24) h0 (by omega) (Int32.le_of_lt (Int32.not_le.mp h3))
          rw [ge_nt (by omega) (by omega)] at h2
          rw [show (24 : Int32) = nt 24 from rfl, ge_nt (by omega) (by omega)] at h3
          rw [ix_nt (by omega) (by omega)] at hx
          cases hx
  | some i =>
    obtain ⟨hi, rfl⟩ := ix_some hx
    refine ⟨tA t 2000 0 i, ?_, ?_⟩
    · rw [isS_s, gw1, if_pos rfl]
      simp (disch := omega) only [gd_nt, nt_cl]
    · rw [if_neg (nt_neg (by omega)), igE (by omega) (by omega), if_neg (by omega), show (24 : Int32) = nt 24 from rfl, igE (by omega) (by omega), if_neg (by omega), (show tL _ 3392 0 = 24 from hL 3392 rfl), gd_nt _ (by omega) (by omega), nt_cl (by omega), e3 i (by omega) (by omega)]
end
