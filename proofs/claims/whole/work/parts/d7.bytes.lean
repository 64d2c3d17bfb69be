/-! PART d7: bytes of the tape; what rules keep over a feed. -/
theorem i8_bt (y : Int8) : ∃ q, q < 256 ∧ y.toInt32 = bt q := by
  have h1 : -128 ≤ y.toInt := Int8.le_toInt y
  have h2 : y.toInt < 128 := Int8.toInt_lt y
  have h3 : y.toInt32.toInt = y.toInt := Int8.toInt_toInt32 y
  by_cases e : 0 ≤ y.toInt
  · refine ⟨y.toInt.toNat, by omega, ?_⟩
    unfold bt
    rw [if_pos (by omega)]
    refine Int32.toInt_inj.mp ?_
    rw [h3, nt_int (by omega)]
    omega
  · refine ⟨(y.toInt + 256).toNat, by omega, ?_⟩
    unfold bt
    rw [if_neg (by omega)]
    refine Int32.toInt_inj.mp ?_
    have h4 : (256 : Int32).toInt = 256 := rfl
    have h5 : (nt (y.toInt + 256).toNat).toInt = y.toInt + 256 := by rw [nt_int (by omega)]; omega
    rw [h3, ni_sub (by rw [h4, h5]; omega) (by rw [h4, h5]; omega), h4, h5]
    omega
section
variable {t : TS} {nR : Nat}
theorem Irule_txt {t' : TS} (h : frm (ks kTape) t t') (hx : txt t t') (hI : Irule nR t) : Irule nR t' := by
  refine ⟨fun r hr => ?_, fun r hr => ?_⟩
  · refine Irule1_k (hx.2.2 (r + 1) (by omega)) (by rw [hx.2.1]) (by rw [(h.1 903 rfl).2.2.1]) (by rw [(h.1 904 rfl).2.1]) (by rw [(h.1 3359 rfl).2.2.2.2.1]) (fun i _ => by rw [(h.1 3360 rfl).2.2.2.2.1]) (fun i _ => by rw [(h.1 3361 rfl).2.2.2.2.1, (h.1 3362 rfl).2.2.2.2.1]; exact ⟨rfl, rfl⟩) rule_bd (hI.1 r hr)
  · rw [(h.1 9 rfl).1, hx.1]
    exact hI.2 r hr
theorem byt_bt (v : Int32) (k : Nat) : ∃ q, q < 256 ∧ byt v k = bt q := by
  show ∃ q, q < 256 ∧ ((v >>> ((8 * nt k) &&& 31)).toInt8.toInt32).toInt8.toInt32 = bt q
  exact i8_bt _
theorem m_feed2 (x1 x2 : Int32) (hL : Ilen t) (hI : Itape t) (hY : Ibyt t) : Eqm (F_X12_feed t x1 x2) (fun t => F_X13_feed t x1 x2) (fun t2 => Itape t2 ∧ txt t t2 ∧ frm (ks kTape) t t2 ∧ Ibyt t2) := by
  have hbad : ∀ r, F_X12_feed t x1 x2 = some (r, t) → F_X13_feed t x1 x2 = some (r, t) → Eqm (F_X12_feed t x1 x2) (fun t => F_X13_feed t x1 x2) (fun t2 => Itape t2 ∧ txt t t2 ∧ frm (ks kTape) t t2 ∧ Ibyt t2) := fun r h1 h2 => ⟨r, t, t, h1, h2, hI, ⟨rfl, rfl, fun _ _ => rfl⟩, frm_rf, hY⟩
  obtain ⟨n, hn, e1, e2, e3⟩ := hI
  by_cases h1 : 1 ≤ x1 ∧ x1 ≤ 4
  case neg => exact hbad (-1) (by simp only [F_X12_feed, win_eq, decide_eq_false h1, nxt_e, oc_s, oc_n, ob_s, ob2_s, gb_b1, gb_0, gb_1, gw0, gw1, Bool.false_eq_true, Bool.true_eq_false, if_true, if_false, not_true_eq_false, not_false_eq_true]) (by simp only [F_X13_feed, in_eq, decide_eq_false h1, nxt_e, oc_s, oc_n, ob_s, ob2_s, gb_b1, gb_0, gb_1, gw0, gw1, Bool.false_eq_true, Bool.true_eq_false, if_true, if_false, not_true_eq_false, not_false_eq_true])
  obtain ⟨a, ha, rfl⟩ := nt_exb (b := 4) (Int32.le_trans (by decide) h1.1) (by omega) h1.2
  have g1 : (nt a ≤ Int32.ofNat 160 - nt n) = (n + a ≤ 160) := by
    rw [show Int32.ofNat 160 - nt n = nt (160 - n) from nt_sub (a := 160) hn, ge_nt (by omega) (by omega)]
    exact propext ⟨fun q => by omega, fun q => by omega⟩
  have g2 : (nt n + nt a ≤ 160) = (n + a ≤ 160) := by
    rw [nt_add, show (160 : Int32) = nt 160 from rfl, ge_nt (by omega) (by omega)]
  have hc : F_X12_feed t (nt a) x2 = ob2 (if n + a ≤ 160 then B_X7_take_18 10000 t (nt a) x2 0 else some (0, t)) (fun x23 t24 => if x23 = 0 then some (-3, t24) else some (tI t24 701 0, t24)) := by
    simp only [F_X12_feed, win_eq, decide_eq_true h1, nxt_e, oc_s, oc_n, ob_s, ob2_s, gb_b1, gb_0, gb_1, gw0, gw1, Bool.false_eq_true, Bool.true_eq_false, if_true, if_false, not_true_eq_false, not_false_eq_true, F_X7_take, e1, (show tL _ 2700 0 = 160 from hL 2700 rfl), g1]
  have hm : ∀ u, tI u 1354 0 = nt n → F_X13_feed u (nt a) x2 = if n + a ≤ 160 then B_X13_feed_28 10000 u (nt a) x2 0 else some (-3, u) := fun u hu => by
    simp only [F_X13_feed, in_eq, decide_eq_true h1, nxt_e, oc_s, oc_n, ob_s, ob2_s, gb_b1, gb_0, gb_1, gw0, gw1, Bool.false_eq_true, Bool.true_eq_false, if_true, if_false, not_true_eq_false, not_false_eq_true, hu, g2]
  by_cases hf : n + a ≤ 160
  case neg => exact hbad (-3) (by rw [hc, if_neg hf, ob2_s, if_pos rfl]) (by rw [hm t e2, if_neg hf])
  obtain ⟨u, k1, k2, k3, k4, k5⟩ := X7_take_loop (v := x2) hL (by omega) hf e1
  obtain ⟨w, q1, q2, q3, q4⟩ := X13_feed_loop (v := x2) (Ilen_f k2 hL) (by omega) hf (show tI u 1354 0 = nt n by rw [(k2.1 1354 rfl).2.1, e2])
  refine ⟨nt (n + a), u, w, ?_, ?_, ⟨n + a, hf, ?_, q4, fun i hi => ?_⟩, ⟨?_, ?_, fun j hj => ?_⟩, frm_tr (frm_sb k2 (ks_sb rfl)) (frm_sb q2 (ks_sb rfl)), fun i hi => ?_⟩
  · rw [hc, if_pos hf, k1, ob2_s, if_neg (by decide), k5]
  · show F_X13_feed u (nt a) x2 = _
    rw [hm u (by rw [(k2.1 1354 rfl).2.1, e2]), if_pos hf, q1]
  · rw [(q2.1 701 rfl).2.1, k5]
  · rw [q3, (q2.1 2700 rfl).2.2.2.2.1, k4, (k2.1 3353 rfl).2.2.2.2.1]
    unfold putB
    by_cases h : n ≤ i ∧ i < n + a
    · rw [if_pos h, if_pos h]
    · rw [if_neg h, if_neg h, e3 i (by omega)]
  · rw [(q2.1 2700 rfl).1, k3.1]
  · rw [(q2.1 2700 rfl).2.2.2.1, k3.2.1]
  · rw [(q2.1 2700 rfl).2.2.2.2.1, k3.2.2 j hj]
  · rw [q3, (k2.1 3353 rfl).2.2.2.2.1]
    unfold putB
    by_cases h : n ≤ i ∧ i < n + a
    · rw [if_pos h]; exact byt_bt x2 (i - n)
    · rw [if_neg h]; exact hY i hi
end
