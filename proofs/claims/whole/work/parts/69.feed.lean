/-! PART 69: the tape. -/
section
variable {t : TS}
def Itape (t : TS) : Prop := ∃ n, n ≤ 160 ∧ tI t 701 0 = nt n ∧ tI t 1354 0 = nt n ∧ ∀ i, i < n → tA t 2700 0 i = tA t 3353 0 i
def kTape : List Nat := [701, 1354, 2700, 3353]
theorem Itape_f {D : Nat → Bool} {t t' : TS} (h : frm D t t') (hd : ∀ k, k ∈ kTape → D k = false) (hI : Itape t) : Itape t' := by
  unfold Itape at hI ⊢
  simp only [(h.1 701 (hd 701 (by decide))).2.1, (h.1 1354 (hd 1354 (by decide))).2.1, (h.1 2700 (hd 2700 (by decide))).2.2.2.2.1, (h.1 3353 (hd 3353 (by decide))).2.2.2.2.1]
  exact hI
/-- what is behind the reader's own place stays -/
def txt (t t' : TS) : Prop := tE t' 2700 = tE t 2700 ∧ tL t' 2700 = tL t 2700 ∧ ∀ j, ¬ j = 0 → tA t' 2700 j = tA t 2700 j
theorem sh8 (x : BitVec 32) : ∀ n, n ≤ 24 → (x.sshiftRight n).signExtend 8 = (x >>> n).signExtend 8 := by
  intro n hn
  rw [BitVec.signExtend_eq_setWidth_of_le _ (by omega), BitVec.signExtend_eq_setWidth_of_le _ (by omega)]
  apply BitVec.eq_of_getLsbD_eq
  intro i hi
  simp only [BitVec.getLsbD_setWidth, BitVec.getLsbD_sshiftRight, BitVec.getLsbD_ushiftRight]
  have h1 : ¬ 32 ≤ i := by omega
  have h2 : n + i < 32 := by omega
  simp [h1, h2, hi]
theorem byte1 (v a : Int32) (b : UInt32) (n : Nat) (hn : n ≤ 24) (ha : (a.toBitVec.smod 32#32).toNat = n) (hb : (b.toBitVec % 32#32).toNat = n) : ((v.toUInt32 >>> b).toInt32).toInt8 = (v >>> a).toInt8 := by
  apply Int8.toBitVec.inj
  show (v.toBitVec >>> (b.toBitVec % 32#32)).signExtend 8 = (v.toBitVec.sshiftRight' (a.toBitVec.smod 32#32)).signExtend 8
  rw [BitVec.sshiftRight', ha, sh8 _ n hn, BitVec.ushiftRight_eq', hb]
theorem byte_eq (v : Int32) : ∀ k, k < 4 → ((v.toUInt32 >>> ((8 * nt k).toUInt32 &&& Int32.toUInt32 31)).toInt32).toInt8 = (v >>> ((8 * nt k) &&& 31)).toInt8 := by
  intro k hk
  have hk' : k = 0 ∨ k = 1 ∨ k = 2 ∨ k = 3 := by omega
  rcases hk' with rfl | rfl | rfl | rfl
  · exact byte1 v _ _ 0 (by omega) (by decide) (by decide)
  · exact byte1 v _ _ 8 (by omega) (by decide) (by decide)
  · exact byte1 v _ _ 16 (by omega) (by decide) (by decide)
  · exact byte1 v _ _ 24 (by omega) (by decide) (by decide)
def byt (v : Int32) (k : Nat) : Int32 := vp_nar .byte ((v >>> ((8 * nt k) &&& 31)).toInt8.toInt32)
def putB (f : Nat → Int32) (v : Int32) (n k i : Nat) : Int32 := if n ≤ i ∧ i < n + k then byt v (i - n) else f i
theorem putB_s {f : Nat → Int32} {v : Int32} {n k : Nat} : mm_u1 (putB f v n k) (n + k) (byt v k) = putB f v n (k + 1) := by
  funext i
  unfold putB
  by_cases e : i = n + k
  · subst e; rw [m1_s, if_pos (by omega), Nat.add_sub_cancel_left]
  · rw [m1_n e]
    by_cases h : n ≤ i ∧ i < n + k
    · rw [if_pos h, if_pos (by omega)]
    · rw [if_neg h, if_neg (by omega)]
theorem putB_0 {f : Nat → Int32} {v : Int32} {n : Nat} : putB f v n 0 = f := funext fun i => if_neg (by omega)
theorem X7_take_loop {n a : Nat} {v : Int32} (hL : Ilen t) (ha : a ≤ 4) (hn : n + a ≤ 160) (h1 : tI t 701 0 = nt n) : ∃ u, B_X7_take_18 10000 t (nt a) v 0 = some (1, u) ∧ frm (ks [701, 2700]) t u ∧ txt t u ∧ tA u 2700 0 = putB (tA t 2700 0) v n a ∧ tI u 701 0 = nt (n + a) := by
  obtain ⟨N, hN⟩ : ∃ N : Nat, N = 10000 := ⟨_, rfl⟩
  rw [← hN]
  refine loop_wh (B := fun fu (x : Nat × TS) => B_X7_take_18 fu x.2 (nt a) v (nt x.1)) (mu := fun x => a - x.1) (G := fun o => ∃ u, o = some (1, u) ∧ frm (ks [701, 2700]) t u ∧ txt t u ∧ tA u 2700 0 = putB (tA t 2700 0) v n a ∧ tI u 701 0 = nt (n + a)) (P := fun x => x.1 ≤ a ∧ frm (ks [2700]) t x.2 ∧ txt t x.2 ∧ tA x.2 2700 0 = putB (tA t 2700 0) v n x.1) ?_ N (0, t) ⟨Nat.zero_le _, frm_rf, ⟨rfl, rfl, fun _ _ => rfl⟩, putB_0.symm⟩ (by show a - 0 < N; omega)
  intro fu x hx
  obtain ⟨k, u⟩ := x
  have hk : k ≤ a := hx.1
  have h : frm (ks [2700]) t u := hx.2.1
  have ht : txt t u := hx.2.2.1
  have hf : tA u 2700 0 = putB (tA t 2700 0) v n k := hx.2.2.2
  show (∃ u', BB_X7_take_18 (B_X7_take_18 fu) u (nt a) v (nt k) = _ ∧ _) ∨ ∃ a', BB_X7_take_18 (B_X7_take_18 fu) u (nt a) v (nt k) = _ ∧ _
  have hL1 : Ilen u := Ilen_f h hL
  have i701 : tI u 701 0 = nt n := by rw [(h.1 701 rfl).2.1, h1]
  unfold BB_X7_take_18 B_X7_take_47
  rw [igE (by omega) (by omega)]
  by_cases e : k = a
  · left
    subst e
    refine ⟨uI u 701 0 (nt (n + k)), ?_, frm_tr (frm_sb h (ks_sb rfl)) (frm_uI rfl), ht, ?_, ?_⟩
    · rw [if_pos (Nat.le_refl _), nxt_e, i701, nt_add]
    · simp (disch := omega) only [I_uI, I_uI_n, A_uA, A_uA_n, E_uI, R_uI, L_uI, A_uI, J_uI, Q_uI, E_uA, I_uA, R_uA, L_uA, J_uA, Q_uA, m1_s]; exact hf
    · simp (disch := omega) only [I_uI, I_uI_n, A_uA, A_uA_n, E_uI, R_uI, L_uI, A_uI, J_uI, Q_uI, E_uA, I_uA, R_uA, L_uA, J_uA, Q_uA, m1_s]
  · right
    refine ⟨(k + 1, uA u 2700 0 (n + k) (byt v k)), ?_, ⟨by show k + 1 ≤ a; omega, frm_tr h (frm_uA rfl), ⟨ht.1, ht.2.1, fun j hj => ?_⟩, ?_⟩, by show a - (k + 1) < a - k; omega⟩
    · rw [if_neg (by omega), i701, nt_add, (show tL _ 2700 0 = 160 from hL1 2700 rfl), gd_nt _ (by omega) (by omega), nt_cl (by omega), nxt_e, nt_succ, byte_eq v k (by omega)]
      rfl
    · show tA (uA u 2700 0 (n + k) (byt v k)) 2700 j = _
      rw [A_uA, m1_n hj]
      exact ht.2.2 j hj
    · show tA (uA u 2700 0 (n + k) (byt v k)) 2700 0 = _
      rw [A_uA, m1_s, hf, putB_s]
theorem X13_feed_loop {n a : Nat} {v : Int32} (hL : Ilen t) (ha : a ≤ 4) (hn : n + a ≤ 160) (h1 : tI t 1354 0 = nt n) : ∃ u, B_X13_feed_28 10000 t (nt a) v 0 = some (nt (n + a), u) ∧ frm (ks [1354, 3353]) t u ∧ tA u 3353 0 = putB (tA t 3353 0) v n a ∧ tI u 1354 0 = nt (n + a) := by
  obtain ⟨N, hN⟩ : ∃ N : Nat, N = 10000 := ⟨_, rfl⟩
  rw [← hN]
  refine loop_wh (B := fun fu (x : Nat × TS) => B_X13_feed_28 fu x.2 (nt a) v (nt x.1)) (mu := fun x => a - x.1) (G := fun o => ∃ u, o = some (nt (n + a), u) ∧ frm (ks [1354, 3353]) t u ∧ tA u 3353 0 = putB (tA t 3353 0) v n a ∧ tI u 1354 0 = nt (n + a)) (P := fun x => x.1 ≤ a ∧ frm (ks [1354, 3353]) t x.2 ∧ tA x.2 3353 0 = putB (tA t 3353 0) v n x.1 ∧ tI x.2 1354 0 = nt (n + x.1)) ?_ N (0, t) ⟨Nat.zero_le _, frm_rf, putB_0.symm, h1⟩ (by show a - 0 < N; omega)
  intro fu x hx
  obtain ⟨k, u⟩ := x
  have hk : k ≤ a := hx.1
  have h : frm (ks [1354, 3353]) t u := hx.2.1
  have hf : tA u 3353 0 = putB (tA t 3353 0) v n k := hx.2.2.1
  have hi : tI u 1354 0 = nt (n + k) := hx.2.2.2
  show (∃ u', BB_X13_feed_28 (B_X13_feed_28 fu) u (nt a) v (nt k) = _ ∧ _) ∨ ∃ a', BB_X13_feed_28 (B_X13_feed_28 fu) u (nt a) v (nt k) = _ ∧ _
  have hL1 : Ilen u := Ilen_f h hL
  unfold BB_X13_feed_28
  rw [igE (by omega) (by omega)]
  by_cases e : k = a
  · left
    subst e
    exact ⟨u, by rw [if_pos (Nat.le_refl _), hi], h, hf, hi⟩
  · right
    refine ⟨(k + 1, uI (uA u 3353 0 (n + k) (byt v k)) 1354 0 (nt (n + k + 1))), ?_, ⟨by show k + 1 ≤ a; omega, frm_tr h (frm_tr (frm_uA rfl) (frm_uI rfl)), ?_, ?_⟩, by show a - (k + 1) < a - k; omega⟩
    · rw [if_neg (by omega), hi, (show tL _ 3353 0 = 160 from hL1 3353 rfl), gd_nt _ (by omega) (by omega), nt_cl (by omega)]
      simp (disch := omega) only [nxt_e, oc_s, oc_n, ob_s, ob2_s, gb_b1, gb_0, gb_1, gw0, gw1, I_uI, I_uI_n, A_uA, A_uA_n, E_uI, R_uI, L_uI, A_uI, J_uI, Q_uI, E_uA, I_uA, R_uA, L_uA, J_uA, Q_uA, m1_s, hi, nt_succ]
      rfl
    · show tA (uI (uA u 3353 0 (n + k) (byt v k)) 1354 0 (nt (n + k + 1))) 3353 0 = _
      simp (disch := omega) only [I_uI, I_uI_n, A_uA, A_uA_n, E_uI, R_uI, L_uI, A_uI, J_uI, Q_uI, E_uA, I_uA, R_uA, L_uA, J_uA, Q_uA, m1_s]
      rw [hf, putB_s]
    · show tI (uI (uA u 3353 0 (n + k) (byt v k)) 1354 0 (nt (n + k + 1))) 1354 0 = _
      simp (disch := omega) only [I_uI, I_uI_n, A_uA, A_uA_n, E_uI, R_uI, L_uI, A_uI, J_uI, Q_uI, E_uA, I_uA, R_uA, L_uA, J_uA, Q_uA, m1_s]
      rfl
theorem m_feed (x1 x2 : Int32) (hL : Ilen t) (hI : Itape t) : Eqm (F_X12_feed t x1 x2) (fun t => F_X13_feed t x1 x2) (fun t2 => Itape t2 ∧ txt t t2 ∧ frm (ks kTape) t t2) := by
  have hbad : ∀ r, F_X12_feed t x1 x2 = some (r, t) → F_X13_feed t x1 x2 = some (r, t) → Eqm (F_X12_feed t x1 x2) (fun t => F_X13_feed t x1 x2) (fun t2 => Itape t2 ∧ txt t t2 ∧ frm (ks kTape) t t2) := fun r h1 h2 => ⟨r, t, t, h1, h2, hI, ⟨rfl, rfl, fun _ _ => rfl⟩, frm_rf⟩
  obtain ⟨n, hn, e1, e2, e3⟩ := hI
  by_cases h1 : 1 ≤ x1 ∧ x1 ≤ 4
  case neg => exact hbad (-1) (by simp only [F_X12_feed, win_eq, decide_eq_false h1, nxt_e, oc_s, oc_n, ob_s, ob2_s, gb_b1, gb_0, gb_1, gw0, gw1, Bool.false_eq_true, Bool.true_eq_false, if_true, if_false, not_true_eq_false, not_false_eq_true]) (by simp only [F_X13_feed, in_eq, decide_eq_false h1, nxt_e, oc_s, oc_n, ob_s, ob2_s, gb_b1, gb_0, gb_1, gw0, gw1, Bool.false_eq_true, Bool.true_eq_false, if_true, if_false, not_true_eq_false, not_false_eq_true])
  obtain ⟨a, ha, rfl⟩ := nt_exb (b := 4) (Int32.le_trans (by decide) h1.1) (by omega) h1.2
  have g1 : (nt a ≤ Int32.ofNat 160 - nt n) = (n + a ≤ 160) := by
    rw [show Int32.ofNat 160 - nt n = nt (160 - n) from nt_sub (a := 160) hn, ge_nt (by omega) (by omega)]
    exact propext ⟨fun q => by omega, fun q => by omega⟩
  have g2 : (nt n + nt a ≤ 160) = (n + a ≤ 160) := by
    rw [nt_add, show (160 : Int32) = nt 160 from rfl, ge_nt (by omega) (by omega)]
  have hc : F_X12_feed t (nt a) x2 = ob2 (if n + a ≤ 160 then B_X7_take_18 10000 t (nt a) x2 0 else some (0, t)) (fun x23 t24 => if x23 = 0 then some (-3, t24) else some (tI t24 701 0, t24)) := by
    simp only [F_X12_feed, win_eq, decide_eq_true h1, nxt_e, oc_s, oc_n, ob_s, ob2_s, gb_b1, gb_0, gb_1, gw0, gw1, Bool.false_eq_true, Bool.true_eq_false, if_true, if_false, not_true_eq_false, not_false_eq_true, F_X7_take, e1, (show tL _ 2700 0 = 160 from hL 2700 rfl), g1]
  have hm : ∀ u, tI u 1354 0 = nt n → F_X13_feed u (nt a) x2 = if n + a ≤ 160 then B_X13_feed_28 10000 u (nt a) x2 0 else some (-3, u) := fun u hu => by
    simp only [F_X13_feed, in_eq, decide_eq_true h1, nxt_e, oc_s, oc_n, ob_s, ob2_s, gb_b1, gb_0, gb_1, gw0, gw1, Bool.false_eq_true, Bool.true_eq_false, if_true, if_false, not_true_eq_false, not_false_eq_true, hu, g2]
  by_cases hf : n + a ≤ 160
  case neg => exact hbad (-3) (by rw [hc, if_neg hf, ob2_s, if_pos rfl]) (by rw [hm t e2, if_neg hf])
  obtain ⟨u, k1, k2, k3, k4, k5⟩ := X7_take_loop (v := x2) hL (by omega) hf e1
  obtain ⟨w, q1, q2, q3, q4⟩ := X13_feed_loop (v := x2) (Ilen_f k2 hL) (by omega) hf (show tI u 1354 0 = nt n by rw [(k2.1 1354 rfl).2.1, e2])
  refine ⟨nt (n + a), u, w, ?_, ?_, ⟨n + a, hf, ?_, q4, fun i hi => ?_⟩, ⟨?_, ?_, fun j hj => ?_⟩, frm_tr (frm_sb k2 (ks_sb rfl)) (frm_sb q2 (ks_sb rfl))⟩
  · rw [hc, if_pos hf, k1, ob2_s, if_neg (by decide), k5]
  · show F_X13_feed u (nt a) x2 = _
    rw [hm u (by rw [(k2.1 1354 rfl).2.1, e2]), if_pos hf, q1]
  · rw [(q2.1 701 rfl).2.1, k5]
  · rw [q3, (q2.1 2700 rfl).2.2.2.2.1, k4, (k2.1 3353 rfl).2.2.2.2.1]
    unfold putB
    by_cases h : n ≤ i ∧ i < n + a
    · rw [if_pos h, if_pos h]
    · rw [if_neg h, if_neg h, e3 i (by omega)]
  · rw [(q2.1 2700 rfl).1, k3.1]
  · rw [(q2.1 2700 rfl).2.2.2.1, k3.2.1]
  · rw [(q2.1 2700 rfl).2.2.2.2.1, k3.2.2 j hj]
end
