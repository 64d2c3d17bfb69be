/-! PART 71: elements. -/
section
variable {t : TS} {nB : Nat}
def isRow (t : TS) (s so n : Nat) : Prop := so < 5 ∧ n ≤ 60 ∧ tI t 1000 s = 2 ∧ tR t 1001 s = none ∧ tI t 1002 s = nt so ∧ tI t 1003 s = nt n ∧ tA t 3393 0 s = -2 - nt so ∧ tA t 3394 0 s = nt n ∧ ∀ k, k < 60 → tJ t 3004 s k = tJ t 3395 0 (60 * s + k)
theorem has_eq {s so n : Nat} (h : isRow t s so n) (i m : Int32) : F_X10_has t s i m = some (b1 (decide (0 ≤ i ∧ 0 ≤ m ∧ i ≤ nt n ∧ m ≤ nt n - i))) := by
  obtain ⟨h1, h2, h3, h4, h5, h6, -⟩ := h
  unfold F_X10_has
  rw [h3, h6, if_neg (fun q => q rfl)]
  by_cases g1 : i < 0
  · rw [if_pos g1, decide_eq_false (fun q => Int32.not_lt.mpr q.1 g1)]; rfl
  rw [if_neg g1]
  by_cases g2 : m < 0
  · rw [if_pos g2, decide_eq_false (fun q => Int32.not_lt.mpr q.2.1 g2)]; rfl
  rw [if_neg g2]
  by_cases g3 : nt n < i
  · rw [if_pos g3, decide_eq_false (fun q => Int32.not_lt.mpr q.2.2.1 g3)]; rfl
  rw [if_neg g3]
  by_cases g4 : nt n - i < m
  · rw [if_pos g4, decide_eq_false (fun q => Int32.not_lt.mpr q.2.2.2 g4)]; rfl
  rw [if_neg g4, decide_eq_true ⟨Int32.not_lt.mp g1, Int32.not_lt.mp g2, Int32.not_lt.mp g3, Int32.not_lt.mp g4⟩]; rfl
theorem has1 {n : Nat} (hn : n ≤ 60) (i : Int32) : decide (0 ≤ i ∧ (0 : Int32) ≤ 1 ∧ i ≤ nt n ∧ 1 ≤ nt n - i) = (ix n i).isSome := by
  by_cases h0 : 0 ≤ i
  case neg =>
    have : ix n i = none := by
      cases h : ix n i with
      | none => rfl
      | some j =>
        obtain ⟨j1, j2⟩ := ix_some h
        exact absurd (j2 ▸ nt_nn (by omega)) h0
    rw [this, decide_eq_false (fun q => h0 q.1)]; rfl
  by_cases h1 : i ≤ nt n
  case neg =>
    have : ix n i = none := by
      cases h : ix n i with
      | none => rfl
      | some j =>
        obtain ⟨j1, j2⟩ := ix_some h
        rw [j2, ge_nt (by omega) (by omega)] at h1
        omega
    rw [this, decide_eq_false (fun q => h1 q.2.2.1)]; rfl
  obtain ⟨a, ha, rfl⟩ := nt_exb h0 (by omega) h1
  have hs : nt n - nt a = nt (n - a) := nt_sub ha
  have hle : ((1 : Int32) ≤ nt (n - a)) = (1 ≤ n - a) := ge_nt (n := 1) (by omega) (by omega)
  rw [hs]
  by_cases h2 : a < n
  · rw [ix_nt h2 (by omega), decide_eq_true ⟨h0, by decide, h1, by rw [hle]; omega⟩]; rfl
  · have : ix n (nt a) = none := by
      cases h : ix n (nt a) with
      | none => rfl
      | some j =>
        obtain ⟨j1, j2⟩ := ix_some h
        rw [eq_nt (by omega) (by omega)] at j2
        omega
    rw [this, decide_eq_false (fun q => by have := q.2.2.2; rw [hle] at this; omega)]; rfl
theorem refuse (x1 x2 : Int32) (hL : Ilen t) (h150 : nB ≤ 150) (hI : Ishelf nB t) : ∃ r, F_X12_elementRefusal t x1 x2 = some r ∧ F_X13_whyNoPlace t x1 x2 = some r ∧ ((r = 0 ∧ ∃ s i so n, x1 = nt s ∧ x2 = nt i ∧ s < 6 ∧ i < n ∧ isRow t s so n) ∨ (¬ r = 0 ∧ ¬ 0 ≤ r)) := by
  unfold F_X12_elementRefusal F_X13_whyNoPlace
  rw [shelfAt_eq hL hI, isShelf_eq, ob_s, ob_s]
  cases hx : ix 6 x1 with
  | none => exact ⟨-1, rfl, rfl, Or.inr ⟨by decide, by decide⟩⟩
  | some s =>
  obtain ⟨hs, rfl⟩ := ix_some hx
  rw [oc_s, isS_s, gw1, if_pos rfl, (show tL _ 3393 0 = 6 from hL 3393 rfl), (show tL _ 3394 0 = 6 from hL 3394 rfl)]
  simp (disch := omega) only [gd_nt, nt_cl, nxt_e, oc_s, oc_n, ob_s, ob2_s, gb_b1, gb_0, gb_1, gw0, gw1]
  rcases (hI s hs).2.2 with ⟨g1, g2, g3⟩ | ⟨b, hb, g1, g2, g3⟩ | ⟨so, n, hso, hn, g1, g2, g3, g4, g5, g6, g7⟩
  · exact ⟨-11, by rw [g1, if_neg (fun q => q rfl)], by rw [g3, if_neg (fun q => q rfl)], Or.inr ⟨by decide, by decide⟩⟩
  · exact ⟨-12, by rw [g1, if_pos (by decide), if_neg (by decide)], by rw [g3, if_pos (nneg (by omega)), if_neg (nt_neg (by omega))], Or.inr ⟨by decide, by decide⟩⟩
  · obtain ⟨n1, n2, n3, n4⟩ := sneg so hso
    have hr : isRow t s so n := ⟨hso, hn, g1, g2, g3, g4, g5, g6, g7⟩
    rw [has_eq hr, has1 hn, g1, if_pos (by decide), if_pos rfl, g5, if_pos n2, if_pos n1, g6, in_eq, dix (by omega), ob_s, gw0]
    cases hy : ix n x2 with
    | none => exact ⟨-13, rfl, rfl, Or.inr ⟨by decide, by decide⟩⟩
    | some i => exact ⟨0, rfl, rfl, Or.inl ⟨rfl, s, i, so, n, rfl, (ix_some hy).2, hs, (ix_some hy).1, hr⟩⟩
theorem m_element (x1 x2 : Int32) (hL : Ilen t) (h150 : nB ≤ 150) (hI : Ishelf nB t) : ∃ r, F_X12_element t x1 x2 = some r ∧ F_X13_element t x1 x2 = some r := by
  obtain ⟨r, h1, h2, h3⟩ := refuse x1 x2 hL h150 hI
  unfold F_X12_element F_X13_element
  rw [h1, h2, ob_s, ob_s]
  rcases h3 with ⟨rfl, s, i, so, n, rfl, rfl, hs, hi, hr⟩ | ⟨h4, h5⟩
  · obtain ⟨hso, hn, -, -, -, -, -, -, g7⟩ := hr
    refine ⟨tJ t 3395 0 (60 * s + i), ?_, ?_⟩
    · rw [if_neg (fun q => q rfl), (show tL _ 3219 0 = 6 from hL 3219 rfl)]
      simp (disch := omega) only [gd_nt, nt_cl, nxt_e, oc_s, oc_n, ob_s, ob2_s, gb_b1, gb_0, gb_1, gw0, gw1, (hI s hs).1, (hI s hs).2.1]
      rw [g7 i (by omega)]
    · rw [if_pos (by decide), show (60 : Int32) * nt s + nt i = nt (60 * s + i) by rw [show (60 : Int32) = nt 60 from rfl, nt_mul, nt_add], (show tL _ 3395 0 = 360 from hL 3395 rfl), gd_nt _ (by omega) (by omega), nt_cl (by omega)]
  · exact ⟨-9223372036854775808, by rw [if_pos h4], by rw [if_neg h5]⟩
theorem Ishelf_J {t' : TS} (h : frm (ks [3004, 3395, 3396]) t t') (hl : tL t' 3004 = tL t 3004) (hI : Ishelf nB t) (hj : ∀ s, s < 6 → (∀ k, k < 60 → tJ t 3004 s k = tJ t 3395 0 (60 * s + k)) → ∀ k, k < 60 → tJ t' 3004 s k = tJ t' 3395 0 (60 * s + k)) : Ishelf nB t' := by
  intro s hs
  have g := hI s hs
  unfold sh0 at g ⊢
  rw [(h.1 3219 rfl).2.2.2.2.2.2, hl, (h.1 1000 rfl).2.1, (h.1 1001 rfl).2.2.1, (h.1 1002 rfl).2.1, (h.1 1003 rfl).2.1, (h.1 3393 rfl).2.2.2.2.1, (h.1 3394 rfl).2.2.2.2.1]
  refine ⟨g.1, g.2.1, ?_⟩
  rcases g.2.2 with g | g | ⟨so, n, a1, a2, a3, a4, a5, a6, a7, a8, a9⟩
  · exact Or.inl g
  · exact Or.inr (Or.inl g)
  · exact Or.inr (Or.inr ⟨so, n, a1, a2, a3, a4, a5, a6, a7, a8, hj s hs a9⟩)
theorem whyNo_f {t' : TS} (x1 x2 : Int32) (hL : Ilen t) (hL' : Ilen t') (h1 : tA t' 3393 = tA t 3393) (h2 : tA t' 3394 = tA t 3394) : F_X13_whyNoPlace t' x1 x2 = F_X13_whyNoPlace t x1 x2 := by
  unfold F_X13_whyNoPlace
  simp only [isShelf_eq, in_eq, h1, h2, (show tL _ 3393 0 = 6 from hL 3393 rfl), (show tL _ 3394 0 = 6 from hL 3394 rfl), (show tL _ 3393 0 = 6 from hL' 3393 rfl), (show tL _ 3394 0 = 6 from hL' 3394 rfl)]
theorem m_put (x1 x2 : Int32) (x3 : Int64) (hL : Ilen t) (h150 : nB ≤ 150) (hI : Ishelf nB t) : Eqm (F_X12_put t x1 x2 x3) (fun t => F_X13_put t x1 x2 x3) (fun t2 => Ishelf nB t2 ∧ frm (ks kShelf) t t2) := by
  obtain ⟨r, h1, h2, h3⟩ := refuse x1 x2 hL h150 hI
  rcases h3 with ⟨rfl, s, i, so, n, rfl, rfl, hs, hi, hr⟩ | ⟨h4, h5⟩
  case inr =>
    exact ⟨r, t, t, by unfold F_X12_put; rw [h1, ob_s, if_neg h4], by show F_X13_put t x1 x2 x3 = _; unfold F_X13_put; rw [h2, ob_s, if_neg h5], hI, frm_rf⟩
  obtain ⟨hso, hn, -, -, g3, -, g5, -, g7⟩ := hr
  obtain ⟨n1, n2, n3, n4⟩ := sneg so hso
  obtain ⟨v, hv1, hv2⟩ : ∃ v, F_X10_fitted t s x3 = some v ∧ ∀ u (A : Int64 → Option (Int32 × TS)), (∀ w, A w = B_X13_put_95 u w ((60 * nt s) + nt i)) → (if ¬ nt so = 0 then (if ¬ nt so = 1 then (if ¬ nt so = 2 then (if ¬ nt so = 3 then (if (lg_cmp x3 0) = 0 then A 0 else A 1) else A x3) else A ((x3.toInt32).toInt64)) else A (((x3.toInt32).toInt16.toInt32).toInt64)) else A (((x3.toInt32).toInt8.toInt32).toInt64)) = A v := by
    unfold F_X10_fitted
    rw [g3]
    have hso' : so = 0 ∨ so = 1 ∨ so = 2 ∨ so = 3 ∨ so = 4 := by omega
    rcases hso' with rfl | rfl | rfl | rfl | rfl
    · exact ⟨_, rfl, fun u A _ => rfl⟩
    · exact ⟨_, rfl, fun u A _ => rfl⟩
    · exact ⟨_, rfl, fun u A _ => rfl⟩
    · exact ⟨_, rfl, fun u A _ => rfl⟩
    · refine ⟨if lg_cmp x3 0 = 0 then 0 else 1, ?_, fun u A _ => ?_⟩
      · show (if lg_cmp x3 0 = 0 then some 0 else some 1) = _
        by_cases e : lg_cmp x3 0 = 0
        · rw [if_pos e, if_pos e]
        · rw [if_neg e, if_neg e]
      · show (if lg_cmp x3 0 = 0 then A 0 else A 1) = _
        by_cases e : lg_cmp x3 0 = 0
        · rw [if_pos e, if_pos e]
        · rw [if_neg e, if_neg e]
  have hf : frm (ks [3004, 3395, 3396]) t (uJ t 3004 s i v) := frm_uJ rfl
  have hL1 := Ilen_f hf hL
  have e0 : (60 : Int32) * nt s + nt i = nt (60 * s + i) := by rw [show (60 : Int32) = nt 60 from rfl, nt_mul, nt_add]
  refine ⟨1, uJ t 3004 s i v, uJ (uJ t 3004 s i v) 3395 0 (60 * s + i) v, ?_, ?_, Ishelf_J (frm_tr hf (frm_uJ rfl)) rfl hI (fun s' hs' hk k hk2 => ?_), frm_tr (frm_uJ rfl) (frm_uJ rfl)⟩
  · unfold F_X12_put
    rw [h1, ob_s, if_pos rfl, (show tL _ 3219 0 = 6 from hL 3219 rfl)]
    simp (disch := omega) only [gd_nt, nt_cl, nxt_e, oc_s, oc_n, ob_s, ob2_s, gb_b1, gb_0, gb_1, gw0, gw1, (hI s hs).1, (hI s hs).2.1, hv1]
  · show F_X13_put (uJ t 3004 s i v) (nt s) (nt i) x3 = _
    unfold F_X13_put
    rw [whyNo_f (nt s) (nt i) hL hL1 rfl rfl, h2, ob_s, if_pos (by decide), (show tL _ 3393 0 = 6 from hL1 3393 rfl), gd_nt _ (by omega) (by omega), nt_cl (by omega), show tA (uJ t 3004 s i v) 3393 = tA t 3393 from rfl, g5, n3, hv2 (uJ t 3004 s i v) (fun w => B_X13_put_95 (uJ t 3004 s i v) w ((60 * nt s) + nt i)) (fun _ => rfl)]
    show B_X13_put_95 (uJ t 3004 s i v) v ((60 * nt s) + nt i) = _
    unfold B_X13_put_95
    rw [e0, (show tL _ 3395 0 = 360 from hL1 3395 rfl), gd_nt _ (by omega) (by omega), nt_cl (by omega), nxt_e]
  · simp (disch := omega) only [I_uI, I_uI_n, R_uR, R_uR_n, A_uA, A_uA_n, J_uJ, J_uJ_n, Q_uQ, Q_uQ_n, E_uO, E_uO_n, I_uO, I_uO_n, R_uO, R_uO_n, E_uN, E_uN_n, L_uN, L_uN_n, A_uN, A_uN_n, J_uN, J_uN_n, Q_uN, Q_uN_n, A_uCA, A_uCA_n, J_uCJ, J_uCJ_n, E_uI, R_uI, L_uI, A_uI, J_uI, Q_uI, E_uR, I_uR, L_uR, A_uR, J_uR, Q_uR, E_uA, I_uA, R_uA, L_uA, J_uA, Q_uA, E_uJ, I_uJ, R_uJ, L_uJ, A_uJ, Q_uJ, E_uQ, I_uQ, R_uQ, L_uQ, A_uQ, J_uQ, L_uO, A_uO, J_uO, Q_uO, I_uN, R_uN, E_uCA, I_uCA, R_uCA, L_uCA, J_uCA, Q_uCA, E_uCJ, I_uCJ, R_uCJ, L_uCJ, A_uCJ, Q_uCJ, m1_s]
    by_cases e : s' = s
    · subst e
      rw [m1_s]
      by_cases e2 : k = i
      · subst e2; rw [m1_s, m1_s]
      · rw [m1_n e2, m1_n (by omega), hk k hk2]
    · rw [m1_n e, m1_n (by omega), hk k hk2]
end
