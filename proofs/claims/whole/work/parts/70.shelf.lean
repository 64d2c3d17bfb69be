/-! PART 70: shelves. -/
section
variable {t : TS} {nB : Nat}
def sh0 (nB s : Nat) (t : TS) : Prop := (tI t 1000 s = 0 ∧ tR t 1001 s = none ∧ tA t 3393 0 s = -1) ∨ (∃ b, b < nB ∧ tI t 1000 s = 1 ∧ tR t 1001 s = some b ∧ tA t 3393 0 s = nt b) ∨ ∃ so n, so < 5 ∧ n ≤ 60 ∧ tI t 1000 s = 2 ∧ tR t 1001 s = none ∧ tI t 1002 s = nt so ∧ tI t 1003 s = nt n ∧ tA t 3393 0 s = -2 - nt so ∧ tA t 3394 0 s = nt n ∧ ∀ k, k < 60 → tJ t 3004 s k = tJ t 3395 0 (60 * s + k)
def Ishelf (nB : Nat) (t : TS) : Prop := ∀ s, s < 6 → tQ t 3219 0 s = some s ∧ tL t 3004 s = 60 ∧ sh0 nB s t
def kShelf : List Nat := [1000, 1001, 1002, 1003, 3004, 3219, 3393, 3394, 3395]
theorem Ishelf_f {D : Nat → Bool} {t t' : TS} (h : frm D t t') (hd : ∀ k, k ∈ kShelf → D k = false) (hI : Ishelf nB t) : Ishelf nB t' := by
  unfold Ishelf sh0 at hI ⊢
  simp only [(h.1 1000 (hd 1000 (by decide))).2.1, (h.1 1001 (hd 1001 (by decide))).2.2.1, (h.1 1002 (hd 1002 (by decide))).2.1, (h.1 1003 (hd 1003 (by decide))).2.1, (h.1 3004 (hd 3004 (by decide))).2.2.2.1, (h.1 3004 (hd 3004 (by decide))).2.2.2.2.2.1, (h.1 3219 (hd 3219 (by decide))).2.2.2.2.2.2, (h.1 3393 (hd 3393 (by decide))).2.2.2.2.1, (h.1 3394 (hd 3394 (by decide))).2.2.2.2.1, (h.1 3395 (hd 3395 (by decide))).2.2.2.2.2.1]
  exact hI
theorem Ishelf_up {nB' : Nat} (h : nB ≤ nB') (hI : Ishelf nB t) : Ishelf nB' t := fun s hs => ⟨(hI s hs).1, (hI s hs).2.1, by
  rcases (hI s hs).2.2 with g | ⟨b, hb, g⟩ | g
  · exact Or.inl g
  · exact Or.inr (Or.inl ⟨b, by omega, g⟩)
  · exact Or.inr (Or.inr g)⟩
theorem shelfAt_eq (hL : Ilen t) (hI : Ishelf nB t) (x : Int32) : F_X12_shelfAt t x = some (ix 6 x) := by
  unfold F_X12_shelfAt
  rw [win_eq, (show tL _ 3219 0 = 6 from hL 3219 rfl)]
  refine (look (n := 6) (N := 6) (x := x) (by omega) (by omega) (some none) (fun i => some (tQ t 3219 0 i))).trans ?_
  cases h : ix 6 x with
  | none => rfl
  | some i => rw [oel_s, (hI i (ix_some h).1).1]
theorem isShelf_eq (x : Int32) : F_X13_isShelf t x = some (b1 (ix 6 x).isSome) := by
  unfold F_X13_isShelf
  rw [in_eq, show (5 : Int32) = nt 6 - 1 by decide, dix (by omega), ob_s, gb_b1]
theorem sneg : ∀ so, so < 5 → (-2 - nt so < 0) ∧ ¬ (-2 - nt so = -1) ∧ -2 - (-2 - nt so) = nt so ∧ ¬ (0 ≤ -2 - nt so) := by decide
theorem nneg {b : Nat} (h : b < 2147483648) : ¬ nt b = -1 := fun e => by
  have := nt_nn h
  rw [e] at this
  exact absurd this (by decide)
theorem isUnder_eq (N : Nat) {k j : Nat} (hk : k < 8) (hj : j < 8) : B_X1_isUnder_5 (N + 5) t (nt j) (nt k) = F_X13_isUnder t (nt k) (nt j) := by
  have hk' : k = 0 ∨ k = 1 ∨ k = 2 ∨ k = 3 ∨ k = 4 ∨ k = 5 ∨ k = 6 ∨ k = 7 := by omega
  have hj' : j = 0 ∨ j = 1 ∨ j = 2 ∨ j = 3 ∨ j = 4 ∨ j = 5 ∨ j = 6 ∨ j = 7 := by omega
  rcases hk' with rfl | rfl | rfl | rfl | rfl | rfl | rfl | rfl <;> rcases hj' with rfl | rfl | rfl | rfl | rfl | rfl | rfl | rfl <;> rfl
theorem X1_isUnder_eq {b k j : Nat} (h : tI t 101 b = nt k) (hk : k < 8) (hj : j < 8) : F_X1_isUnder t b (nt j) = F_X13_isUnder t (nt k) (nt j) := by
  unfold F_X1_isUnder
  rw [h]
  obtain ⟨N, hN⟩ : ∃ N : Nat, 10000 = N + 5 := ⟨9995, rfl⟩
  rw [hN]
  exact isUnder_eq N hk hj
theorem m_keep (x1 x2 : Int32) (hL : Ilen t) (hB : Ibody nB t) (hI : Ishelf nB t) : Eqm (F_X12_keep t x1 x2) (fun t => F_X13_keep t x1 x2) (fun t2 => Ishelf nB t2 ∧ frm (ks kShelf) t t2) := by
  have h150 := hB.1
  have hbad : ∀ r, F_X12_keep t x1 x2 = some (r, t) → F_X13_keep t x1 x2 = some (r, t) → Eqm (F_X12_keep t x1 x2) (fun t => F_X13_keep t x1 x2) (fun t2 => Ishelf nB t2 ∧ frm (ks kShelf) t t2) := fun r h1 h2 => ⟨r, t, t, h1, h2, hI, frm_rf⟩
  cases hx : ix 6 x1 with
  | none => exact hbad (-1) (by simp only [F_X12_keep, shelfAt_eq hL hI, bodyAt_eq hL hB, hx, nxt_e, oc_s, oc_n, ob_s, ob2_s, gb_b1, gb_0, gb_1, gw0, gw1]) (by simp only [F_X13_keep, isShelf_eq, hx, isS_n, nxt_e, oc_s, oc_n, ob_s, ob2_s, gb_b1, gb_0, gb_1, gw0, gw1, Bool.false_eq_true, Bool.true_eq_false, if_true, if_false, not_true_eq_false, not_false_eq_true])
  | some s =>
  obtain ⟨hs, rfl⟩ := ix_some hx
  have fin : ∀ (o : Option Nat) (a b : Int32), (o = none → a = 0 ∧ b = -1) → (∀ q, o = some q → q < nB ∧ a = 1 ∧ b = nt q) → Ishelf nB (uA (uR (uI t 1000 s a) 1001 s o) 3393 0 s b) := by
    intro o a b h1 h2 s' hs'
    refine ⟨(hI s' hs').1, (hI s' hs').2.1, ?_⟩
    have g := (hI s' hs').2.2
    unfold sh0 at g ⊢
    simp (disch := omega) only [I_uI, I_uI_n, R_uR, R_uR_n, A_uA, A_uA_n, J_uJ, J_uJ_n, Q_uQ, Q_uQ_n, E_uO, E_uO_n, I_uO, I_uO_n, R_uO, R_uO_n, E_uN, E_uN_n, L_uN, L_uN_n, A_uN, A_uN_n, J_uN, J_uN_n, Q_uN, Q_uN_n, A_uCA, A_uCA_n, J_uCJ, J_uCJ_n, E_uI, R_uI, L_uI, A_uI, J_uI, Q_uI, E_uR, I_uR, L_uR, A_uR, J_uR, Q_uR, E_uA, I_uA, R_uA, L_uA, J_uA, Q_uA, E_uJ, I_uJ, R_uJ, L_uJ, A_uJ, Q_uJ, E_uQ, I_uQ, R_uQ, L_uQ, A_uQ, J_uQ, L_uO, A_uO, J_uO, Q_uO, I_uN, R_uN, E_uCA, I_uCA, R_uCA, L_uCA, J_uCA, Q_uCA, E_uCJ, I_uCJ, R_uCJ, L_uCJ, A_uCJ, Q_uCJ, m1_s]
    by_cases e : s' = s
    · subst e
      simp only [m1_s]
      cases o with
      | none => exact Or.inl ⟨(h1 rfl).1, rfl, (h1 rfl).2⟩
      | some q => exact Or.inr (Or.inl ⟨q, (h2 q rfl).1, (h2 q rfl).2.1, rfl, (h2 q rfl).2.2⟩)
    · simp only [m1_n e]
      exact g
  have hcl : ∀ o : Option Nat, B_X12_keep_29 t s o = some (1, uR (uI t 1000 s (oel o 0 (fun _ => 1))) 1001 s o) := by
    intro o
    unfold B_X12_keep_29 F_X10_hold B_X10_hold_10
    cases o <;> rfl
  have hml : ∀ v, Ilen v → B_X13_keep_22 v (nt s) x2 = some (1, uA v 3393 0 s x2) := by
    intro v hv
    unfold B_X13_keep_22
    simp (disch := omega) only [(show tL _ 3393 0 = 6 from hv 3393 rfl), gd_nt, nt_cl, nxt_e, oc_s, oc_n, ob_s, ob2_s, gb_b1, gb_0, gb_1, gw0, gw1]
  by_cases h1 : x2 = -1
  · subst h1
    have hb : ix nB (-1) = none := by
      cases h : ix nB (-1) with
      | none => rfl
      | some j => exact absurd (ix_some h).2.symm (nneg (by have := (ix_some h).1; omega))
    refine ⟨1, uR (uI t 1000 s 0) 1001 s none, uA (uR (uI t 1000 s 0) 1001 s none) 3393 0 s (-1), ?_, ?_, fin none 0 (-1) (fun _ => ⟨rfl, rfl⟩) (fun q h => by cases h), frm_tr (frm_uI rfl) (frm_tr (frm_uR rfl) (frm_uA rfl))⟩
    · simp only [F_X12_keep, shelfAt_eq hL hI, bodyAt_eq hL hB, hx, hb, nxt_e, oc_s, oc_n, ob_s, ob2_s, gb_b1, gb_0, gb_1, gw0, gw1]
      rw [if_pos trivial]
      exact hcl none
    · show F_X13_keep (uR (uI t 1000 s 0) 1001 s none) (nt s) (-1) = _
      simp only [F_X13_keep, isShelf_eq, hx, isS_s, nxt_e, oc_s, oc_n, ob_s, ob2_s, gb_b1, gb_0, gb_1, gw0, gw1, Bool.false_eq_true, Bool.true_eq_false, if_true, if_false, not_true_eq_false, not_false_eq_true]
      exact hml _ (Ilen_f (frm_tr (frm_uI rfl) (frm_uR rfl) : frm (ks [1000, 1001]) t _) hL)
  · cases hb : ix nB x2 with
    | none => exact hbad (-1) (by simp only [F_X12_keep, shelfAt_eq hL hI, bodyAt_eq hL hB, hx, hb, nxt_e, oc_s, oc_n, ob_s, ob2_s, gb_b1, gb_0, gb_1, gw0, gw1]; rw [if_neg h1]) (by
        simp only [F_X13_keep, isShelf_eq, hx, isS_s, isBody_eq hB, hb, isS_n, nxt_e, oc_s, oc_n, ob_s, ob2_s, gb_b1, gb_0, gb_1, gw0, gw1, Bool.false_eq_true, Bool.true_eq_false, if_true, if_false, not_true_eq_false, not_false_eq_true]; rw [if_neg h1])
    | some b =>
      obtain ⟨hb1, rfl⟩ := ix_some hb
      have hfr : frm (ks kShelf) t (uR (uI t 1000 s 1) 1001 s (some b)) := frm_tr (frm_uI rfl) (frm_uR rfl)
      refine ⟨1, uR (uI t 1000 s 1) 1001 s (some b), uA (uR (uI t 1000 s 1) 1001 s (some b)) 3393 0 s (nt b), ?_, ?_, fin (some b) 1 (nt b) (fun h => by cases h) (fun q h => by cases h; exact ⟨hb1, rfl, rfl⟩), frm_tr hfr (frm_uA rfl)⟩
      · simp only [F_X12_keep, shelfAt_eq hL hI, bodyAt_eq hL hB, hx, hb, nxt_e, oc_s, oc_n, ob_s, ob2_s, gb_b1, gb_0, gb_1, gw0, gw1]
        rw [if_neg h1]
        exact hcl (some b)
      · show F_X13_keep (uR (uI t 1000 s 1) 1001 s (some b)) (nt s) (nt b) = _
        simp only [F_X13_keep, isShelf_eq, hx, isS_s, isBody_eqM (IbM (Ibody_f hfr (by decide) hB)), hb, nxt_e, oc_s, oc_n, ob_s, ob2_s, gb_b1, gb_0, gb_1, gw0, gw1, Bool.false_eq_true, Bool.true_eq_false, if_true, if_false, not_true_eq_false, not_false_eq_true]
        rw [if_neg h1]
        exact hml _ (Ilen_f hfr hL)
theorem m_taken (x1 x2 : Int32) (hL : Ilen t) (hB : Ibody nB t) (hI : Ishelf nB t) : ∃ r, F_X12_taken t x1 x2 = some r ∧ F_X13_taken t x1 x2 = some r := by
  have h150 := hB.1
  unfold F_X12_taken F_X13_taken
  rw [shelfAt_eq hL hI, isShelf_eq, ob_s, ob_s]
  cases hx : ix 6 x1 with
  | none => exact ⟨-1, rfl, rfl⟩
  | some s =>
  obtain ⟨hs, rfl⟩ := ix_some hx
  rw [oc_s, isS_s, gw0, if_pos rfl, win_eq, in_eq, ob_s, ob_s, gw1, gw1]
  by_cases h2 : 0 ≤ x2 ∧ x2 ≤ 7
  case neg => exact ⟨-1, by rw [decide_eq_false h2, if_neg (by decide)], by rw [decide_eq_false h2, if_neg (by decide)]⟩
  obtain ⟨j, hj, rfl⟩ := nt_exb (b := 7) h2.1 (by omega) h2.2
  rw [decide_eq_true h2, if_pos rfl, if_pos rfl, (show tL _ 3393 0 = 6 from hL 3393 rfl), (show tL _ 3308 0 = 150 from hL 3308 rfl)]
  simp (disch := omega) only [gd_nt, nt_cl, nxt_e, oc_s, oc_n, ob_s, ob2_s, gb_b1, gb_0, gb_1, gw0, gw1]
  rcases (hI s hs).2.2 with ⟨g1, g2, g3⟩ | ⟨b, hb, g1, g2, g3⟩ | ⟨so, n, hso, hn, g1, g2, g3, g4, g5, g6, g7⟩
  · exact ⟨-11, by rw [g1, if_neg (fun q => q rfl)], by rw [g3, if_neg (fun q => q rfl)]⟩
  · obtain ⟨-, -, -, q4, -, -, -, -, ⟨k, hk, q9⟩, -⟩ := hB.2.2.2.1 b hb
    rw [q9] at q4
    rw [g1, if_pos (by decide), g2, oc_s, oc_s, X1_isUnder_eq q4 hk (by omega), g3, if_pos (nneg (by omega)), if_neg (nt_neg (by omega)), oc_s, q4]
    simp (disch := omega) only [gd_nt, nt_cl, q9]
    have hz : ∃ y, F_X13_isUnder t (nt k) (nt j) = some y := by
      have hk' : k = 0 ∨ k = 1 ∨ k = 2 ∨ k = 3 ∨ k = 4 ∨ k = 5 ∨ k = 6 ∨ k = 7 := by omega
      have hj' : j = 0 ∨ j = 1 ∨ j = 2 ∨ j = 3 ∨ j = 4 ∨ j = 5 ∨ j = 6 ∨ j = 7 := by omega
      rcases hk' with rfl | rfl | rfl | rfl | rfl | rfl | rfl | rfl <;> rcases hj' with rfl | rfl | rfl | rfl | rfl | rfl | rfl | rfl <;> exact ⟨_, rfl⟩
    obtain ⟨y, hy⟩ := hz
    rw [hy, ob_s]
    exact ⟨if y = 0 then -12 else nt k, by by_cases e : y = 0 <;> simp [e], by by_cases e : y = 0 <;> simp [e]⟩
  · obtain ⟨n1, n2, n3, n4⟩ := sneg so hso
    exact ⟨-12, by rw [g1, if_pos (by decide), g2, oc_n], by rw [g5, if_pos n2, if_pos n1]⟩
end
