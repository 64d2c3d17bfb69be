/-! PART c4: rules: the whole texts. -/
theorem bt_rng : ∀ k, k < 256 → decide ((-128 : Int32) ≤ bt k ∧ bt k ≤ 127) = true := by decide +kernel
def Ibyt (t : TS) : Prop := ∀ i, i < 160 → ∃ k, k < 256 ∧ tA t 3353 0 i = bt k
theorem Ibyt_f {D : Nat → Bool} {t t' : TS} (h : frm D t t') (hd : D 3353 = false) (hI : Ibyt t) : Ibyt t' := fun i hi => by
  rw [(h.1 3353 hd).2.2.2.2.1]; exact hI i hi
def Irule1 (t : TS) (r : Nat) : Prop := ∃ (T : Nat → Nat) (L : Nat), L ≤ 160 ∧ (∀ i, i < L → tA t 2700 (r + 1) i = bt (T i) ∧ T i < 256) ∧ tL t 2700 (r + 1) = L ∧ tR t 903 r = some (r + 1) ∧ (pRu (chA T L) 200 0 []).1 = true ∧ rSt t r (pRu (chA T L) 200 0 []).2.2 ∧ tI t 904 r = nmk 0 (pRu (chA T L) 200 0 []).2.2.flatten
def Irule (nR : Nat) (t : TS) : Prop := (∀ r, r < nR → Irule1 t r) ∧ ∀ r, nR ≤ r → tE t 9 r = false ∧ tE t 2700 (r + 1) = false
def kRule : List Nat := [9, 903, 904, 2700, 3359, 3360, 3361, 3362]
theorem Irule_f {D : Nat → Bool} {t t' : TS} {nR : Nat} (h : frm D t t') (hd : ∀ k, k ∈ kRule → D k = false) (hI : Irule nR t) : Irule nR t' := by
  unfold Irule Irule1 rSt at hI ⊢
  simp only [(h.1 9 (hd 9 (by decide))).1, (h.1 903 (hd 903 (by decide))).2.2.1, (h.1 904 (hd 904 (by decide))).2.1, (h.1 2700 (hd 2700 (by decide))).2.2.2.2.1, (h.1 2700 (hd 2700 (by decide))).2.2.2.1, (h.1 2700 (hd 2700 (by decide))).1, (h.1 3359 (hd 3359 (by decide))).2.2.2.2.1, (h.1 3360 (hd 3360 (by decide))).2.2.2.2.1, (h.1 3361 (hd 3361 (by decide))).2.2.2.2.1, (h.1 3362 (hd 3362 (by decide))).2.2.2.2.1]
  exact hI
section
variable {t : TS} {nR n : Nat} {T : Nat → Nat} {V : Nat → Int32}
theorem begin_eq (hL : Ilen t) {j : Nat} {L : Nat} (hn : L ≤ 160) (hl : L ≤ tL t 2700 j) (hj : tL t 2700 j ≤ 160) (hb : ∀ i, i < L → tA t 2700 j i = bt (T i) ∧ T i < 256) (hV : tA t 2702 0 = V) : ∃ u, F_X7_begin t (some j) (nt L) = some u ∧ frm (ks [703, 704, 705, 706, 707]) t u ∧ cD u T L j V ∧ cAt u 0 0 := by
  have e : (if Int32.ofNat (tL (uR t 704 0 (some j)) 2700 j) < nt L then Int32.ofNat (tL (uR t 704 0 (some j)) 2700 j) else nt L) = nt L := by
    show (if nt (tL t 2700 j) < nt L then nt (tL t 2700 j) else nt L) = nt L
    rw [ilT (by omega) (by omega), if_neg (by omega)]
  refine ⟨uI (uI (uI (uI (uR t 704 0 (some j)) 705 0 (nt L)) 706 0 0) 707 0 (-1)) 703 0 0, ?_, frm_tr (frm_uR rfl) (frm_tr (frm_uI rfl) (frm_tr (frm_uI rfl) (frm_tr (frm_uI rfl) (frm_uI rfl)))), ?_, ?_⟩
  · unfold F_X7_begin
    rw [nxt_e, oc_s, nxt_e, nxt_e, nxt_e, nxt_e, e]
  · refine ⟨hn, ?_, ?_, ?_, fun i hi => ?_, ?_⟩
    · simp (disch := omega) only [I_uI, I_uI_n, R_uR, R_uR_n, A_uA, A_uA_n, J_uJ, J_uJ_n, Q_uQ, Q_uQ_n, E_uO, E_uO_n, I_uO, I_uO_n, R_uO, R_uO_n, E_uN, E_uN_n, L_uN, L_uN_n, A_uN, A_uN_n, J_uN, J_uN_n, Q_uN, Q_uN_n, A_uCA, A_uCA_n, J_uCJ, J_uCJ_n, E_uI, R_uI, L_uI, A_uI, J_uI, Q_uI, E_uR, I_uR, L_uR, A_uR, J_uR, Q_uR, E_uA, I_uA, R_uA, L_uA, J_uA, Q_uA, E_uJ, I_uJ, R_uJ, L_uJ, A_uJ, Q_uJ, E_uQ, I_uQ, R_uQ, L_uQ, A_uQ, J_uQ, L_uO, A_uO, J_uO, Q_uO, I_uN, R_uN, E_uCA, I_uCA, R_uCA, L_uCA, J_uCA, Q_uCA, E_uCJ, I_uCJ, R_uCJ, L_uCJ, A_uCJ, Q_uCJ, m1_s]
    · simp (disch := omega) only [I_uI, I_uI_n, R_uR, R_uR_n, A_uA, A_uA_n, J_uJ, J_uJ_n, Q_uQ, Q_uQ_n, E_uO, E_uO_n, I_uO, I_uO_n, R_uO, R_uO_n, E_uN, E_uN_n, L_uN, L_uN_n, A_uN, A_uN_n, J_uN, J_uN_n, Q_uN, Q_uN_n, A_uCA, A_uCA_n, J_uCJ, J_uCJ_n, E_uI, R_uI, L_uI, A_uI, J_uI, Q_uI, E_uR, I_uR, L_uR, A_uR, J_uR, Q_uR, E_uA, I_uA, R_uA, L_uA, J_uA, Q_uA, E_uJ, I_uJ, R_uJ, L_uJ, A_uJ, Q_uJ, E_uQ, I_uQ, R_uQ, L_uQ, A_uQ, J_uQ, L_uO, A_uO, J_uO, Q_uO, I_uN, R_uN, E_uCA, I_uCA, R_uCA, L_uCA, J_uCA, Q_uCA, E_uCJ, I_uCJ, R_uCJ, L_uCJ, A_uCJ, Q_uCJ, m1_s]
    · simp (disch := omega) only [I_uI, I_uI_n, R_uR, R_uR_n, A_uA, A_uA_n, J_uJ, J_uJ_n, Q_uQ, Q_uQ_n, E_uO, E_uO_n, I_uO, I_uO_n, R_uO, R_uO_n, E_uN, E_uN_n, L_uN, L_uN_n, A_uN, A_uN_n, J_uN, J_uN_n, Q_uN, Q_uN_n, A_uCA, A_uCA_n, J_uCJ, J_uCJ_n, E_uI, R_uI, L_uI, A_uI, J_uI, Q_uI, E_uR, I_uR, L_uR, A_uR, J_uR, Q_uR, E_uA, I_uA, R_uA, L_uA, J_uA, Q_uA, E_uJ, I_uJ, R_uJ, L_uJ, A_uJ, Q_uJ, E_uQ, I_uQ, R_uQ, L_uQ, A_uQ, J_uQ, L_uO, A_uO, J_uO, Q_uO, I_uN, R_uN, E_uCA, I_uCA, R_uCA, L_uCA, J_uCA, Q_uCA, E_uCJ, I_uCJ, R_uCJ, L_uCJ, A_uCJ, Q_uCJ, m1_s]; exact hl
    · simp (disch := omega) only [I_uI, I_uI_n, R_uR, R_uR_n, A_uA, A_uA_n, J_uJ, J_uJ_n, Q_uQ, Q_uQ_n, E_uO, E_uO_n, I_uO, I_uO_n, R_uO, R_uO_n, E_uN, E_uN_n, L_uN, L_uN_n, A_uN, A_uN_n, J_uN, J_uN_n, Q_uN, Q_uN_n, A_uCA, A_uCA_n, J_uCJ, J_uCJ_n, E_uI, R_uI, L_uI, A_uI, J_uI, Q_uI, E_uR, I_uR, L_uR, A_uR, J_uR, Q_uR, E_uA, I_uA, R_uA, L_uA, J_uA, Q_uA, E_uJ, I_uJ, R_uJ, L_uJ, A_uJ, Q_uJ, E_uQ, I_uQ, R_uQ, L_uQ, A_uQ, J_uQ, L_uO, A_uO, J_uO, Q_uO, I_uN, R_uN, E_uCA, I_uCA, R_uCA, L_uCA, J_uCA, Q_uCA, E_uCJ, I_uCJ, R_uCJ, L_uCJ, A_uCJ, Q_uCJ, m1_s]; exact hb i hi
    · simp (disch := omega) only [I_uI, I_uI_n, R_uR, R_uR_n, A_uA, A_uA_n, J_uJ, J_uJ_n, Q_uQ, Q_uQ_n, E_uO, E_uO_n, I_uO, I_uO_n, R_uO, R_uO_n, E_uN, E_uN_n, L_uN, L_uN_n, A_uN, A_uN_n, J_uN, J_uN_n, Q_uN, Q_uN_n, A_uCA, A_uCA_n, J_uCJ, J_uCJ_n, E_uI, R_uI, L_uI, A_uI, J_uI, Q_uI, E_uR, I_uR, L_uR, A_uR, J_uR, Q_uR, E_uA, I_uA, R_uA, L_uA, J_uA, Q_uA, E_uJ, I_uJ, R_uJ, L_uJ, A_uJ, Q_uJ, E_uQ, I_uQ, R_uQ, L_uQ, A_uQ, J_uQ, L_uO, A_uO, J_uO, Q_uO, I_uN, R_uN, E_uCA, I_uCA, R_uCA, L_uCA, J_uCA, Q_uCA, E_uCJ, I_uCJ, R_uCJ, L_uCJ, A_uCJ, Q_uCJ, m1_s]; exact hV
  · refine ⟨?_, ?_, ?_⟩
    · simp (disch := omega) only [I_uI, I_uI_n, R_uR, R_uR_n, A_uA, A_uA_n, J_uJ, J_uJ_n, Q_uQ, Q_uQ_n, E_uO, E_uO_n, I_uO, I_uO_n, R_uO, R_uO_n, E_uN, E_uN_n, L_uN, L_uN_n, A_uN, A_uN_n, J_uN, J_uN_n, Q_uN, Q_uN_n, A_uCA, A_uCA_n, J_uCJ, J_uCJ_n, E_uI, R_uI, L_uI, A_uI, J_uI, Q_uI, E_uR, I_uR, L_uR, A_uR, J_uR, Q_uR, E_uA, I_uA, R_uA, L_uA, J_uA, Q_uA, E_uJ, I_uJ, R_uJ, L_uJ, A_uJ, Q_uJ, E_uQ, I_uQ, R_uQ, L_uQ, A_uQ, J_uQ, L_uO, A_uO, J_uO, Q_uO, I_uN, R_uN, E_uCA, I_uCA, R_uCA, L_uCA, J_uCA, Q_uCA, E_uCJ, I_uCJ, R_uCJ, L_uCJ, A_uCJ, Q_uCJ, m1_s]; rfl
    · simp (disch := omega) only [I_uI, I_uI_n, R_uR, R_uR_n, A_uA, A_uA_n, J_uJ, J_uJ_n, Q_uQ, Q_uQ_n, E_uO, E_uO_n, I_uO, I_uO_n, R_uO, R_uO_n, E_uN, E_uN_n, L_uN, L_uN_n, A_uN, A_uN_n, J_uN, J_uN_n, Q_uN, Q_uN_n, A_uCA, A_uCA_n, J_uCJ, J_uCJ_n, E_uI, R_uI, L_uI, A_uI, J_uI, Q_uI, E_uR, I_uR, L_uR, A_uR, J_uR, Q_uR, E_uA, I_uA, R_uA, L_uA, J_uA, Q_uA, E_uJ, I_uJ, R_uJ, L_uJ, A_uJ, Q_uJ, E_uQ, I_uQ, R_uQ, L_uQ, A_uQ, J_uQ, L_uO, A_uO, J_uO, Q_uO, I_uN, R_uN, E_uCA, I_uCA, R_uCA, L_uCA, J_uCA, Q_uCA, E_uCJ, I_uCJ, R_uCJ, L_uCJ, A_uCJ, Q_uCJ, m1_s]
    · simp (disch := omega) only [I_uI, I_uI_n, R_uR, R_uR_n, A_uA, A_uA_n, J_uJ, J_uJ_n, Q_uQ, Q_uQ_n, E_uO, E_uO_n, I_uO, I_uO_n, R_uO, R_uO_n, E_uN, E_uN_n, L_uN, L_uN_n, A_uN, A_uN_n, J_uN, J_uN_n, Q_uN, Q_uN_n, A_uCA, A_uCA_n, J_uCJ, J_uCJ_n, E_uI, R_uI, L_uI, A_uI, J_uI, Q_uI, E_uR, I_uR, L_uR, A_uR, J_uR, Q_uR, E_uA, I_uA, R_uA, L_uA, J_uA, Q_uA, E_uJ, I_uJ, R_uJ, L_uJ, A_uJ, Q_uJ, E_uQ, I_uQ, R_uQ, L_uQ, A_uQ, J_uQ, L_uO, A_uO, J_uO, Q_uO, I_uN, R_uN, E_uCA, I_uCA, R_uCA, L_uCA, J_uCA, Q_uCA, E_uCJ, I_uCJ, R_uCJ, L_uCJ, A_uCJ, Q_uCJ, m1_s]
theorem fot_eq (hL : Ilen t) (hn : n ≤ 160) (h701 : tI t 701 0 = nt n) (hb : ∀ i, i < n → tA t 2700 0 i = bt (T i) ∧ T i < 256) : ∃ u, frm (ks [703, 704, 705, 706, 707]) t u ∧ (((pRu (chA T n) 200 0 []).1 = true ∧ F_X7_faultOfTape t = some (-1, u) ∧ tI u 703 0 = nmk 0 (pRu (chA T n) 200 0 []).2.2.flatten) ∨ ((pRu (chA T n) 200 0 []).1 = false ∧ F_X7_faultOfTape t = some (nt (pRu (chA T n) 200 0 []).2.1, u) ∧ (pRu (chA T n) 200 0 []).2.1 ≤ n)) := by
  have e160 : tL t 2700 0 = 160 := hL 2700 rfl
  obtain ⟨u0, a1, a2, a3, a4⟩ := begin_eq (T := T) (V := tA t 2702 0) hL hn (by omega) (by omega) hb rfl
  obtain ⟨N, hN⟩ : ∃ N : Nat, N = 10000 := ⟨_, rfl⟩
  obtain ⟨u, b1_, b2⟩ := cT 200 0 [] u0 N 0 0 (Ilen_f a2 hL) a3 a4 (Nat.zero_le _) (Nat.le_refl _) (by omega) (by omega)
  have hF : F_X7_faultOfTape t = B_X7_faultOfTape_14 N u0 (nt 0) := by
    unfold F_X7_faultOfTape
    rw [h701, a1, ob_s, hN]
    rfl
  refine ⟨u, frm_tr a2 (frm_sb b1_ (ks_sb rfl)), ?_⟩
  rw [hF]
  rcases b2 with ⟨q1, q2, ls', q3, q4⟩ | q
  · rw [List.nil_append] at q3
    exact Or.inl ⟨q1, q2, by rw [q3]; exact q4⟩
  · exact Or.inr q
/-- the text of the tape, copied -/
theorem ttext_eq (hL : Ilen t) (hn : n ≤ 160) (h701 : tI t 701 0 = nt n) (h1212 : tI t 1212 0 = nt nR) (hR : nR ≤ 16) (hE : tE t 2700 (nR + 1) = false) (hb : ∀ i, i < n → tA t 2700 0 i = bt (T i) ∧ T i < 256) : ∃ u, F_X7_tapeText t = some (some (nR + 1), u) ∧ frm (ks [2700]) t u ∧ (∀ i, i < n → tA u 2700 (nR + 1) i = bt (T i)) ∧ tL u 2700 (nR + 1) = n ∧ (∀ j, ¬ j = nR + 1 → tA u 2700 j = tA t 2700 j ∧ tL u 2700 j = tL t 2700 j ∧ tE u 2700 j = tE t 2700 j) := by
  have e160 : tL t 2700 0 = 160 := hL 2700 rfl
  have z0 : (0 : Int32).toNatClampNeg = 0 := rfl
  have hA : ∀ i, i < n → tA (uN t 2700 (nR + 1) n) 2700 0 i = bt (T i) := fun i hi => by
    rw [A_uN, m1_n (by omega)]; exact (hb i hi).1
  have hgf : ((List.range n).all fun x => decide (-128 ≤ tA (uN t 2700 (nR + 1) n) 2700 0 (0 + x) ∧ tA (uN t 2700 (nR + 1) n) 2700 0 (0 + x) ≤ 127)) = true := by
    rw [List.all_eq_true]
    intro x hx
    rw [List.mem_range] at hx
    rw [Nat.zero_add, hA x hx]
    exact bt_rng _ (hb x hx).2
  refine ⟨uCA (uN t 2700 (nR + 1) n) 2700 0 0 2700 (nR + 1) 0 n, ?_, frm_tr (frm_uN rfl (Or.inr (by omega))) (frm_uCA rfl), fun i hi => ?_, ?_, fun j hj => ⟨?_, ?_, ?_⟩⟩
  · unfold F_X7_tapeText
    have e701 : tI (uN t 2700 (nR + 1) n) 701 0 = nt n := h701
    rw [h701, gn_nt _ hn (by omega), h1212, nt_cl (by omega), gE_f _ hE, nt_cl (by omega), nxt_e, e701, z0]
    have l0 : tL (uN t 2700 (nR + 1) n) 2700 0 = 160 := by rw [L_uN, m1_n (by omega)]; exact e160
    have l1 : tL (uN t 2700 (nR + 1) n) 2700 (nR + 1) = n := by rw [L_uN, m1_s]
    have hgc : ∀ k : Option (Option Nat × TS), gc (nt n) 0 0 (tL (uN t 2700 (nR + 1) n) 2700 0) (tL (uN t 2700 (nR + 1) n) 2700 (nR + 1)) k = k := by
      intro k
      unfold gc
      rw [l0, l1, nt_cl (by omega), z0, if_neg]
      intro q
      rcases q with q | q | q | q | q
      · exact nt_neg (by omega) q
      · exact absurd q (by decide)
      · exact absurd q (by decide)
      · omega
      · omega
    rw [hgc, nt_cl (by omega)]
    unfold gf
    rw [if_pos hgf, nxt_e]
  · rw [A_uCA, m1_s]
    show va_cpy (tA (uN t 2700 (nR + 1) n) 2700 0) _ 0 0 n i = _
    unfold va_cpy
    rw [if_pos (by omega), show 0 + (i - 0) = i by omega]
    exact hA i hi
  · show tL (uN t 2700 (nR + 1) n) 2700 (nR + 1) = n
    rw [L_uN, m1_s]
  · rw [A_uCA, m1_n hj, A_uN, m1_n hj]
  · show tL (uN t 2700 (nR + 1) n) 2700 j = _
    rw [L_uN, m1_n hj]
  · show tE (uN t 2700 (nR + 1) n) 2700 j = _
    rw [E_uN, m1_n hj]
end
