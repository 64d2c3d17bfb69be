/-! PART 81: deals. -/
section
variable {t : TS} {nB nS nM : Nat}
def Ideal1 (nB i : Nat) (t : TS) : Prop := (∃ p, p < nB ∧ isPl (tA t 3308 0 p) = true ∧ tQ t 2400 0 i = some p ∧ tA t 3371 0 i = nt p) ∧ (∃ c, c < nB ∧ isCl (tA t 3308 0 c) = true ∧ tQ t 2402 0 i = some c ∧ tA t 3372 0 i = nt c) ∧ (∃ f, f ≤ 999999 ∧ tA t 2403 0 i = nt f ∧ tA t 3373 0 i = nt f) ∧ tA t 2404 0 i = tA t 3374 0 i ∧ (tA t 3374 0 i = -1 ∨ ∃ o, o ≤ 5 ∧ tA t 3374 0 i = nt o)
def Ideal (nB : Nat) (t : TS) : Prop := ∃ n, n ≤ 6 ∧ tI t 405 0 = nt n ∧ tI t 1370 0 = nt n ∧ ∀ i, i < n → Ideal1 nB i t
def kDeal : List Nat := [405, 1370, 2400, 2402, 2403, 2404, 3371, 3372, 3373, 3374]
def kDeal0 : List Nat := [405, 1370, 2400, 2402, 2403, 2404, 3308, 3371, 3372, 3373, 3374]
theorem Ideal_f {D : Nat → Bool} {t t' : TS} (h : frm D t t') (hd : ∀ k, k ∈ kDeal0 → D k = false) (hI : Ideal nB t) : Ideal nB t' := by
  unfold Ideal Ideal1 at hI ⊢
  simp only [(h.1 405 (hd 405 (by decide))).2.1, (h.1 1370 (hd 1370 (by decide))).2.1, (h.1 2400 (hd 2400 (by decide))).2.2.2.2.2.2, (h.1 2402 (hd 2402 (by decide))).2.2.2.2.2.2, (h.1 2403 (hd 2403 (by decide))).2.2.2.2.1, (h.1 2404 (hd 2404 (by decide))).2.2.2.2.1, (h.1 3308 (hd 3308 (by decide))).2.2.2.2.1, (h.1 3371 (hd 3371 (by decide))).2.2.2.2.1, (h.1 3372 (hd 3372 (by decide))).2.2.2.2.1, (h.1 3373 (hd 3373 (by decide))).2.2.2.2.1, (h.1 3374 (hd 3374 (by decide))).2.2.2.2.1]
  exact hI
theorem m_deal (x1 x2 x3 x4 : Int32) (hL : Ilen t) (hT : Itime t) (hB : Ibody nB t) (hS : Ispan nB nS nM t) (hI : Ideal nB t) : Eqm (F_X12_deal t x1 x2 x3 x4) (fun t => F_X13_deal t x1 x2 x3 x4) (fun t2 => Ideal nB t2 ∧ frm (ks kDeal) t t2) := by
  obtain ⟨d, mi, hd, hmi, e1, e2, e3, e4⟩ := hT
  have h150 := hB.1
  have hbad : ∀ r, F_X12_deal t x1 x2 x3 x4 = some (r, t) → F_X13_deal t x1 x2 x3 x4 = some (r, t) → Eqm (F_X12_deal t x1 x2 x3 x4) (fun t => F_X13_deal t x1 x2 x3 x4) (fun t2 => Ideal nB t2 ∧ frm (ks kDeal) t t2) := fun r h1 h2 => ⟨r, t, t, h1, h2, hI, frm_rf⟩
  obtain ⟨n, hn, n1, n2, n3⟩ := hI
  cases hx : six isPl t nB x1 with
  | none => exact hbad (-1) (by simp only [F_X12_deal, playerAt_eq hL hB, clubAt_eq hL hB, hx, nxt_e, oc_s, oc_n, ob_s, ob2_s, gb_b1, gb_0, gb_1, gw0, gw1]) (by simp only [F_X13_deal, isPlayer_eq hL hB, hx, isS_n, nxt_e, oc_s, oc_n, ob_s, ob2_s, gb_b1, gb_0, gb_1, gw0, gw1, Bool.false_eq_true, Bool.true_eq_false, if_true, if_false, not_true_eq_false, not_false_eq_true])
  | some p =>
  obtain ⟨hp, rfl, hpp⟩ := six_some hx
  cases hy : six isCl t nB x2 with
  | none => exact hbad (-1) (by simp only [F_X12_deal, playerAt_eq hL hB, clubAt_eq hL hB, hx, hy, nxt_e, oc_s, oc_n, ob_s, ob2_s, gb_b1, gb_0, gb_1, gw0, gw1]) (by simp only [F_X13_deal, isPlayer_eq hL hB, isClub_eq hL hB, hx, hy, isS_n, isS_s, nxt_e, oc_s, oc_n, ob_s, ob2_s, gb_b1, gb_0, gb_1, gw0, gw1, Bool.false_eq_true, Bool.true_eq_false, if_true, if_false, not_true_eq_false, not_false_eq_true])
  | some c =>
  obtain ⟨hc, rfl, hcc⟩ := six_some hy
  by_cases h3 : 0 ≤ x3 ∧ x3 ≤ 999999
  case neg => exact hbad (-1) (by simp only [F_X12_deal, playerAt_eq hL hB, clubAt_eq hL hB, hx, hy, win_eq, decide_eq_false h3, nxt_e, oc_s, oc_n, ob_s, ob2_s, gb_b1, gb_0, gb_1, gw0, gw1, Bool.false_eq_true, Bool.true_eq_false, if_true, if_false, not_true_eq_false, not_false_eq_true]) (by simp only [F_X13_deal, isPlayer_eq hL hB, isClub_eq hL hB, hx, hy, isS_s, in_eq, decide_eq_false h3, nxt_e, oc_s, oc_n, ob_s, ob2_s, gb_b1, gb_0, gb_1, gw0, gw1, Bool.false_eq_true, Bool.true_eq_false, if_true, if_false, not_true_eq_false, not_false_eq_true])
  have hcl : F_X12_deal t (nt p) (nt c) x3 x4 = oc (own t nS p (nt d)) (some (-1, t)) (fun j27 => if tR t 1101 j27 = some c then some (-1, t) else if decide (-1 ≤ x4 ∧ x4 ≤ 5) = true then (if ¬ x4 = nt n then (ob2 (F_X4_add t (some p) (some c) x3 x4) (fun x31 t32 => (if x31 = 0 then (some ((-3), t32)) else (some ((tI t32 405 0), t32))))) else some (-1, t)) else some (-1, t)) := by
    simp only [F_X12_deal, playerAt_eq hL hB, clubAt_eq hL hB, hx, hy, win_eq, decide_eq_true h3, nxt_e, oc_s, oc_n, ob_s, ob2_s, gb_b1, gb_0, gb_1, gw0, gw1, Bool.false_eq_true, Bool.true_eq_false, if_true, if_false, not_true_eq_false, not_false_eq_true, e1, X1_owning_eq hS hp, n1]
  have hm : ∀ u : TS, F_X13_isPlayer u (nt p) = some 1 → F_X13_isClub u (nt c) = some 1 → tI u 1370 0 = nt n → F_X13_ownerOn u (nt p) (tI u 1301 0) = some (oel (own t nS p (nt d)) (-1) (fun s => tA t 3318 0 s)) → F_X13_deal u (nt p) (nt c) x3 x4 = if decide (-1 ≤ x4 ∧ x4 ≤ 5) = true then (if x4 = nt n then some (-1, u) else if oel (own t nS p (nt d)) (-1) (fun s => tA t 3318 0 s) < 0 then some (-1, u) else if ¬ oel (own t nS p (nt d)) (-1) (fun s => tA t 3318 0 s) = nt c then (if ¬ nt n = 6 then (gd (nt n) (tL u 3371 0) (nxt (uA u 3371 0 (nt n).toNatClampNeg (nt p)) (fun t27 => (gd (tI t27 1370 0) (tL t27 3372 0) (nxt (uA t27 3372 0 (tI t27 1370 0).toNatClampNeg (nt c)) (fun t28 => (gd (tI t28 1370 0) (tL t28 3373 0) (nxt (uA t28 3373 0 (tI t28 1370 0).toNatClampNeg x3) (fun t29 => (gd (tI t29 1370 0) (tL t29 3374 0) (nxt (uA t29 3374 0 (tI t29 1370 0).toNatClampNeg x4) (fun t30 => (nxt (uI t30 1370 0 ((tI t30 1370 0) + 1)) (fun t31 => (some ((tI t31 1370 0), t31)))))))))))))))) else some (-3, u)) else some (-1, u)) else some (-1, u) := by
    intro u k1 k2 k3 k4
    simp only [F_X13_deal, k1, k2, k3, k4, in_eq, decide_eq_true h3, nxt_e, oc_s, oc_n, ob_s, ob2_s, gb_b1, gb_0, gb_1, gw0, gw1, Bool.false_eq_true, Bool.true_eq_false, if_true, if_false, not_true_eq_false, not_false_eq_true]
    rw [if_neg (by decide), if_neg (by decide)]
  have g1 : F_X13_isPlayer t (nt p) = some 1 := by rw [isPlayer_eq hL hB, hx]; rfl
  have g2 : F_X13_isClub t (nt c) = some 1 := by rw [isClub_eq hL hB, hy]; rfl
  have g4 : F_X13_ownerOn t (nt p) (tI t 1301 0) = some (oel (own t nS p (nt d)) (-1) (fun s => tA t 3318 0 s)) := by rw [e2, ownerOn_eq hL hS]
  by_cases h4 : -1 ≤ x4 ∧ x4 ≤ 5
  case neg =>
    refine hbad (-1) ?_ (by rw [hm t g1 g2 n2 g4, decide_eq_false h4, if_neg (by decide)])
    rw [hcl, decide_eq_false h4]
    cases own t nS p (nt d) with
    | none => rfl
    | some s =>
      rw [oc_s]
      by_cases q : tR t 1101 s = some c
      · rw [if_pos q]
      · rw [if_neg q, if_neg (by decide)]
  rw [decide_eq_true h4] at hcl
  simp only [decide_eq_true h4, if_true] at hm
  by_cases h5 : x4 = nt n
  · refine hbad (-1) ?_ (by rw [hm t g1 g2 n2 g4, if_pos h5])
    rw [hcl]
    cases own t nS p (nt d) with
    | none => rfl
    | some s =>
      rw [oc_s]
      by_cases q : tR t 1101 s = some c
      · rw [if_pos q]
      · rw [if_neg q, if_pos rfl, if_neg (fun z => z h5)]
  cases ho : own t nS p (nt d) with
  | none => exact hbad (-1) (by rw [hcl, ho, oc_n]) (by rw [hm t g1 g2 n2 g4, ho, if_neg h5, oel_n, if_pos (by decide)])
  | some s =>
  obtain ⟨c', hc', -, c1, c2⟩ := sp_club h150 hS (own_lt ho).1
  by_cases h6 : c' = c
  · exact hbad (-1) (by rw [hcl, ho, oc_s, c1, if_pos (congrArg some h6)]) (by rw [hm t g1 g2 n2 g4, ho, if_neg h5, oel_s, c2, if_neg (nt_neg (by omega)), h6, if_neg (fun q => q rfl)])
  have h6' : ¬ nt c' = nt c := fun q => h6 (by rw [eq_nt (by omega) (by omega)] at q; exact q)
  rw [ho, oc_s, c1, if_neg (fun q => h6 (Option.some.inj q)), if_pos rfl, if_pos h5] at hcl
  simp only [ho, oel_s, c2, nt_neg (show c' < 2147483648 by omega), h5, h6', Bool.false_eq_true, Bool.true_eq_false, if_true, if_false, not_true_eq_false, not_false_eq_true] at hm g4
  obtain ⟨f, hf, rfl⟩ := nt_exb (b := 999999) h3.1 (by omega) h3.2
  have l6 : (nt n < Int32.ofNat 6) = (n < 6) := lt_nt (n := 6) (by omega) (by omega)
  have q6 : (nt n = (6 : Int32)) = (n = 6) := eq_nt (n := 6) (by omega) (by omega)
  by_cases h7 : n = 6
  · refine hbad (-3) ?_ (by rw [hm t g1 g2 n2 g4]; simp only [q6]; rw [if_neg (fun q => q h7)])
    rw [hcl]
    unfold F_X4_add
    rw [n1, (show tL _ 2403 0 = 6 from hL 2403 rfl)]
    simp only [l6]
    rw [if_neg (by omega), ob2_s, if_pos rfl]
  have fc : frm (ks [405, 2400, 2402, 2403, 2404]) t (uI (uA (uA (uQ (uQ t 2400 0 n (some p)) 2402 0 n (some c)) 2403 0 n (nt f)) 2404 0 n x4) 405 0 (nt (n + 1))) := frm_tr (frm_uQ rfl) (frm_tr (frm_uQ rfl) (frm_tr (frm_uA rfl) (frm_tr (frm_uA rfl) (frm_uI rfl))))
  have hL1 := Ilen_f fc hL
  have hB1 := IbM (Ibody_f fc (by decide) hB)
  have hS1 := IsM (Ispan_f fc (by decide) hS)
  have p1 : six isPl (uI (uA (uA (uQ (uQ t 2400 0 n (some p)) 2402 0 n (some c)) 2403 0 n (nt f)) 2404 0 n x4) 405 0 (nt (n + 1))) nB (nt p) = some p := six_nt hp h150 (by rw [(fc.1 3308 rfl).2.2.2.2.1]; exact hpp)
  have p2 : six isCl (uI (uA (uA (uQ (uQ t 2400 0 n (some p)) 2402 0 n (some c)) 2403 0 n (nt f)) 2404 0 n x4) 405 0 (nt (n + 1))) nB (nt c) = some c := six_nt hc h150 (by rw [(fc.1 3308 rfl).2.2.2.2.1]; exact hcc)
  refine ⟨nt (n + 1), uI (uA (uA (uQ (uQ t 2400 0 n (some p)) 2402 0 n (some c)) 2403 0 n (nt f)) 2404 0 n x4) 405 0 (nt (n + 1)), uI (uA (uA (uA (uA (uI (uA (uA (uQ (uQ t 2400 0 n (some p)) 2402 0 n (some c)) 2403 0 n (nt f)) 2404 0 n x4) 405 0 (nt (n + 1))) 3371 0 n (nt p)) 3372 0 n (nt c)) 3373 0 n (nt f)) 3374 0 n x4) 1370 0 (nt (n + 1)), ?_, ?_, ⟨n + 1, by omega, ?_, ?_, fun i hi => ?_⟩, frm_tr (frm_sb fc (ks_sb rfl)) (frm_tr (frm_uA rfl) (frm_tr (frm_uA rfl) (frm_tr (frm_uA rfl) (frm_tr (frm_uA rfl) (frm_uI rfl)))))⟩
  · rw [hcl]
    unfold F_X4_add
    simp (disch := omega) only [n1, (show tL _ 2400 0 = 6 from hL 2400 rfl), (show tL _ 2402 0 = 6 from hL 2402 rfl), (show tL _ 2403 0 = 6 from hL 2403 rfl), (show tL _ 2404 0 = 6 from hL 2404 rfl), l6, gd_nt, nt_cl, nxt_e, oc_s, oc_n, ob_s, ob2_s, gb_b1, gb_0, gb_1, gw0, gw1, I_uI, I_uI_n, R_uR, R_uR_n, A_uA, A_uA_n, J_uJ, J_uJ_n, Q_uQ, Q_uQ_n, E_uO, E_uO_n, I_uO, I_uO_n, R_uO, R_uO_n, E_uN, E_uN_n, L_uN, L_uN_n, A_uN, A_uN_n, J_uN, J_uN_n, Q_uN, Q_uN_n, A_uCA, A_uCA_n, J_uCJ, J_uCJ_n, E_uI, R_uI, L_uI, A_uI, J_uI, Q_uI, E_uR, I_uR, L_uR, A_uR, J_uR, Q_uR, E_uA, I_uA, R_uA, L_uA, J_uA, Q_uA, E_uJ, I_uJ, R_uJ, L_uJ, A_uJ, Q_uJ, E_uQ, I_uQ, R_uQ, L_uQ, A_uQ, J_uQ, L_uO, A_uO, J_uO, Q_uO, I_uN, R_uN, E_uCA, I_uCA, R_uCA, L_uCA, J_uCA, Q_uCA, E_uCJ, I_uCJ, R_uCJ, L_uCJ, A_uCJ, Q_uCJ, m1_s, nt_succ]
    rw [if_pos (by omega), ob2_s, if_neg (by decide)]
    simp (disch := omega) only [I_uI, I_uI_n, R_uR, R_uR_n, A_uA, A_uA_n, J_uJ, J_uJ_n, Q_uQ, Q_uQ_n, E_uO, E_uO_n, I_uO, I_uO_n, R_uO, R_uO_n, E_uN, E_uN_n, L_uN, L_uN_n, A_uN, A_uN_n, J_uN, J_uN_n, Q_uN, Q_uN_n, A_uCA, A_uCA_n, J_uCJ, J_uCJ_n, E_uI, R_uI, L_uI, A_uI, J_uI, Q_uI, E_uR, I_uR, L_uR, A_uR, J_uR, Q_uR, E_uA, I_uA, R_uA, L_uA, J_uA, Q_uA, E_uJ, I_uJ, R_uJ, L_uJ, A_uJ, Q_uJ, E_uQ, I_uQ, R_uQ, L_uQ, A_uQ, J_uQ, L_uO, A_uO, J_uO, Q_uO, I_uN, R_uN, E_uCA, I_uCA, R_uCA, L_uCA, J_uCA, Q_uCA, E_uCJ, I_uCJ, R_uCJ, L_uCJ, A_uCJ, Q_uCJ, m1_s]
  · show F_X13_deal (uI (uA (uA (uQ (uQ t 2400 0 n (some p)) 2402 0 n (some c)) 2403 0 n (nt f)) 2404 0 n x4) 405 0 (nt (n + 1))) (nt p) (nt c) (nt f) x4 = _
    rw [hm _ (by rw [isPlayer_eqM hL1 hB1, p1]; rfl) (by rw [isClub_eqM hL1 hB1, p2]; rfl) (by rw [(fc.1 1370 rfl).2.1, n2]) (by rw [ownerOn_eqM hL1 hS1, (fc.1 1301 rfl).2.1, e2, own_f fc (by decide), ho, oel_s, (fc.1 3318 rfl).2.2.2.2.1, c2])]
    simp only [q6]
    rw [if_pos h7]
    simp (disch := omega) only [(show tL _ 3371 0 = 6 from hL1 3371 rfl), (show tL _ 3372 0 = 6 from hL1 3372 rfl), (show tL _ 3373 0 = 6 from hL1 3373 rfl), (show tL _ 3374 0 = 6 from hL1 3374 rfl), gd_nt, nt_cl, nxt_e, oc_s, oc_n, ob_s, ob2_s, gb_b1, gb_0, gb_1, gw0, gw1, I_uI, I_uI_n, R_uR, R_uR_n, A_uA, A_uA_n, J_uJ, J_uJ_n, Q_uQ, Q_uQ_n, E_uO, E_uO_n, I_uO, I_uO_n, R_uO, R_uO_n, E_uN, E_uN_n, L_uN, L_uN_n, A_uN, A_uN_n, J_uN, J_uN_n, Q_uN, Q_uN_n, A_uCA, A_uCA_n, J_uCJ, J_uCJ_n, E_uI, R_uI, L_uI, A_uI, J_uI, Q_uI, E_uR, I_uR, L_uR, A_uR, J_uR, Q_uR, E_uA, I_uA, R_uA, L_uA, J_uA, Q_uA, E_uJ, I_uJ, R_uJ, L_uJ, A_uJ, Q_uJ, E_uQ, I_uQ, R_uQ, L_uQ, A_uQ, J_uQ, L_uO, A_uO, J_uO, Q_uO, I_uN, R_uN, E_uCA, I_uCA, R_uCA, L_uCA, J_uCA, Q_uCA, E_uCJ, I_uCJ, R_uCJ, L_uCJ, A_uCJ, Q_uCJ, m1_s, n2, nt_succ]
  · simp (disch := omega) only [I_uI, I_uI_n, R_uR, R_uR_n, A_uA, A_uA_n, J_uJ, J_uJ_n, Q_uQ, Q_uQ_n, E_uO, E_uO_n, I_uO, I_uO_n, R_uO, R_uO_n, E_uN, E_uN_n, L_uN, L_uN_n, A_uN, A_uN_n, J_uN, J_uN_n, Q_uN, Q_uN_n, A_uCA, A_uCA_n, J_uCJ, J_uCJ_n, E_uI, R_uI, L_uI, A_uI, J_uI, Q_uI, E_uR, I_uR, L_uR, A_uR, J_uR, Q_uR, E_uA, I_uA, R_uA, L_uA, J_uA, Q_uA, E_uJ, I_uJ, R_uJ, L_uJ, A_uJ, Q_uJ, E_uQ, I_uQ, R_uQ, L_uQ, A_uQ, J_uQ, L_uO, A_uO, J_uO, Q_uO, I_uN, R_uN, E_uCA, I_uCA, R_uCA, L_uCA, J_uCA, Q_uCA, E_uCJ, I_uCJ, R_uCJ, L_uCJ, A_uCJ, Q_uCJ, m1_s]
  · simp (disch := omega) only [I_uI, I_uI_n, R_uR, R_uR_n, A_uA, A_uA_n, J_uJ, J_uJ_n, Q_uQ, Q_uQ_n, E_uO, E_uO_n, I_uO, I_uO_n, R_uO, R_uO_n, E_uN, E_uN_n, L_uN, L_uN_n, A_uN, A_uN_n, J_uN, J_uN_n, Q_uN, Q_uN_n, A_uCA, A_uCA_n, J_uCJ, J_uCJ_n, E_uI, R_uI, L_uI, A_uI, J_uI, Q_uI, E_uR, I_uR, L_uR, A_uR, J_uR, Q_uR, E_uA, I_uA, R_uA, L_uA, J_uA, Q_uA, E_uJ, I_uJ, R_uJ, L_uJ, A_uJ, Q_uJ, E_uQ, I_uQ, R_uQ, L_uQ, A_uQ, J_uQ, L_uO, A_uO, J_uO, Q_uO, I_uN, R_uN, E_uCA, I_uCA, R_uCA, L_uCA, J_uCA, Q_uCA, E_uCJ, I_uCJ, R_uCJ, L_uCJ, A_uCJ, Q_uCJ, m1_s]
  · unfold Ideal1
    simp (disch := omega) only [I_uI, I_uI_n, R_uR, R_uR_n, A_uA, A_uA_n, J_uJ, J_uJ_n, Q_uQ, Q_uQ_n, E_uO, E_uO_n, I_uO, I_uO_n, R_uO, R_uO_n, E_uN, E_uN_n, L_uN, L_uN_n, A_uN, A_uN_n, J_uN, J_uN_n, Q_uN, Q_uN_n, A_uCA, A_uCA_n, J_uCJ, J_uCJ_n, E_uI, R_uI, L_uI, A_uI, J_uI, Q_uI, E_uR, I_uR, L_uR, A_uR, J_uR, Q_uR, E_uA, I_uA, R_uA, L_uA, J_uA, Q_uA, E_uJ, I_uJ, R_uJ, L_uJ, A_uJ, Q_uJ, E_uQ, I_uQ, R_uQ, L_uQ, A_uQ, J_uQ, L_uO, A_uO, J_uO, Q_uO, I_uN, R_uN, E_uCA, I_uCA, R_uCA, L_uCA, J_uCA, Q_uCA, E_uCJ, I_uCJ, R_uCJ, L_uCJ, A_uCJ, Q_uCJ, m1_s]
    by_cases e : i = n
    · subst e
      simp only [m1_s]
      refine ⟨⟨p, hp, hpp, rfl, rfl⟩, ⟨c, hc, hcc, rfl, rfl⟩, ⟨f, hf, rfl, rfl⟩, trivial, ?_⟩
      by_cases g : x4 = -1
      · exact Or.inl g
      · by_cases g0 : 0 ≤ x4
        · exact Or.inr (nt_exb (b := 5) g0 (by omega) h4.2)
        · exfalso
          have a1 : (-1 : Int32).toInt ≤ x4.toInt := Int32.le_iff_toInt_le.mp h4.1
          have a2 : ¬ (0 : Int32).toInt ≤ x4.toInt := fun q => g0 (Int32.le_iff_toInt_le.mpr q)
          have a3 : ¬ x4.toInt = (-1 : Int32).toInt := fun q => g (Int32.toInt_inj.mp q)
          have z1 : (-1 : Int32).toInt = -1 := by decide
          have z0 : (0 : Int32).toInt = 0 := by decide
          rw [z1] at a1 a3
          rw [z0] at a2
          omega
    · simp only [m1_n e]
      exact n3 i (by omega)
end
