/-! PART e2: the class makes a loan. -/
section
variable {t : TS} {nB nS nM p c co d : Nat}
/-- the class's state behind the new move's fields and the coins -/
def lnA (t : TS) (nM p co c : Nat) (fee opt : Int32) : TS := uI (uI (uI (uR (uR (uR (uI (uI (uO t 6 nM) 609 nM 1) 600 nM (nt nM)) 601 nM (some p)) 602 nM (some co)) 603 nM (some c)) 604 nM fee) 605 nM 1) 606 nM opt
def lnB (t : TS) (co c : Nat) (fee : Int32) : TS := uI (uI t 103 co (tI t 103 co + fee)) 103 c (mm_u1 (tI t 103) co (tI t 103 co + fee) c - fee)
def lnC (t : TS) (nM nS : Nat) : TS := uI (uQ (uR (uR t 607 nM (some nS)) 1107 nS (some nM)) 3206 0 nM (some nM)) 1207 0 (nt (nM + 1))
theorem makeLoan_c (hL : Ilen t) (hS : Ispan nB nS nM t) (hM : Imove nB nS nM t) (hp : p < nB) (hday : tI t 1200 0 = nt d) (hlS : nS < 600) (hlM : nM < 200) {so : Nat} (ho : own t nS p (nt d) = some so) (hco : tR t 1101 so = some co) : F_X12_makeLoan t (some p) (some c) = some (nt nM, lnC (cS (lnB (lnA t nM p co c (tA t 3208 0 0) (tA t 3208 0 8)) co c (tA t 3208 0 0)) p c nS 2 (nt d) (tA t 3208 0 7)) nM nS) := by
  obtain ⟨m1, m2, m3, m4, m5⟩ := hM
  have hE6 := (m5 nM (Nat.le_refl _)).1
  have g0 : ∀ k : Option (Int32 × TS), gd (0 : Int32) 9 k = k := fun _ => rfl
  have g7 : ∀ k : Option (Int32 × TS), gd (7 : Int32) 9 k = k := fun _ => rfl
  have g8 : ∀ k : Option (Int32 × TS), gd (8 : Int32) 9 k = k := fun _ => rfl
  have z0 : (0 : Int32).toNatClampNeg = 0 := rfl
  have z7 : (7 : Int32).toNatClampNeg = 7 := rfl
  have z8 : (8 : Int32).toNatClampNeg = 8 := rfl
  obtain ⟨v, hv⟩ : ∃ v, v = lnB (lnA t nM p co c (tA t 3208 0 0) (tA t 3208 0 8)) co c (tA t 3208 0 0) := ⟨_, rfl⟩
  have v205 : tI v 1205 0 = nt nS := by
    rw [hv]
    unfold lnB lnA
    simp (disch := omega) only [I_uI, I_uI_n, R_uR, R_uR_n, A_uA, A_uA_n, J_uJ, J_uJ_n, Q_uQ, Q_uQ_n, E_uO, E_uO_n, I_uO, I_uO_n, R_uO, R_uO_n, E_uN, E_uN_n, L_uN, L_uN_n, A_uN, A_uN_n, J_uN, J_uN_n, Q_uN, Q_uN_n, A_uCA, A_uCA_n, J_uCJ, J_uCJ_n, E_uI, R_uI, L_uI, A_uI, J_uI, Q_uI, E_uR, I_uR, L_uR, A_uR, J_uR, Q_uR, E_uA, I_uA, R_uA, L_uA, J_uA, Q_uA, E_uJ, I_uJ, R_uJ, L_uJ, A_uJ, Q_uJ, E_uQ, I_uQ, R_uQ, L_uQ, A_uQ, J_uQ, L_uO, A_uO, J_uO, Q_uO, I_uN, R_uN, E_uCA, I_uCA, R_uCA, L_uCA, J_uCA, Q_uCA, E_uCJ, I_uCJ, R_uCJ, L_uCJ, A_uCJ, Q_uCJ, m1_s]
    exact hS.2.1
  have v11 : tE v 11 nS = false := by
    rw [hv]
    unfold lnB lnA
    simp (disch := omega) only [I_uI, I_uI_n, R_uR, R_uR_n, A_uA, A_uA_n, J_uJ, J_uJ_n, Q_uQ, Q_uQ_n, E_uO, E_uO_n, I_uO, I_uO_n, R_uO, R_uO_n, E_uN, E_uN_n, L_uN, L_uN_n, A_uN, A_uN_n, J_uN, J_uN_n, Q_uN, Q_uN_n, A_uCA, A_uCA_n, J_uCJ, J_uCJ_n, E_uI, R_uI, L_uI, A_uI, J_uI, Q_uI, E_uR, I_uR, L_uR, A_uR, J_uR, Q_uR, E_uA, I_uA, R_uA, L_uA, J_uA, Q_uA, E_uJ, I_uJ, R_uJ, L_uJ, A_uJ, Q_uJ, E_uQ, I_uQ, R_uQ, L_uQ, A_uQ, J_uQ, L_uO, A_uO, J_uO, Q_uO, I_uN, R_uN, E_uCA, I_uCA, R_uCA, L_uCA, J_uCA, Q_uCA, E_uCJ, I_uCJ, R_uCJ, L_uCJ, A_uCJ, Q_uCJ, m1_s]
    exact hS.2.2.2.2.1 nS (Nat.le_refl _)
  have v207 : tI v 1207 0 = nt nM := by
    rw [hv]
    unfold lnB lnA
    simp (disch := omega) only [I_uI, I_uI_n, R_uR, R_uR_n, A_uA, A_uA_n, J_uJ, J_uJ_n, Q_uQ, Q_uQ_n, E_uO, E_uO_n, I_uO, I_uO_n, R_uO, R_uO_n, E_uN, E_uN_n, L_uN, L_uN_n, A_uN, A_uN_n, J_uN, J_uN_n, Q_uN, Q_uN_n, A_uCA, A_uCA_n, J_uCJ, J_uCJ_n, E_uI, R_uI, L_uI, A_uI, J_uI, Q_uI, E_uR, I_uR, L_uR, A_uR, J_uR, Q_uR, E_uA, I_uA, R_uA, L_uA, J_uA, Q_uA, E_uJ, I_uJ, R_uJ, L_uJ, A_uJ, Q_uJ, E_uQ, I_uQ, R_uQ, L_uQ, A_uQ, J_uQ, L_uO, A_uO, J_uO, Q_uO, I_uN, R_uN, E_uCA, I_uCA, R_uCA, L_uCA, J_uCA, Q_uCA, E_uCJ, I_uCJ, R_uCJ, L_uCJ, A_uCJ, Q_uCJ, m1_s]
    exact m2
  have v600 : tI v 600 nM = nt nM := by
    rw [hv]
    unfold lnB lnA
    simp (disch := omega) only [I_uI, I_uI_n, R_uR, R_uR_n, A_uA, A_uA_n, J_uJ, J_uJ_n, Q_uQ, Q_uQ_n, E_uO, E_uO_n, I_uO, I_uO_n, R_uO, R_uO_n, E_uN, E_uN_n, L_uN, L_uN_n, A_uN, A_uN_n, J_uN, J_uN_n, Q_uN, Q_uN_n, A_uCA, A_uCA_n, J_uCJ, J_uCJ_n, E_uI, R_uI, L_uI, A_uI, J_uI, Q_uI, E_uR, I_uR, L_uR, A_uR, J_uR, Q_uR, E_uA, I_uA, R_uA, L_uA, J_uA, Q_uA, E_uJ, I_uJ, R_uJ, L_uJ, A_uJ, Q_uJ, E_uQ, I_uQ, R_uQ, L_uQ, A_uQ, J_uQ, L_uO, A_uO, J_uO, Q_uO, I_uN, R_uN, E_uCA, I_uCA, R_uCA, L_uCA, J_uCA, Q_uCA, E_uCJ, I_uCJ, R_uCJ, L_uCJ, A_uCJ, Q_uCJ, m1_s]
  have hLv : Ilen v := by
    rw [hv]
    exact fun k hk => hL k hk
  have hsp := addSpan_c0 (t := v) (p := p) (c := c) (so := 2) (fr := nt d) (to := tA t 3208 0 7) v205 v11 hlS
  have fc := cS_f2 (t := v) (p := p) (c := c) (n := nS) (so := 2) (fr := nt d) (to := tA t 3208 0 7)
  rw [← hv]
  have hbody : F_X12_makeLoan t (some p) (some c) = ob2 (F_X12_addSpan v (some p) (some c) 2 (nt d) (tA t 3208 0 7)) (fun o35 t36 => nxt (uR t36 607 nM o35) (fun t37 => ob2 (F_X12_enter t37 (some nM)) (fun x39 t40 => some (x39, t40)))) := by
    unfold F_X12_makeLoan F_X6_init
    rw [oc_s, hday, X1_owning_eq hS hp, ob_s, ho, oc_s, m2, nt_cl (by omega), hE6]
    simp (disch := omega) only [gE_0, nxt_e, I_uI, I_uI_n, R_uR, R_uR_n, A_uA, A_uA_n, J_uJ, J_uJ_n, Q_uQ, Q_uQ_n, E_uO, E_uO_n, I_uO, I_uO_n, R_uO, R_uO_n, E_uN, E_uN_n, L_uN, L_uN_n, A_uN, A_uN_n, J_uN, J_uN_n, Q_uN, Q_uN_n, A_uCA, A_uCA_n, J_uCJ, J_uCJ_n, E_uI, R_uI, L_uI, A_uI, J_uI, Q_uI, E_uR, I_uR, L_uR, A_uR, J_uR, Q_uR, E_uA, I_uA, R_uA, L_uA, J_uA, Q_uA, E_uJ, I_uJ, R_uJ, L_uJ, A_uJ, Q_uJ, E_uQ, I_uQ, R_uQ, L_uQ, A_uQ, J_uQ, L_uO, A_uO, J_uO, Q_uO, I_uN, R_uN, E_uCA, I_uCA, R_uCA, L_uCA, J_uCA, Q_uCA, E_uCJ, I_uCJ, R_uCJ, L_uCJ, A_uCJ, Q_uCJ, m1_s, hco, m2, (show tL _ 3208 0 = 9 from hL 3208 rfl), g0, g7, g8, z0, z7, z8, oc_s, ob_s, hday]
    rw [hv]
    unfold lnB lnA
    simp (disch := omega) only [I_uI, I_uI_n, R_uR, R_uR_n, A_uA, A_uA_n, J_uJ, J_uJ_n, Q_uQ, Q_uQ_n, E_uO, E_uO_n, I_uO, I_uO_n, R_uO, R_uO_n, E_uN, E_uN_n, L_uN, L_uN_n, A_uN, A_uN_n, J_uN, J_uN_n, Q_uN, Q_uN_n, A_uCA, A_uCA_n, J_uCJ, J_uCJ_n, E_uI, R_uI, L_uI, A_uI, J_uI, Q_uI, E_uR, I_uR, L_uR, A_uR, J_uR, Q_uR, E_uA, I_uA, R_uA, L_uA, J_uA, Q_uA, E_uJ, I_uJ, R_uJ, L_uJ, A_uJ, Q_uJ, E_uQ, I_uQ, R_uQ, L_uQ, A_uQ, J_uQ, L_uO, A_uO, J_uO, Q_uO, I_uN, R_uN, E_uCA, I_uCA, R_uCA, L_uCA, J_uCA, Q_uCA, E_uCJ, I_uCJ, R_uCJ, L_uCJ, A_uCJ, Q_uCJ, m1_s]
  rw [hbody, hsp, ob2_s, nxt_e]
  have w607 : ∀ u, tR (uR u 607 nM (some nS)) 607 nM = some nS := fun u => by rw [R_uR, m1_s]
  unfold F_X12_enter
  rw [oc_s, w607, nxt_e, oc_s, nxt_e]
  have e207 : tI (uR (uR (cS v p c nS 2 (nt d) (tA t 3208 0 7)) 607 nM (some nS)) 1107 nS (some nM)) 1207 0 = nt nM := by
    show tI (cS v p c nS 2 (nt d) (tA t 3208 0 7)) 1207 0 = _
    rw [(fc.1 1207 rfl).2.1]; exact v207
  have e600 : tI (uR (uR (cS v p c nS 2 (nt d) (tA t 3208 0 7)) 607 nM (some nS)) 1107 nS (some nM)) 600 nM = nt nM := by
    show tI (cS v p c nS 2 (nt d) (tA t 3208 0 7)) 600 nM = _
    rw [(fc.1 600 rfl).2.1]; exact v600
  rw [e207, show tL (uR (uR (cS v p c nS 2 (nt d) (tA t 3208 0 7)) 607 nM (some nS)) 1107 nS (some nM)) 3206 0 = 200 from Ilen_f fc hLv 3206 rfl, gd_nt _ (by omega) (by omega), nt_cl (by omega), nxt_e, nxt_e]
  have e3 : tI (uQ (uR (uR (cS v p c nS 2 (nt d) (tA t 3208 0 7)) 607 nM (some nS)) 1107 nS (some nM)) 3206 0 nM (some nM)) 1207 0 = nt nM := e207
  rw [e3, nt_succ, I_uI_n (by decide)]
  show ob2 (some (tI (uR (uR (cS v p c nS 2 (nt d) (tA t 3208 0 7)) 607 nM (some nS)) 1107 nS (some nM)) 600 nM, _)) _ = _
  rw [e600]
  rfl
end
