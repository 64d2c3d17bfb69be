/-! PART e5: the model makes a loan. -/
section
variable {s : TS} {nB nS nM p c co d : Nat}
def lendT (t26 : TS) (x1 x2 : Int32) : Option (Int32 × TS) := (gd (0 : Int32) (tL t26 3349 0) (ob2 (F_X13_addMove t26 x1 x2 (tA t26 3349 0 (0 : Int32).toNatClampNeg) 1) (fun x28 t29 => (gd (8 : Int32) (tL t29 3349 0) (gd x28 (tL t29 3339 0) (nxt (uA t29 3339 0 x28.toNatClampNeg (tA t29 3349 0 (8 : Int32).toNatClampNeg)) (fun t30 => (gd x2 (tL t30 3310 0) (gd x28 (tL t30 3331 0) (gd x2 (tL t30 3310 0) (nxt (uA t30 3310 0 x2.toNatClampNeg ((tA t30 3310 0 x2.toNatClampNeg) - (tA t30 3331 0 x28.toNatClampNeg))) (fun t31 => (gd x28 (tL t31 3329 0) (gd (tA t31 3329 0 x28.toNatClampNeg) (tL t31 3310 0) (gd x28 (tL t31 3331 0) (gd (tA t31 3329 0 x28.toNatClampNeg) (tL t31 3310 0) (nxt (uA t31 3310 0 (tA t31 3329 0 x28.toNatClampNeg).toNatClampNeg ((tA t31 3310 0 (tA t31 3329 0 x28.toNatClampNeg).toNatClampNeg) + (tA t31 3331 0 x28.toNatClampNeg))) (fun t32 => (gd (7 : Int32) (tL t32 3349 0) (Option.bind (F_X13_addMoveSpan t32 x28 (tA t32 3349 0 (7 : Int32).toNatClampNeg) 2) (fun r33 => (some (x28, r33)))))))))))))))))))))))
def lmB (s : TS) (nM p co c d : Nat) : TS := uA (lmA s nM p co c d (tA s 3349 0 0) true) 3339 0 nM (tA s 3349 0 8)
def lmC (s : TS) (nM p co c d : Nat) : TS := uA (uA (lmB s nM p co c d) 3310 0 c (tA s 3310 0 c - tA s 3349 0 0)) 3310 0 co (mm_u1 (tA s 3310 0) c (tA s 3310 0 c - tA s 3349 0 0) co + tA s 3349 0 0)
def lmT (s : TS) (nS nM p co c d : Nat) : TS := lmS (lmC s nM p co c d) nM p c nS d (tA s 3349 0 7) 2
theorem lmA_f (fee : Int32) (l : Bool) : frm (ks [3328, 3329, 3330, 3331, 3332, 3333, 3334, 3342, 1327]) s (lmA s nM p co c d fee l) := frm_tr (frm_uA rfl) (frm_tr (frm_uA rfl) (frm_tr (frm_uA rfl) (frm_tr (frm_uA rfl) (frm_tr (frm_uA rfl) (frm_tr (frm_uA rfl) (frm_tr (frm_uA rfl) (frm_tr (frm_uA rfl) (frm_uI rfl))))))))
theorem lmS_f {to so : Int32} : frm (ks [1316, 3317, 3318, 3319, 3320, 3321, 3322, 3323, 3324, 3340]) s (lmS s nM p c nS d to so) := frm_tr (frm_sb mS_f2 (ks_sb rfl)) (frm_tr (frm_uA rfl) (frm_uA rfl))
theorem lendT_m (hL : Ilen s) (hS : Mspan nB nS s) (h27 : tI s 1327 0 = nt nM) (h16 : tI s 1316 0 = nt nS) (hlM : nM < 200) (hlS : nS < 600) (hday : tI s 1301 0 = nt d) {so : Nat} (ho : own s nS p (nt d) = some so) (hsc : tA s 3318 0 so = nt co) (hp : p < 150) (hc : c < 150) (hco : co < 150) : lendT s (nt p) (nt c) = some (nt nM, lmT s nS nM p co c d) := by
  have g0 : ∀ k : Option (Int32 × TS), gd (0 : Int32) 9 k = k := fun _ => rfl
  have g7 : ∀ k : Option (Int32 × TS), gd (7 : Int32) 9 k = k := fun _ => rfl
  have g8 : ∀ k : Option (Int32 × TS), gd (8 : Int32) 9 k = k := fun _ => rfl
  have z0 : (0 : Int32).toNatClampNeg = 0 := rfl
  have z7 : (7 : Int32).toNatClampNeg = 7 := rfl
  have z8 : (8 : Int32).toNatClampNeg = 8 := rfl
  have hA := addMove_m (nB := nB) (p := p) (c := c) hL hS h27 hlM hday ho hsc (tA s 3349 0 0) true
  rw [b1_t] at hA
  obtain ⟨A, eA⟩ : ∃ A, A = lmA s nM p co c d (tA s 3349 0 0) true := ⟨_, rfl⟩
  have fA : frm (ks [3328, 3329, 3330, 3331, 3332, 3333, 3334, 3342, 1327]) s A := by rw [eA]; exact lmA_f _ _
  have LA := Ilen_f fA hL
  have A31 : tA A 3331 0 nM = tA s 3349 0 0 := by rw [eA]; simp (disch := omega) only [lmA, I_uI, I_uI_n, R_uR, R_uR_n, A_uA, A_uA_n, J_uJ, J_uJ_n, Q_uQ, Q_uQ_n, E_uO, E_uO_n, I_uO, I_uO_n, R_uO, R_uO_n, E_uN, E_uN_n, L_uN, L_uN_n, A_uN, A_uN_n, J_uN, J_uN_n, Q_uN, Q_uN_n, A_uCA, A_uCA_n, J_uCJ, J_uCJ_n, E_uI, R_uI, L_uI, A_uI, J_uI, Q_uI, E_uR, I_uR, L_uR, A_uR, J_uR, Q_uR, E_uA, I_uA, R_uA, L_uA, J_uA, Q_uA, E_uJ, I_uJ, R_uJ, L_uJ, A_uJ, Q_uJ, E_uQ, I_uQ, R_uQ, L_uQ, A_uQ, J_uQ, L_uO, A_uO, J_uO, Q_uO, I_uN, R_uN, E_uCA, I_uCA, R_uCA, L_uCA, J_uCA, Q_uCA, E_uCJ, I_uCJ, R_uCJ, L_uCJ, A_uCJ, Q_uCJ, m1_s]
  have A29 : tA A 3329 0 nM = nt co := by rw [eA]; simp (disch := omega) only [lmA, I_uI, I_uI_n, R_uR, R_uR_n, A_uA, A_uA_n, J_uJ, J_uJ_n, Q_uQ, Q_uQ_n, E_uO, E_uO_n, I_uO, I_uO_n, R_uO, R_uO_n, E_uN, E_uN_n, L_uN, L_uN_n, A_uN, A_uN_n, J_uN, J_uN_n, Q_uN, Q_uN_n, A_uCA, A_uCA_n, J_uCJ, J_uCJ_n, E_uI, R_uI, L_uI, A_uI, J_uI, Q_uI, E_uR, I_uR, L_uR, A_uR, J_uR, Q_uR, E_uA, I_uA, R_uA, L_uA, J_uA, Q_uA, E_uJ, I_uJ, R_uJ, L_uJ, A_uJ, Q_uJ, E_uQ, I_uQ, R_uQ, L_uQ, A_uQ, J_uQ, L_uO, A_uO, J_uO, Q_uO, I_uN, R_uN, E_uCA, I_uCA, R_uCA, L_uCA, J_uCA, Q_uCA, E_uCJ, I_uCJ, R_uCJ, L_uCJ, A_uCJ, Q_uCJ, m1_s]
  have A28 : tA A 3328 0 nM = nt p := by rw [eA]; simp (disch := omega) only [lmA, I_uI, I_uI_n, R_uR, R_uR_n, A_uA, A_uA_n, J_uJ, J_uJ_n, Q_uQ, Q_uQ_n, E_uO, E_uO_n, I_uO, I_uO_n, R_uO, R_uO_n, E_uN, E_uN_n, L_uN, L_uN_n, A_uN, A_uN_n, J_uN, J_uN_n, Q_uN, Q_uN_n, A_uCA, A_uCA_n, J_uCJ, J_uCJ_n, E_uI, R_uI, L_uI, A_uI, J_uI, Q_uI, E_uR, I_uR, L_uR, A_uR, J_uR, Q_uR, E_uA, I_uA, R_uA, L_uA, J_uA, Q_uA, E_uJ, I_uJ, R_uJ, L_uJ, A_uJ, Q_uJ, E_uQ, I_uQ, R_uQ, L_uQ, A_uQ, J_uQ, L_uO, A_uO, J_uO, Q_uO, I_uN, R_uN, E_uCA, I_uCA, R_uCA, L_uCA, J_uCA, Q_uCA, E_uCJ, I_uCJ, R_uCJ, L_uCJ, A_uCJ, Q_uCJ, m1_s]
  have A30 : tA A 3330 0 nM = nt c := by rw [eA]; simp (disch := omega) only [lmA, I_uI, I_uI_n, R_uR, R_uR_n, A_uA, A_uA_n, J_uJ, J_uJ_n, Q_uQ, Q_uQ_n, E_uO, E_uO_n, I_uO, I_uO_n, R_uO, R_uO_n, E_uN, E_uN_n, L_uN, L_uN_n, A_uN, A_uN_n, J_uN, J_uN_n, Q_uN, Q_uN_n, A_uCA, A_uCA_n, J_uCJ, J_uCJ_n, E_uI, R_uI, L_uI, A_uI, J_uI, Q_uI, E_uR, I_uR, L_uR, A_uR, J_uR, Q_uR, E_uA, I_uA, R_uA, L_uA, J_uA, Q_uA, E_uJ, I_uJ, R_uJ, L_uJ, A_uJ, Q_uJ, E_uQ, I_uQ, R_uQ, L_uQ, A_uQ, J_uQ, L_uO, A_uO, J_uO, Q_uO, I_uN, R_uN, E_uCA, I_uCA, R_uCA, L_uCA, J_uCA, Q_uCA, E_uCJ, I_uCJ, R_uCJ, L_uCJ, A_uCJ, Q_uCJ, m1_s]
  have A10 : tA A 3310 = tA s 3310 := (fA.1 3310 rfl).2.2.2.2.1
  have A49 : tA A 3349 = tA s 3349 := (fA.1 3349 rfl).2.2.2.2.1
  rw [← eA] at hA
  have eT : lmT s nS nM p co c d = lmS (uA (uA (uA A 3339 0 nM (tA s 3349 0 8)) 3310 0 c (tA s 3310 0 c - tA s 3349 0 0)) 3310 0 co (mm_u1 (tA s 3310 0) c (tA s 3310 0 c - tA s 3349 0 0) co + tA s 3349 0 0)) nM p c nS d (tA s 3349 0 7) 2 := by rw [eA]; rfl
  rw [eT]
  obtain ⟨B, eB⟩ : ∃ B, B = uA A 3339 0 nM (tA s 3349 0 8) := ⟨_, rfl⟩
  obtain ⟨C, eC⟩ : ∃ C, C = uA B 3310 0 c (tA s 3310 0 c - tA s 3349 0 0) := ⟨_, rfl⟩
  obtain ⟨G, eG⟩ : ∃ G, G = uA C 3310 0 co (mm_u1 (tA s 3310 0) c (tA s 3310 0 c - tA s 3349 0 0) co + tA s 3349 0 0) := ⟨_, rfl⟩
  rw [← eB, ← eC, ← eG]
  have fB : frm (ks [3339]) A B := by rw [eB]; exact frm_uA rfl
  have fC : frm (ks [3310]) B C := by rw [eC]; exact frm_uA rfl
  have fG : frm (ks [3310]) C G := by rw [eG]; exact frm_uA rfl
  have LB := Ilen_f fB LA
  have LC := Ilen_f fC LB
  have LG := Ilen_f fG LC
  have B10 : tA B 3310 = tA s 3310 := by rw [(fB.1 3310 rfl).2.2.2.2.1, A10]
  have B31 : tA B 3331 0 nM = tA s 3349 0 0 := by rw [(fB.1 3331 rfl).2.2.2.2.1, A31]
  have C29 : tA C 3329 0 nM = nt co := by rw [(fC.1 3329 rfl).2.2.2.2.1, (fB.1 3329 rfl).2.2.2.2.1, A29]
  have C31 : tA C 3331 0 nM = tA s 3349 0 0 := by rw [(fC.1 3331 rfl).2.2.2.2.1, B31]
  have C10 : tA C 3310 0 = mm_u1 (tA s 3310 0) c (tA s 3310 0 c - tA s 3349 0 0) := by rw [eC, A_uA, m1_s, B10]
  have G49 : tA G 3349 = tA s 3349 := by rw [(fG.1 3349 rfl).2.2.2.2.1, (fC.1 3349 rfl).2.2.2.2.1, (fB.1 3349 rfl).2.2.2.2.1, A49]
  have G16 : tI G 1316 0 = nt nS := by rw [(fG.1 1316 rfl).2.1, (fC.1 1316 rfl).2.1, (fB.1 1316 rfl).2.1, (fA.1 1316 rfl).2.1, h16]
  have G01 : tI G 1301 0 = nt d := by rw [(fG.1 1301 rfl).2.1, (fC.1 1301 rfl).2.1, (fB.1 1301 rfl).2.1, (fA.1 1301 rfl).2.1, hday]
  have G28 : tA G 3328 0 nM = nt p := by rw [(fG.1 3328 rfl).2.2.2.2.1, (fC.1 3328 rfl).2.2.2.2.1, (fB.1 3328 rfl).2.2.2.2.1, A28]
  have G30 : tA G 3330 0 nM = nt c := by rw [(fG.1 3330 rfl).2.2.2.2.1, (fC.1 3330 rfl).2.2.2.2.1, (fB.1 3330 rfl).2.2.2.2.1, A30]
  have hsp := addMoveSpan_m (t := G) (p := p) (c := c) LG G16 hlS hlM G01 G28 G30 (tA s 3349 0 7) 2
  unfold lendT
  rw [(show tL _ 3349 0 = 9 from hL 3349 rfl), g0, z0, hA, ob2_s, (show tL _ 3349 0 = 9 from LA 3349 rfl), (show tL _ 3339 0 = 200 from LA 3339 rfl), g8, z8, gd_nt _ (by omega) (by omega), nt_cl (by omega), A49, ← eB, nxt_e, (show tL _ 3310 0 = 150 from LB 3310 rfl), (show tL _ 3331 0 = 200 from LB 3331 rfl), gd_nt _ (by omega) (by omega), gd_nt _ (by omega) (by omega), gd_nt _ (by omega) (by omega), nt_cl (by omega), B10, B31, ← eC, nxt_e, (show tL _ 3329 0 = 200 from LC 3329 rfl), (show tL _ 3310 0 = 150 from LC 3310 rfl), (show tL _ 3331 0 = 200 from LC 3331 rfl), C29, C31, gd_nt _ (by omega) (by omega), gd_nt _ (by omega) (by omega), gd_nt _ (by omega) (by omega), gd_nt _ (by omega) (by omega), nt_cl (by omega), C10, ← eG, nxt_e, (show tL _ 3349 0 = 9 from LG 3349 rfl), g7, z7, G49, hsp]
  rfl
end
