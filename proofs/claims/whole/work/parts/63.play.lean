/-! PART 63: play. -/
section
variable {t : TS} {nB nS nM : Nat}
theorem moveC_c {f g : Nat → Int32} {a b : Nat} {v : Int32} (h : ∀ i, i < nB → f i = g i) (ha : a < nB) (hb : b < nB) : ∀ i, i < nB → moveC f a b v i = moveC g a b v i := by
  have h1 : ∀ i, i < nB → mm_u1 f a (f a - v) i = mm_u1 g a (g a - v) i := fun i hi => by
    by_cases e : i = a
    · subst e; rw [m1_s, m1_s, h i hi]
    · rw [m1_n e, m1_n e, h i hi]
  intro i hi
  unfold moveC
  by_cases e : i = b
  · subst e; rw [m1_s, m1_s, h1 i hi]
  · rw [m1_n e, m1_n e, h1 i hi]
theorem coinD_c {p c : Nat} {n : Int32} {f g : Nat → Int32} (h150 : nB ≤ 150) (hM : Imove nB nS nM t) (h : ∀ i, i < nB → f i = g i) : ∀ k, k ≤ nM → (∀ i, i < nB → coinD t p c n f k i = coinD t p c n g k i)
  | 0, _ => h
  | k + 1, hk => by
    have ih := coinD_c (p := p) (c := c) (n := n) h150 hM h k (by omega)
    obtain ⟨-, -, -, -, ⟨s, s1, -, s3, s4⟩, ⟨b, b1_, -, b3, b4⟩, -⟩ := hM.2.2.2.1 k (by omega)
    intro i hi
    show (if payB t p c n k then moveC (coinD t p c n f k) (tA t 3330 0 k).toNatClampNeg (tA t 3329 0 k).toNatClampNeg (tA t 3337 0 k) else coinD t p c n f k) i = (if payB t p c n k then moveC (coinD t p c n g k) (tA t 3330 0 k).toNatClampNeg (tA t 3329 0 k).toNatClampNeg (tA t 3337 0 k) else coinD t p c n g k) i
    by_cases e : payB t p c n k = true
    · rw [if_pos e, if_pos e, s4, b4, nt_cl (by omega), nt_cl (by omega)]
      exact moveC_c ih b1_ s1 i hi
    · rw [if_neg e, if_neg e]
      exact ih i hi
theorem coinD_o {p c : Nat} {n : Int32} {f : Nat → Int32} (h150 : nB ≤ 150) (hM : Imove nB nS nM t) {i : Nat} (hi : nB ≤ i) : ∀ k, k ≤ nM → coinD t p c n f k i = f i
  | 0, _ => rfl
  | k + 1, hk => by
    have ih := coinD_o (p := p) (c := c) (n := n) (f := f) h150 hM hi k (by omega)
    obtain ⟨-, -, -, -, ⟨s, s1, -, s3, s4⟩, ⟨b, b1_, -, b3, b4⟩, -⟩ := hM.2.2.2.1 k (by omega)
    show (if payB t p c n k then moveC (coinD t p c n f k) (tA t 3330 0 k).toNatClampNeg (tA t 3329 0 k).toNatClampNeg (tA t 3337 0 k) else coinD t p c n f k) i = _
    by_cases e : payB t p c n k = true
    · rw [if_pos e, s4, b4, nt_cl (by omega), nt_cl (by omega)]
      unfold moveC
      rw [m1_n (by omega), m1_n (by omega), ih]
    · rw [if_neg e, ih]
/-- told, paid and coins read the moves only -/
theorem pay_f {D : Nat → Bool} {t t' : TS} {p c : Nat} {n : Int32} (h : frm D t t') (hd : ∀ k, k ∈ [3328, 3329, 3330, 3333, 3334, 3337, 3338, 3345, 3346] → D k = false) : qual t' p c = qual t p c ∧ payB t' p c n = payB t p c n ∧ told t' p c n = told t p c n ∧ paidB t' p c n = paidB t p c n ∧ coinD t' p c n = coinD t p c n := by
  have e1 : qual t' p c = qual t p c := funext fun m => by
    unfold qual
    simp only [(h.1 3328 (hd 3328 (by decide))).2.2.2.2.1, (h.1 3330 (hd 3330 (by decide))).2.2.2.2.1, (h.1 3333 (hd 3333 (by decide))).2.2.2.2.1, (h.1 3334 (hd 3334 (by decide))).2.2.2.2.1]
  have e2 : payB t' p c n = payB t p c n := funext fun m => by
    unfold payB
    simp only [e1, (h.1 3337 (hd 3337 (by decide))).2.2.2.2.1, (h.1 3345 (hd 3345 (by decide))).2.2.2.2.1, (h.1 3338 (hd 3338 (by decide))).2.2.2.2.1, (h.1 3346 (hd 3346 (by decide))).2.2.2.2.1]
  refine ⟨e1, e2, ?_, ?_, ?_⟩
  · funext k m
    unfold told
    simp only [e1, (h.1 3346 (hd 3346 (by decide))).2.2.2.2.1]
  · funext k m
    unfold paidB
    simp only [e2, (h.1 3345 (hd 3345 (by decide))).2.2.2.2.1, (h.1 3337 (hd 3337 (by decide))).2.2.2.2.1]
  · funext f k
    induction k with
    | zero => rfl
    | succ k ih =>
      show (if payB t' p c n k then moveC (coinD t' p c n f k) (tA t' 3330 0 k).toNatClampNeg (tA t' 3329 0 k).toNatClampNeg (tA t' 3337 0 k) else coinD t' p c n f k) = (if payB t p c n k then moveC (coinD t p c n f k) (tA t 3330 0 k).toNatClampNeg (tA t 3329 0 k).toNatClampNeg (tA t 3337 0 k) else coinD t p c n f k)
      rw [ih, e2]
      simp only [(h.1 3330 (hd 3330 (by decide))).2.2.2.2.1, (h.1 3329 (hd 3329 (by decide))).2.2.2.2.1, (h.1 3337 (hd 3337 (by decide))).2.2.2.2.1]
def kPlay : List Nat := [103, 618, 619, 3310, 3345, 3346, 112, 2112, 3348]
/-- the class adds matches of a club -/
theorem X12_tell {p c sp : Nat} {n : Int32} (hB : Ibody nB t) (hK : Imat nB t) (hp : p < nB) (hc : c < nB) (hsp : tR t 1101 sp = some c) : ∃ u, B_X12_play_101 t n p sp = some (tA t 3348 0 (150 * p + c) + n, u) ∧ frm (ks [112, 2112]) t u ∧ tR u 112 = mm_u1 (tR t 112) p (some p) ∧ (∀ i, ¬ i = p → tA u 2112 i = tA t 2112 i ∧ tE u 2112 i = tE t 2112 i ∧ tL u 2112 i = tL t 2112 i) ∧ tL u 2112 p = 150 ∧ ∀ j, j < 150 → tA u 2112 p j = if j = c then tA t 3348 0 (150 * p + c) + n else tA t 3348 0 (150 * p + j) := by
  have h150 := hB.1
  have hci := (hB.2.2.2.1 c hc).2.2.1
  have key : ∀ t' : TS, tR t' 1101 sp = some c → tI t' 100 c = nt c → tR t' 112 p = some p → tL t' 2112 p = 150 → B_X12_play_117 t' n p sp = some (tA t' 2112 p c + n, uA t' 2112 p c (tA t' 2112 p c + n)) := by
    intro t' h1 h2 h3 h4
    unfold B_X12_play_117
    simp (disch := omega) only [nxt_e, oc_s, oc_n, ob_s, ob2_s, gb_b1, gb_0, gb_1, gw0, gw1, I_uI, I_uI_n, R_uR, R_uR_n, A_uA, A_uA_n, J_uJ, J_uJ_n, Q_uQ, Q_uQ_n, E_uO, E_uO_n, I_uO, I_uO_n, R_uO, R_uO_n, E_uN, E_uN_n, L_uN, L_uN_n, A_uN, A_uN_n, J_uN, J_uN_n, Q_uN, Q_uN_n, A_uCA, A_uCA_n, J_uCJ, J_uCJ_n, E_uI, R_uI, L_uI, A_uI, J_uI, Q_uI, E_uR, I_uR, L_uR, A_uR, J_uR, Q_uR, E_uA, I_uA, R_uA, L_uA, J_uA, Q_uA, E_uJ, I_uJ, R_uJ, L_uJ, A_uJ, Q_uJ, E_uQ, I_uQ, R_uQ, L_uQ, A_uQ, J_uQ, L_uO, A_uO, J_uO, Q_uO, I_uN, R_uN, E_uCA, I_uCA, R_uCA, L_uCA, J_uCA, Q_uCA, E_uCJ, I_uCJ, R_uCJ, L_uCJ, A_uCJ, Q_uCJ, m1_s, h1, h2, h3, h4, gd_nt, nt_cl]
  unfold B_X12_play_101
  rcases hK.1 p hp with ⟨a1, a2, a3⟩ | ⟨a1, a2, a3⟩
  · rw [nxt_e, a1, oc_n, gE_f _ a2, nxt_e, nxt_e, key _ (by simp (disch := omega) only [I_uI, I_uI_n, R_uR, R_uR_n, A_uA, A_uA_n, J_uJ, J_uJ_n, Q_uQ, Q_uQ_n, E_uO, E_uO_n, I_uO, I_uO_n, R_uO, R_uO_n, E_uN, E_uN_n, L_uN, L_uN_n, A_uN, A_uN_n, J_uN, J_uN_n, Q_uN, Q_uN_n, A_uCA, A_uCA_n, J_uCJ, J_uCJ_n, E_uI, R_uI, L_uI, A_uI, J_uI, Q_uI, E_uR, I_uR, L_uR, A_uR, J_uR, Q_uR, E_uA, I_uA, R_uA, L_uA, J_uA, Q_uA, E_uJ, I_uJ, R_uJ, L_uJ, A_uJ, Q_uJ, E_uQ, I_uQ, R_uQ, L_uQ, A_uQ, J_uQ, L_uO, A_uO, J_uO, Q_uO, I_uN, R_uN, E_uCA, I_uCA, R_uCA, L_uCA, J_uCA, Q_uCA, E_uCJ, I_uCJ, R_uCJ, L_uCJ, A_uCJ, Q_uCJ, m1_s]; exact hsp) (by simp (disch := omega) only [I_uI, I_uI_n, R_uR, R_uR_n, A_uA, A_uA_n, J_uJ, J_uJ_n, Q_uQ, Q_uQ_n, E_uO, E_uO_n, I_uO, I_uO_n, R_uO, R_uO_n, E_uN, E_uN_n, L_uN, L_uN_n, A_uN, A_uN_n, J_uN, J_uN_n, Q_uN, Q_uN_n, A_uCA, A_uCA_n, J_uCJ, J_uCJ_n, E_uI, R_uI, L_uI, A_uI, J_uI, Q_uI, E_uR, I_uR, L_uR, A_uR, J_uR, Q_uR, E_uA, I_uA, R_uA, L_uA, J_uA, Q_uA, E_uJ, I_uJ, R_uJ, L_uJ, A_uJ, Q_uJ, E_uQ, I_uQ, R_uQ, L_uQ, A_uQ, J_uQ, L_uO, A_uO, J_uO, Q_uO, I_uN, R_uN, E_uCA, I_uCA, R_uCA, L_uCA, J_uCA, Q_uCA, E_uCJ, I_uCJ, R_uCJ, L_uCJ, A_uCJ, Q_uCJ, m1_s]; exact hci) (by simp (disch := omega) only [I_uI, I_uI_n, R_uR, R_uR_n, A_uA, A_uA_n, J_uJ, J_uJ_n, Q_uQ, Q_uQ_n, E_uO, E_uO_n, I_uO, I_uO_n, R_uO, R_uO_n, E_uN, E_uN_n, L_uN, L_uN_n, A_uN, A_uN_n, J_uN, J_uN_n, Q_uN, Q_uN_n, A_uCA, A_uCA_n, J_uCJ, J_uCJ_n, E_uI, R_uI, L_uI, A_uI, J_uI, Q_uI, E_uR, I_uR, L_uR, A_uR, J_uR, Q_uR, E_uA, I_uA, R_uA, L_uA, J_uA, Q_uA, E_uJ, I_uJ, R_uJ, L_uJ, A_uJ, Q_uJ, E_uQ, I_uQ, R_uQ, L_uQ, A_uQ, J_uQ, L_uO, A_uO, J_uO, Q_uO, I_uN, R_uN, E_uCA, I_uCA, R_uCA, L_uCA, J_uCA, Q_uCA, E_uCJ, I_uCJ, R_uCJ, L_uCJ, A_uCJ, Q_uCJ, m1_s]) (by simp (disch := omega) only [I_uI, I_uI_n, R_uR, R_uR_n, A_uA, A_uA_n, J_uJ, J_uJ_n, Q_uQ, Q_uQ_n, E_uO, E_uO_n, I_uO, I_uO_n, R_uO, R_uO_n, E_uN, E_uN_n, L_uN, L_uN_n, A_uN, A_uN_n, J_uN, J_uN_n, Q_uN, Q_uN_n, A_uCA, A_uCA_n, J_uCJ, J_uCJ_n, E_uI, R_uI, L_uI, A_uI, J_uI, Q_uI, E_uR, I_uR, L_uR, A_uR, J_uR, Q_uR, E_uA, I_uA, R_uA, L_uA, J_uA, Q_uA, E_uJ, I_uJ, R_uJ, L_uJ, A_uJ, Q_uJ, E_uQ, I_uQ, R_uQ, L_uQ, A_uQ, J_uQ, L_uO, A_uO, J_uO, Q_uO, I_uN, R_uN, E_uCA, I_uCA, R_uCA, L_uCA, J_uCA, Q_uCA, E_uCJ, I_uCJ, R_uCJ, L_uCJ, A_uCJ, Q_uCJ, m1_s])]
    refine ⟨uA (uR (uN t 2112 p 150) 112 p (some p)) 2112 p c (tA (uR (uN t 2112 p 150) 112 p (some p)) 2112 p c + n), ?_, frm_tr (frm_uN rfl (Or.inl rfl)) (frm_tr (frm_uR rfl) (frm_uA rfl)), ?_, fun i hi => ⟨?_, ?_, ?_⟩, ?_, fun j hj => ?_⟩
    · rw [show tA (uR (uN t 2112 p 150) 112 p (some p)) 2112 p c = 0 by simp (disch := omega) only [I_uI, I_uI_n, R_uR, R_uR_n, A_uA, A_uA_n, J_uJ, J_uJ_n, Q_uQ, Q_uQ_n, E_uO, E_uO_n, I_uO, I_uO_n, R_uO, R_uO_n, E_uN, E_uN_n, L_uN, L_uN_n, A_uN, A_uN_n, J_uN, J_uN_n, Q_uN, Q_uN_n, A_uCA, A_uCA_n, J_uCJ, J_uCJ_n, E_uI, R_uI, L_uI, A_uI, J_uI, Q_uI, E_uR, I_uR, L_uR, A_uR, J_uR, Q_uR, E_uA, I_uA, R_uA, L_uA, J_uA, Q_uA, E_uJ, I_uJ, R_uJ, L_uJ, A_uJ, Q_uJ, E_uQ, I_uQ, R_uQ, L_uQ, A_uQ, J_uQ, L_uO, A_uO, J_uO, Q_uO, I_uN, R_uN, E_uCA, I_uCA, R_uCA, L_uCA, J_uCA, Q_uCA, E_uCJ, I_uCJ, R_uCJ, L_uCJ, A_uCJ, Q_uCJ, m1_s], a3 c (by omega)]
    · simp (disch := omega) only [I_uI, I_uI_n, R_uR, R_uR_n, A_uA, A_uA_n, J_uJ, J_uJ_n, Q_uQ, Q_uQ_n, E_uO, E_uO_n, I_uO, I_uO_n, R_uO, R_uO_n, E_uN, E_uN_n, L_uN, L_uN_n, A_uN, A_uN_n, J_uN, J_uN_n, Q_uN, Q_uN_n, A_uCA, A_uCA_n, J_uCJ, J_uCJ_n, E_uI, R_uI, L_uI, A_uI, J_uI, Q_uI, E_uR, I_uR, L_uR, A_uR, J_uR, Q_uR, E_uA, I_uA, R_uA, L_uA, J_uA, Q_uA, E_uJ, I_uJ, R_uJ, L_uJ, A_uJ, Q_uJ, E_uQ, I_uQ, R_uQ, L_uQ, A_uQ, J_uQ, L_uO, A_uO, J_uO, Q_uO, I_uN, R_uN, E_uCA, I_uCA, R_uCA, L_uCA, J_uCA, Q_uCA, E_uCJ, I_uCJ, R_uCJ, L_uCJ, A_uCJ, Q_uCJ, m1_s]
    · simp (disch := omega) only [I_uI, I_uI_n, R_uR, R_uR_n, A_uA, A_uA_n, J_uJ, J_uJ_n, Q_uQ, Q_uQ_n, E_uO, E_uO_n, I_uO, I_uO_n, R_uO, R_uO_n, E_uN, E_uN_n, L_uN, L_uN_n, A_uN, A_uN_n, J_uN, J_uN_n, Q_uN, Q_uN_n, A_uCA, A_uCA_n, J_uCJ, J_uCJ_n, E_uI, R_uI, L_uI, A_uI, J_uI, Q_uI, E_uR, I_uR, L_uR, A_uR, J_uR, Q_uR, E_uA, I_uA, R_uA, L_uA, J_uA, Q_uA, E_uJ, I_uJ, R_uJ, L_uJ, A_uJ, Q_uJ, E_uQ, I_uQ, R_uQ, L_uQ, A_uQ, J_uQ, L_uO, A_uO, J_uO, Q_uO, I_uN, R_uN, E_uCA, I_uCA, R_uCA, L_uCA, J_uCA, Q_uCA, E_uCJ, I_uCJ, R_uCJ, L_uCJ, A_uCJ, Q_uCJ, m1_s, m1_n hi]
    · simp (disch := omega) only [I_uI, I_uI_n, R_uR, R_uR_n, A_uA, A_uA_n, J_uJ, J_uJ_n, Q_uQ, Q_uQ_n, E_uO, E_uO_n, I_uO, I_uO_n, R_uO, R_uO_n, E_uN, E_uN_n, L_uN, L_uN_n, A_uN, A_uN_n, J_uN, J_uN_n, Q_uN, Q_uN_n, A_uCA, A_uCA_n, J_uCJ, J_uCJ_n, E_uI, R_uI, L_uI, A_uI, J_uI, Q_uI, E_uR, I_uR, L_uR, A_uR, J_uR, Q_uR, E_uA, I_uA, R_uA, L_uA, J_uA, Q_uA, E_uJ, I_uJ, R_uJ, L_uJ, A_uJ, Q_uJ, E_uQ, I_uQ, R_uQ, L_uQ, A_uQ, J_uQ, L_uO, A_uO, J_uO, Q_uO, I_uN, R_uN, E_uCA, I_uCA, R_uCA, L_uCA, J_uCA, Q_uCA, E_uCJ, I_uCJ, R_uCJ, L_uCJ, A_uCJ, Q_uCJ, m1_s, m1_n hi]
    · simp (disch := omega) only [I_uI, I_uI_n, R_uR, R_uR_n, A_uA, A_uA_n, J_uJ, J_uJ_n, Q_uQ, Q_uQ_n, E_uO, E_uO_n, I_uO, I_uO_n, R_uO, R_uO_n, E_uN, E_uN_n, L_uN, L_uN_n, A_uN, A_uN_n, J_uN, J_uN_n, Q_uN, Q_uN_n, A_uCA, A_uCA_n, J_uCJ, J_uCJ_n, E_uI, R_uI, L_uI, A_uI, J_uI, Q_uI, E_uR, I_uR, L_uR, A_uR, J_uR, Q_uR, E_uA, I_uA, R_uA, L_uA, J_uA, Q_uA, E_uJ, I_uJ, R_uJ, L_uJ, A_uJ, Q_uJ, E_uQ, I_uQ, R_uQ, L_uQ, A_uQ, J_uQ, L_uO, A_uO, J_uO, Q_uO, I_uN, R_uN, E_uCA, I_uCA, R_uCA, L_uCA, J_uCA, Q_uCA, E_uCJ, I_uCJ, R_uCJ, L_uCJ, A_uCJ, Q_uCJ, m1_s, m1_n hi]
    · simp (disch := omega) only [I_uI, I_uI_n, R_uR, R_uR_n, A_uA, A_uA_n, J_uJ, J_uJ_n, Q_uQ, Q_uQ_n, E_uO, E_uO_n, I_uO, I_uO_n, R_uO, R_uO_n, E_uN, E_uN_n, L_uN, L_uN_n, A_uN, A_uN_n, J_uN, J_uN_n, Q_uN, Q_uN_n, A_uCA, A_uCA_n, J_uCJ, J_uCJ_n, E_uI, R_uI, L_uI, A_uI, J_uI, Q_uI, E_uR, I_uR, L_uR, A_uR, J_uR, Q_uR, E_uA, I_uA, R_uA, L_uA, J_uA, Q_uA, E_uJ, I_uJ, R_uJ, L_uJ, A_uJ, Q_uJ, E_uQ, I_uQ, R_uQ, L_uQ, A_uQ, J_uQ, L_uO, A_uO, J_uO, Q_uO, I_uN, R_uN, E_uCA, I_uCA, R_uCA, L_uCA, J_uCA, Q_uCA, E_uCJ, I_uCJ, R_uCJ, L_uCJ, A_uCJ, Q_uCJ, m1_s]
    · simp (disch := omega) only [I_uI, I_uI_n, R_uR, R_uR_n, A_uA, A_uA_n, J_uJ, J_uJ_n, Q_uQ, Q_uQ_n, E_uO, E_uO_n, I_uO, I_uO_n, R_uO, R_uO_n, E_uN, E_uN_n, L_uN, L_uN_n, A_uN, A_uN_n, J_uN, J_uN_n, Q_uN, Q_uN_n, A_uCA, A_uCA_n, J_uCJ, J_uCJ_n, E_uI, R_uI, L_uI, A_uI, J_uI, Q_uI, E_uR, I_uR, L_uR, A_uR, J_uR, Q_uR, E_uA, I_uA, R_uA, L_uA, J_uA, Q_uA, E_uJ, I_uJ, R_uJ, L_uJ, A_uJ, Q_uJ, E_uQ, I_uQ, R_uQ, L_uQ, A_uQ, J_uQ, L_uO, A_uO, J_uO, Q_uO, I_uN, R_uN, E_uCA, I_uCA, R_uCA, L_uCA, J_uCA, Q_uCA, E_uCJ, I_uCJ, R_uCJ, L_uCJ, A_uCJ, Q_uCJ, m1_s]
      by_cases e : j = c
      · subst e; rw [m1_s, if_pos rfl, a3 j hj]
      · rw [m1_n e, if_neg e, a3 j hj]
  · rw [nxt_e, a1, oc_s, key t hsp hci a1 a2]
    refine ⟨uA t 2112 p c (tA t 2112 p c + n), ?_, frm_uA rfl, ?_, fun i hi => ⟨?_, rfl, rfl⟩, ?_, fun j hj => ?_⟩
    · rw [a3 c (by omega)]
    · simp (disch := omega) only [I_uI, I_uI_n, R_uR, R_uR_n, A_uA, A_uA_n, J_uJ, J_uJ_n, Q_uQ, Q_uQ_n, E_uO, E_uO_n, I_uO, I_uO_n, R_uO, R_uO_n, E_uN, E_uN_n, L_uN, L_uN_n, A_uN, A_uN_n, J_uN, J_uN_n, Q_uN, Q_uN_n, A_uCA, A_uCA_n, J_uCJ, J_uCJ_n, E_uI, R_uI, L_uI, A_uI, J_uI, Q_uI, E_uR, I_uR, L_uR, A_uR, J_uR, Q_uR, E_uA, I_uA, R_uA, L_uA, J_uA, Q_uA, E_uJ, I_uJ, R_uJ, L_uJ, A_uJ, Q_uJ, E_uQ, I_uQ, R_uQ, L_uQ, A_uQ, J_uQ, L_uO, A_uO, J_uO, Q_uO, I_uN, R_uN, E_uCA, I_uCA, R_uCA, L_uCA, J_uCA, Q_uCA, E_uCJ, I_uCJ, R_uCJ, L_uCJ, A_uCJ, Q_uCJ, m1_s]
      exact (m1_sf a1).symm
    · simp (disch := omega) only [I_uI, I_uI_n, R_uR, R_uR_n, A_uA, A_uA_n, J_uJ, J_uJ_n, Q_uQ, Q_uQ_n, E_uO, E_uO_n, I_uO, I_uO_n, R_uO, R_uO_n, E_uN, E_uN_n, L_uN, L_uN_n, A_uN, A_uN_n, J_uN, J_uN_n, Q_uN, Q_uN_n, A_uCA, A_uCA_n, J_uCJ, J_uCJ_n, E_uI, R_uI, L_uI, A_uI, J_uI, Q_uI, E_uR, I_uR, L_uR, A_uR, J_uR, Q_uR, E_uA, I_uA, R_uA, L_uA, J_uA, Q_uA, E_uJ, I_uJ, R_uJ, L_uJ, A_uJ, Q_uJ, E_uQ, I_uQ, R_uQ, L_uQ, A_uQ, J_uQ, L_uO, A_uO, J_uO, Q_uO, I_uN, R_uN, E_uCA, I_uCA, R_uCA, L_uCA, J_uCA, Q_uCA, E_uCJ, I_uCJ, R_uCJ, L_uCJ, A_uCJ, Q_uCJ, m1_s, m1_n hi]
    · simp (disch := omega) only [I_uI, I_uI_n, R_uR, R_uR_n, A_uA, A_uA_n, J_uJ, J_uJ_n, Q_uQ, Q_uQ_n, E_uO, E_uO_n, I_uO, I_uO_n, R_uO, R_uO_n, E_uN, E_uN_n, L_uN, L_uN_n, A_uN, A_uN_n, J_uN, J_uN_n, Q_uN, Q_uN_n, A_uCA, A_uCA_n, J_uCJ, J_uCJ_n, E_uI, R_uI, L_uI, A_uI, J_uI, Q_uI, E_uR, I_uR, L_uR, A_uR, J_uR, Q_uR, E_uA, I_uA, R_uA, L_uA, J_uA, Q_uA, E_uJ, I_uJ, R_uJ, L_uJ, A_uJ, Q_uJ, E_uQ, I_uQ, R_uQ, L_uQ, A_uQ, J_uQ, L_uO, A_uO, J_uO, Q_uO, I_uN, R_uN, E_uCA, I_uCA, R_uCA, L_uCA, J_uCA, Q_uCA, E_uCJ, I_uCJ, R_uCJ, L_uCJ, A_uCJ, Q_uCJ, m1_s, a2]
    · simp (disch := omega) only [I_uI, I_uI_n, R_uR, R_uR_n, A_uA, A_uA_n, J_uJ, J_uJ_n, Q_uQ, Q_uQ_n, E_uO, E_uO_n, I_uO, I_uO_n, R_uO, R_uO_n, E_uN, E_uN_n, L_uN, L_uN_n, A_uN, A_uN_n, J_uN, J_uN_n, Q_uN, Q_uN_n, A_uCA, A_uCA_n, J_uCJ, J_uCJ_n, E_uI, R_uI, L_uI, A_uI, J_uI, Q_uI, E_uR, I_uR, L_uR, A_uR, J_uR, Q_uR, E_uA, I_uA, R_uA, L_uA, J_uA, Q_uA, E_uJ, I_uJ, R_uJ, L_uJ, A_uJ, Q_uJ, E_uQ, I_uQ, R_uQ, L_uQ, A_uQ, J_uQ, L_uO, A_uO, J_uO, Q_uO, I_uN, R_uN, E_uCA, I_uCA, R_uCA, L_uCA, J_uCA, Q_uCA, E_uCJ, I_uCJ, R_uCJ, L_uCJ, A_uCJ, Q_uCJ, m1_s]
      by_cases e : j = c
      · subst e; rw [m1_s, if_pos rfl, a3 j hj]
      · rw [m1_n e, if_neg e, a3 j hj]
end
