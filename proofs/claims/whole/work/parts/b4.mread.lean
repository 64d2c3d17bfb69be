/-! PART b4: the model reads a text: lines. -/
section
variable {T : Nat → Nat} {L R : Nat}
theorem mbad_lay {t v : TS} {p0 o l0 q l' : Nat} (hLv : Ilen v) (hDv : mD v T L R) (hf : frm kRd t v) (pre : ∀ i, i < 200 * R + l0 → tA v 3361 0 i = tA t 3361 0 i ∧ tA v 3362 0 i = tA t 3362 0 i) (h1 : tI v 1364 0 = nt q) (h2 : tI v 1367 0 = nt l') (h3 : l0 ≤ l') (h4 : l' + 1 + p0 ≤ l0 + q) (h5 : l' < 200) (k w : Int32) (c : List (Int32 × Int32)) : ∃ v', F_X13_lay v k w = some v' ∧ mOut t v' R p0 o l0 (false, q, c) ∧ tI v' 1364 0 = nt q := by
  have e64 : tI (uI (uA (uA v 3361 0 (200 * R + l') k) 3362 0 (200 * R + l') w) 1367 0 (nt (l' + 1))) 1364 0 = nt q := by
    simp (disch := omega) only [I_uI, I_uI_n, R_uR, R_uR_n, A_uA, A_uA_n, J_uJ, J_uJ_n, Q_uQ, Q_uQ_n, E_uO, E_uO_n, I_uO, I_uO_n, R_uO, R_uO_n, E_uN, E_uN_n, L_uN, L_uN_n, A_uN, A_uN_n, J_uN, J_uN_n, Q_uN, Q_uN_n, A_uCA, A_uCA_n, J_uCJ, J_uCJ_n, E_uI, R_uI, L_uI, A_uI, J_uI, Q_uI, E_uR, I_uR, L_uR, A_uR, J_uR, Q_uR, E_uA, I_uA, R_uA, L_uA, J_uA, Q_uA, E_uJ, I_uJ, R_uJ, L_uJ, A_uJ, Q_uJ, E_uQ, I_uQ, R_uQ, L_uQ, A_uQ, J_uQ, L_uO, A_uO, J_uO, Q_uO, I_uN, R_uN, E_uCA, I_uCA, R_uCA, L_uCA, J_uCA, Q_uCA, E_uCJ, I_uCJ, R_uCJ, L_uCJ, A_uCJ, Q_uCJ, m1_s]; exact h1
  refine ⟨_, lay_eq hLv hDv.2.2.1 h2 hDv.2.2.2.1 h5 k w, ⟨frm_tr hf (frm_tr (frm_uA rfl) (frm_tr (frm_uA rfl) (frm_uI rfl))), fun i hi => ?_, Or.inr ⟨rfl, e64, l' + 1, ?_, by omega, h4⟩⟩, e64⟩
  · have hi2 : ¬ i = 200 * R + l' := by omega
    obtain ⟨q1, q2⟩ := pre i hi
    simp (disch := omega) only [I_uI, I_uI_n, R_uR, R_uR_n, A_uA, A_uA_n, J_uJ, J_uJ_n, Q_uQ, Q_uQ_n, E_uO, E_uO_n, I_uO, I_uO_n, R_uO, R_uO_n, E_uN, E_uN_n, L_uN, L_uN_n, A_uN, A_uN_n, J_uN, J_uN_n, Q_uN, Q_uN_n, A_uCA, A_uCA_n, J_uCJ, J_uCJ_n, E_uI, R_uI, L_uI, A_uI, J_uI, Q_uI, E_uR, I_uR, L_uR, A_uR, J_uR, Q_uR, E_uA, I_uA, R_uA, L_uA, J_uA, Q_uA, E_uJ, I_uJ, R_uJ, L_uJ, A_uJ, Q_uJ, E_uQ, I_uQ, R_uQ, L_uQ, A_uQ, J_uQ, L_uO, A_uO, J_uO, Q_uO, I_uN, R_uN, E_uCA, I_uCA, R_uCA, L_uCA, J_uCA, Q_uCA, E_uCJ, I_uCJ, R_uCJ, L_uCJ, A_uCJ, Q_uCJ, m1_s, m1_n hi2]
    exact ⟨q1, q2⟩
  · simp (disch := omega) only [I_uI, I_uI_n, R_uR, R_uR_n, A_uA, A_uA_n, J_uJ, J_uJ_n, Q_uQ, Q_uQ_n, E_uO, E_uO_n, I_uO, I_uO_n, R_uO, R_uO_n, E_uN, E_uN_n, L_uN, L_uN_n, A_uN, A_uN_n, J_uN, J_uN_n, Q_uN, Q_uN_n, A_uCA, A_uCA_n, J_uCJ, J_uCJ_n, E_uI, R_uI, L_uI, A_uI, J_uI, Q_uI, E_uR, I_uR, L_uR, A_uR, J_uR, Q_uR, E_uA, I_uA, R_uA, L_uA, J_uA, Q_uA, E_uJ, I_uJ, R_uJ, L_uJ, A_uJ, Q_uJ, E_uQ, I_uQ, R_uQ, L_uQ, A_uQ, J_uQ, L_uO, A_uO, J_uO, Q_uO, I_uN, R_uN, E_uCA, I_uCA, R_uCA, L_uCA, J_uCA, Q_uCA, E_uCJ, I_uCJ, R_uCJ, L_uCJ, A_uCJ, Q_uCJ, m1_s]
theorem opens_eq {t : TS} {p o l : Nat} (hat : mAt t p o l) (ho : o ≤ 8) : F_X13_opens t = if o = 8 then some (0, uI t 1364 0 (nt p)) else some (1, uI (uI t 1365 0 (nt (o + 1))) 1363 0 (nt (p + 1))) := by
  obtain ⟨a1, a2, a3, a4⟩ := hat
  have c8 : (¬ nt o = 8) = ¬ o = 8 := congrArg Not (eq_nt (n := 8) (by omega) (by omega))
  unfold F_X13_opens
  rw [a3, ifP c8]
  by_cases c3 : o = 8
  · rw [if_neg (fun q => q c3), if_pos c3, wrong_eq a1 a2, ob_s]
  · have e : tI (uI t 1365 0 (nt o + 1)) 1363 0 = nt p := by simp (disch := omega) only [I_uI, I_uI_n, R_uR, R_uR_n, A_uA, A_uA_n, J_uJ, J_uJ_n, Q_uQ, Q_uQ_n, E_uO, E_uO_n, I_uO, I_uO_n, R_uO, R_uO_n, E_uN, E_uN_n, L_uN, L_uN_n, A_uN, A_uN_n, J_uN, J_uN_n, Q_uN, Q_uN_n, A_uCA, A_uCA_n, J_uCJ, J_uCJ_n, E_uI, R_uI, L_uI, A_uI, J_uI, Q_uI, E_uR, I_uR, L_uR, A_uR, J_uR, Q_uR, E_uA, I_uA, R_uA, L_uA, J_uA, Q_uA, E_uJ, I_uJ, R_uJ, L_uJ, A_uJ, Q_uJ, E_uQ, I_uQ, R_uQ, L_uQ, A_uQ, J_uQ, L_uO, A_uO, J_uO, Q_uO, I_uN, R_uN, E_uCA, I_uCA, R_uCA, L_uCA, J_uCA, Q_uCA, E_uCJ, I_uCJ, R_uCJ, L_uCJ, A_uCJ, Q_uCJ, m1_s]; exact a1
    rw [if_pos c3, if_neg c3, nxt_e, nxt_e, e, nt_succ, nt_succ]
theorem opened {t : TS} {p o l : Nat} (hat : mAt t p o l) : frm (ks [1363, 1365]) t (uI (uI t 1365 0 (nt (o + 1))) 1363 0 (nt (p + 1))) ∧ mAt (uI (uI t 1365 0 (nt (o + 1))) 1363 0 (nt (p + 1))) (p + 1) (o + 1) l := by
  obtain ⟨a1, a2, a3, a4⟩ := hat
  refine ⟨frm_tr (frm_uI rfl) (frm_uI rfl), ?_, ?_, ?_, ?_⟩
  · simp (disch := omega) only [I_uI, I_uI_n, R_uR, R_uR_n, A_uA, A_uA_n, J_uJ, J_uJ_n, Q_uQ, Q_uQ_n, E_uO, E_uO_n, I_uO, I_uO_n, R_uO, R_uO_n, E_uN, E_uN_n, L_uN, L_uN_n, A_uN, A_uN_n, J_uN, J_uN_n, Q_uN, Q_uN_n, A_uCA, A_uCA_n, J_uCJ, J_uCJ_n, E_uI, R_uI, L_uI, A_uI, J_uI, Q_uI, E_uR, I_uR, L_uR, A_uR, J_uR, Q_uR, E_uA, I_uA, R_uA, L_uA, J_uA, Q_uA, E_uJ, I_uJ, R_uJ, L_uJ, A_uJ, Q_uJ, E_uQ, I_uQ, R_uQ, L_uQ, A_uQ, J_uQ, L_uO, A_uO, J_uO, Q_uO, I_uN, R_uN, E_uCA, I_uCA, R_uCA, L_uCA, J_uCA, Q_uCA, E_uCJ, I_uCJ, R_uCJ, L_uCJ, A_uCJ, Q_uCJ, m1_s]
  · simp (disch := omega) only [I_uI, I_uI_n, R_uR, R_uR_n, A_uA, A_uA_n, J_uJ, J_uJ_n, Q_uQ, Q_uQ_n, E_uO, E_uO_n, I_uO, I_uO_n, R_uO, R_uO_n, E_uN, E_uN_n, L_uN, L_uN_n, A_uN, A_uN_n, J_uN, J_uN_n, Q_uN, Q_uN_n, A_uCA, A_uCA_n, J_uCJ, J_uCJ_n, E_uI, R_uI, L_uI, A_uI, J_uI, Q_uI, E_uR, I_uR, L_uR, A_uR, J_uR, Q_uR, E_uA, I_uA, R_uA, L_uA, J_uA, Q_uA, E_uJ, I_uJ, R_uJ, L_uJ, A_uJ, Q_uJ, E_uQ, I_uQ, R_uQ, L_uQ, A_uQ, J_uQ, L_uO, A_uO, J_uO, Q_uO, I_uN, R_uN, E_uCA, I_uCA, R_uCA, L_uCA, J_uCA, Q_uCA, E_uCJ, I_uCJ, R_uCJ, L_uCJ, A_uCJ, Q_uCJ, m1_s]; exact a2
  · simp (disch := omega) only [I_uI, I_uI_n, R_uR, R_uR_n, A_uA, A_uA_n, J_uJ, J_uJ_n, Q_uQ, Q_uQ_n, E_uO, E_uO_n, I_uO, I_uO_n, R_uO, R_uO_n, E_uN, E_uN_n, L_uN, L_uN_n, A_uN, A_uN_n, J_uN, J_uN_n, Q_uN, Q_uN_n, A_uCA, A_uCA_n, J_uCJ, J_uCJ_n, E_uI, R_uI, L_uI, A_uI, J_uI, Q_uI, E_uR, I_uR, L_uR, A_uR, J_uR, Q_uR, E_uA, I_uA, R_uA, L_uA, J_uA, Q_uA, E_uJ, I_uJ, R_uJ, L_uJ, A_uJ, Q_uJ, E_uQ, I_uQ, R_uQ, L_uQ, A_uQ, J_uQ, L_uO, A_uO, J_uO, Q_uO, I_uN, R_uN, E_uCA, I_uCA, R_uCA, L_uCA, J_uCA, Q_uCA, E_uCJ, I_uCJ, R_uCJ, L_uCJ, A_uCJ, Q_uCJ, m1_s]
  · simp (disch := omega) only [I_uI, I_uI_n, R_uR, R_uR_n, A_uA, A_uA_n, J_uJ, J_uJ_n, Q_uQ, Q_uQ_n, E_uO, E_uO_n, I_uO, I_uO_n, R_uO, R_uO_n, E_uN, E_uN_n, L_uN, L_uN_n, A_uN, A_uN_n, J_uN, J_uN_n, Q_uN, Q_uN_n, A_uCA, A_uCA_n, J_uCJ, J_uCJ_n, E_uI, R_uI, L_uI, A_uI, J_uI, Q_uI, E_uR, I_uR, L_uR, A_uR, J_uR, Q_uR, E_uA, I_uA, R_uA, L_uA, J_uA, Q_uA, E_uJ, I_uJ, R_uJ, L_uJ, A_uJ, Q_uJ, E_uQ, I_uQ, R_uQ, L_uQ, A_uQ, J_uQ, L_uO, A_uO, J_uO, Q_uO, I_uN, R_uN, E_uCA, I_uCA, R_uCA, L_uCA, J_uCA, Q_uCA, E_uCJ, I_uCJ, R_uCJ, L_uCJ, A_uCJ, Q_uCJ, m1_s]; exact a4
theorem mBs (hT : ∀ i, i < L → T i < 256) (g : Nat → TS → Option TS) {rb re : Nat → Nat → Bool × Nat × List (Int32 × Int32)} {o : Nat} (hbgo : ∀ p o, p ≤ L → pgo L p (rb p o)) (hego : ∀ p o, p ≤ L → pgo L p (re p o)) (hgb : ¬ o = 8 → ∀ t p l, Ilen t → mD t T L R → mAt t p (o + 1) l → p ≤ L → l ≤ p → ∃ u, g 0 t = some u ∧ mOut t u R p (o + 1) l (rb p (o + 1))) (hge : ¬ o = 8 → ∀ t p l, Ilen t → mD t T L R → mAt t p (o + 1) l → p ≤ L → l ≤ p → ∃ u, g 2 t = some u ∧ mOut t u R p (o + 1) l (re p (o + 1))) (ho : o ≤ 8) {t : TS} {p l : Nat} (hL : Ilen t) (hD : mD t T L R) (hat : mAt t p o l) (hp : p ≤ L) (hl : l ≤ p) : ∃ u, Fb_X13_base g t = some u ∧ mOut t u R p o l (pBs (chA T L) rb re p o) := by
  have hD0 := hD
  obtain ⟨hL160, d2, d3, hR, d5⟩ := hD
  have hat0 := hat
  obtain ⟨a1, a2, a3, a4⟩ := hat
  have hle := fun p => chA_le (T := T) (L := L) hT p
  have hend : ∀ p, L ≤ p → chA T L p = 256 := fun p hp => chA_end hp
  have c33 : (¬ lk (chA T L p) = 33) = ¬ chA T L p = 33 := congrArg Not (propext (lk_eq _ (hle p) 33 (by omega)))
  have c91 : (¬ lk (chA T L p) = 91) = ¬ chA T L p = 91 := congrArg Not (propext (lk_eq _ (hle p) 91 (by omega)))
  have bad8 : mOut t (uI t 1364 0 (nt p)) R p o l (false, p, []) := by
    refine ⟨frm_uI rfl, fun i _ => ⟨rfl, rfl⟩, Or.inr ⟨rfl, ?_, l, ?_, Nat.le_refl _, Nat.le_refl _⟩⟩
    · simp (disch := omega) only [I_uI, I_uI_n, R_uR, R_uR_n, A_uA, A_uA_n, J_uJ, J_uJ_n, Q_uQ, Q_uQ_n, E_uO, E_uO_n, I_uO, I_uO_n, R_uO, R_uO_n, E_uN, E_uN_n, L_uN, L_uN_n, A_uN, A_uN_n, J_uN, J_uN_n, Q_uN, Q_uN_n, A_uCA, A_uCA_n, J_uCJ, J_uCJ_n, E_uI, R_uI, L_uI, A_uI, J_uI, Q_uI, E_uR, I_uR, L_uR, A_uR, J_uR, Q_uR, E_uA, I_uA, R_uA, L_uA, J_uA, Q_uA, E_uJ, I_uJ, R_uJ, L_uJ, A_uJ, Q_uJ, E_uQ, I_uQ, R_uQ, L_uQ, A_uQ, J_uQ, L_uO, A_uO, J_uO, Q_uO, I_uN, R_uN, E_uCA, I_uCA, R_uCA, L_uCA, J_uCA, Q_uCA, E_uCJ, I_uCJ, R_uCJ, L_uCJ, A_uCJ, Q_uCJ, m1_s]
    · simp (disch := omega) only [I_uI, I_uI_n, R_uR, R_uR_n, A_uA, A_uA_n, J_uJ, J_uJ_n, Q_uQ, Q_uQ_n, E_uO, E_uO_n, I_uO, I_uO_n, R_uO, R_uO_n, E_uN, E_uN_n, L_uN, L_uN_n, A_uN, A_uN_n, J_uN, J_uN_n, Q_uN, Q_uN_n, A_uCA, A_uCA_n, J_uCJ, J_uCJ_n, E_uI, R_uI, L_uI, A_uI, J_uI, Q_uI, E_uR, I_uR, L_uR, A_uR, J_uR, Q_uR, E_uA, I_uA, R_uA, L_uA, J_uA, Q_uA, E_uJ, I_uJ, R_uJ, L_uJ, A_uJ, Q_uJ, E_uQ, I_uQ, R_uQ, L_uQ, A_uQ, J_uQ, L_uO, A_uO, J_uO, Q_uO, I_uN, R_uN, E_uCA, I_uCA, R_uCA, L_uCA, J_uCA, Q_uCA, E_uCJ, I_uCJ, R_uCJ, L_uCJ, A_uCJ, Q_uCJ, m1_s]; exact a4
  obtain ⟨fo, hato⟩ := opened hat0
  generalize ht1 : uI (uI t 1365 0 (nt (o + 1))) 1363 0 (nt (p + 1)) = t1 at fo hato
  have fo' : frm kRd t t1 := frm_sb fo (ks_sb rfl)
  have hL1 := Ilen_f fo hL
  have hD1 := mD_f fo' hD0
  have e61 : tA t1 3361 = tA t 3361 := (fo.1 3361 rfl).2.2.2.2.1
  have e62 : tA t1 3362 = tA t 3362 := (fo.1 3362 rfl).2.2.2.2.1
  unfold Fb_X13_base pBs
  rw [look_eq hL hD0 a1 hp, ob_s, ob_s, ifP c33, ifP c91, opens_eq hat0 ho, ht1]
  by_cases c1 : chA T L p = 33
  · have hpL : p < L := ch_lt hend (show ¬ chA T L p = 256 by omega)
    rw [if_neg (fun q => q c1), if_pos c1]
    by_cases c3 : o = 8
    · rw [if_pos c3, if_pos c3, ob2_s, if_neg (fun q => q rfl)]
      exact ⟨_, rfl, bad8⟩
    rw [if_neg c3, if_neg c3, ob2_s, if_pos (by decide)]
    obtain ⟨v, g1, g2⟩ := hgb c3 t1 (p + 1) l hL1 hD1 hato hpL (by omega)
    rw [g1, ob_s]
    have hgo := hbgo (p + 1) (o + 1) hpL
    generalize rb (p + 1) (o + 1) = r at g2 hgo ⊢
    obtain ⟨rb', rq, rc⟩ := r
    obtain ⟨gf, gp, gh⟩ := g2
    rw [e61, e62] at gp
    have fv : frm kRd t v := frm_tr fo' gf
    have f65 : frm (ks [1365]) v (uI v 1365 0 (tI v 1365 0 - 1)) := frm_uI rfl
    have fw : frm kRd t (uI v 1365 0 (tI v 1365 0 - 1)) := frm_tr fv (frm_uI rfl)
    have hLw := Ilen_f fw hL
    have hDw := mD_f fw hD0
    rw [nxt_e]
    cases rb' with
    | true =>
      rcases hgo with ⟨-, k1, k2, k3⟩ | ⟨k1, -⟩
      case inr => cases k1
      have k2' : rq ≤ L := k2
      have k3' : p + 1 + rc.length ≤ rq := k3
      rcases gh with ⟨-, ⟨b1_, b2, b3, b4⟩, b5⟩ | ⟨h4, -⟩
      case inr => cases h4
      have b1' : tI v 1363 0 = nt rq := b1_
      have b4' : tI v 1367 0 = nt (l + rc.length) := b4
      have hO : mOut t (uI v 1365 0 (tI v 1365 0 - 1)) R p o l (true, rq, rc) := by
        refine ⟨fw, fun i hi => gp i hi, Or.inl ⟨rfl, ⟨?_, ?_, ?_, ?_⟩, fun j hj => b5 j hj⟩⟩
        · simp (disch := omega) only [I_uI, I_uI_n, R_uR, R_uR_n, A_uA, A_uA_n, J_uJ, J_uJ_n, Q_uQ, Q_uQ_n, E_uO, E_uO_n, I_uO, I_uO_n, R_uO, R_uO_n, E_uN, E_uN_n, L_uN, L_uN_n, A_uN, A_uN_n, J_uN, J_uN_n, Q_uN, Q_uN_n, A_uCA, A_uCA_n, J_uCJ, J_uCJ_n, E_uI, R_uI, L_uI, A_uI, J_uI, Q_uI, E_uR, I_uR, L_uR, A_uR, J_uR, Q_uR, E_uA, I_uA, R_uA, L_uA, J_uA, Q_uA, E_uJ, I_uJ, R_uJ, L_uJ, A_uJ, Q_uJ, E_uQ, I_uQ, R_uQ, L_uQ, A_uQ, J_uQ, L_uO, A_uO, J_uO, Q_uO, I_uN, R_uN, E_uCA, I_uCA, R_uCA, L_uCA, J_uCA, Q_uCA, E_uCJ, I_uCJ, R_uCJ, L_uCJ, A_uCJ, Q_uCJ, m1_s]; exact b1'
        · simp (disch := omega) only [I_uI, I_uI_n, R_uR, R_uR_n, A_uA, A_uA_n, J_uJ, J_uJ_n, Q_uQ, Q_uQ_n, E_uO, E_uO_n, I_uO, I_uO_n, R_uO, R_uO_n, E_uN, E_uN_n, L_uN, L_uN_n, A_uN, A_uN_n, J_uN, J_uN_n, Q_uN, Q_uN_n, A_uCA, A_uCA_n, J_uCJ, J_uCJ_n, E_uI, R_uI, L_uI, A_uI, J_uI, Q_uI, E_uR, I_uR, L_uR, A_uR, J_uR, Q_uR, E_uA, I_uA, R_uA, L_uA, J_uA, Q_uA, E_uJ, I_uJ, R_uJ, L_uJ, A_uJ, Q_uJ, E_uQ, I_uQ, R_uQ, L_uQ, A_uQ, J_uQ, L_uO, A_uO, J_uO, Q_uO, I_uN, R_uN, E_uCA, I_uCA, R_uCA, L_uCA, J_uCA, Q_uCA, E_uCJ, I_uCJ, R_uCJ, L_uCJ, A_uCJ, Q_uCJ, m1_s]; exact b2
        · simp (disch := omega) only [I_uI, I_uI_n, R_uR, R_uR_n, A_uA, A_uA_n, J_uJ, J_uJ_n, Q_uQ, Q_uQ_n, E_uO, E_uO_n, I_uO, I_uO_n, R_uO, R_uO_n, E_uN, E_uN_n, L_uN, L_uN_n, A_uN, A_uN_n, J_uN, J_uN_n, Q_uN, Q_uN_n, A_uCA, A_uCA_n, J_uCJ, J_uCJ_n, E_uI, R_uI, L_uI, A_uI, J_uI, Q_uI, E_uR, I_uR, L_uR, A_uR, J_uR, Q_uR, E_uA, I_uA, R_uA, L_uA, J_uA, Q_uA, E_uJ, I_uJ, R_uJ, L_uJ, A_uJ, Q_uJ, E_uQ, I_uQ, R_uQ, L_uQ, A_uQ, J_uQ, L_uO, A_uO, J_uO, Q_uO, I_uN, R_uN, E_uCA, I_uCA, R_uCA, L_uCA, J_uCA, Q_uCA, E_uCJ, I_uCJ, R_uCJ, L_uCJ, A_uCJ, Q_uCJ, m1_s]; rw [b3, nt_pred]
        · simp (disch := omega) only [I_uI, I_uI_n, R_uR, R_uR_n, A_uA, A_uA_n, J_uJ, J_uJ_n, Q_uQ, Q_uQ_n, E_uO, E_uO_n, I_uO, I_uO_n, R_uO, R_uO_n, E_uN, E_uN_n, L_uN, L_uN_n, A_uN, A_uN_n, J_uN, J_uN_n, Q_uN, Q_uN_n, A_uCA, A_uCA_n, J_uCJ, J_uCJ_n, E_uI, R_uI, L_uI, A_uI, J_uI, Q_uI, E_uR, I_uR, L_uR, A_uR, J_uR, Q_uR, E_uA, I_uA, R_uA, L_uA, J_uA, Q_uA, E_uJ, I_uJ, R_uJ, L_uJ, A_uJ, Q_uJ, E_uQ, I_uQ, R_uQ, L_uQ, A_uQ, J_uQ, L_uO, A_uO, J_uO, Q_uO, I_uN, R_uN, E_uCA, I_uCA, R_uCA, L_uCA, J_uCA, Q_uCA, E_uCJ, I_uCJ, R_uCJ, L_uCJ, A_uCJ, Q_uCJ, m1_s]; exact b4'
      obtain ⟨w, w1, w2⟩ := mOut_lay hLw hDw hO (by omega) 3 0
      rw [w1, ob_s, if_pos rfl]
      exact ⟨w, rfl, w2⟩
    | false =>
      rcases hgo with ⟨k1, -⟩ | ⟨-, k2, k3⟩
      · cases k1
      have k3' : rq ≤ L := k3
      rcases gh with ⟨h4, -⟩ | ⟨-, b1_, l', b2, b3, b4⟩
      · cases h4
      have b1' : tI v 1364 0 = nt rq := b1_
      have b4' : l' + (p + 1) ≤ l + rq := b4
      obtain ⟨w, w1, w2, w3⟩ := mbad_lay (p0 := p) (o := o) hLw hDw fw (fun i hi => gp i hi) (by simp (disch := omega) only [I_uI, I_uI_n, R_uR, R_uR_n, A_uA, A_uA_n, J_uJ, J_uJ_n, Q_uQ, Q_uQ_n, E_uO, E_uO_n, I_uO, I_uO_n, R_uO, R_uO_n, E_uN, E_uN_n, L_uN, L_uN_n, A_uN, A_uN_n, J_uN, J_uN_n, Q_uN, Q_uN_n, A_uCA, A_uCA_n, J_uCJ, J_uCJ_n, E_uI, R_uI, L_uI, A_uI, J_uI, Q_uI, E_uR, I_uR, L_uR, A_uR, J_uR, Q_uR, E_uA, I_uA, R_uA, L_uA, J_uA, Q_uA, E_uJ, I_uJ, R_uJ, L_uJ, A_uJ, Q_uJ, E_uQ, I_uQ, R_uQ, L_uQ, A_uQ, J_uQ, L_uO, A_uO, J_uO, Q_uO, I_uN, R_uN, E_uCA, I_uCA, R_uCA, L_uCA, J_uCA, Q_uCA, E_uCJ, I_uCJ, R_uCJ, L_uCJ, A_uCJ, Q_uCJ, m1_s]; exact b1') (by simp (disch := omega) only [I_uI, I_uI_n, R_uR, R_uR_n, A_uA, A_uA_n, J_uJ, J_uJ_n, Q_uQ, Q_uQ_n, E_uO, E_uO_n, I_uO, I_uO_n, R_uO, R_uO_n, E_uN, E_uN_n, L_uN, L_uN_n, A_uN, A_uN_n, J_uN, J_uN_n, Q_uN, Q_uN_n, A_uCA, A_uCA_n, J_uCJ, J_uCJ_n, E_uI, R_uI, L_uI, A_uI, J_uI, Q_uI, E_uR, I_uR, L_uR, A_uR, J_uR, Q_uR, E_uA, I_uA, R_uA, L_uA, J_uA, Q_uA, E_uJ, I_uJ, R_uJ, L_uJ, A_uJ, Q_uJ, E_uQ, I_uQ, R_uQ, L_uQ, A_uQ, J_uQ, L_uO, A_uO, J_uO, Q_uO, I_uN, R_uN, E_uCA, I_uCA, R_uCA, L_uCA, J_uCA, Q_uCA, E_uCJ, I_uCJ, R_uCJ, L_uCJ, A_uCJ, Q_uCJ, m1_s]; exact b2) b3 (by omega) (by omega) 3 0 []
      rw [w1, ob_s, if_neg ffn]
      exact ⟨w, rfl, w2⟩
  rw [if_pos c1, if_neg c1]
  by_cases c2 : chA T L p = 91
  · have hpL : p < L := ch_lt hend (show ¬ chA T L p = 256 by omega)
    rw [if_neg (fun q => q c2), if_pos c2]
    by_cases c3 : o = 8
    · rw [if_pos c3, if_pos c3, ob2_s, if_neg (fun q => q rfl)]
      exact ⟨_, rfl, bad8⟩
    rw [if_neg c3, if_neg c3, ob2_s, if_pos (by decide)]
    obtain ⟨v, g1, g2⟩ := hge c3 t1 (p + 1) l hL1 hD1 hato hpL (by omega)
    rw [g1, ob_s]
    have hgo := hego (p + 1) (o + 1) hpL
    generalize re (p + 1) (o + 1) = r at g2 hgo ⊢
    obtain ⟨rb', rq, rc⟩ := r
    obtain ⟨gf, gp, gh⟩ := g2
    rw [e61, e62] at gp
    have fv : frm kRd t v := frm_tr fo' gf
    cases rb' with
    | true =>
      rcases hgo with ⟨-, k1, k2, k3⟩ | ⟨k1, -⟩
      case inr => cases k1
      have k2' : rq ≤ L := k2
      have k3' : p + 1 + rc.length ≤ rq := k3
      rcases gh with ⟨-, ⟨b1_, b2, b3, b4⟩, b5⟩ | ⟨h4, -⟩
      case inr => cases h4
      have b1' : tI v 1363 0 = nt rq := b1_
      have hLv := Ilen_f fv hL
      have hDv := mD_f fv hD0
      have b2' : tI v 1364 0 = -1 := b2
      rw [b2', if_neg neg1, if_pos rfl]
      unfold F_X13_closes
      have c41 : (lk (chA T L rq) = 93) = (chA T L rq = 93) := propext (lk_eq _ (hle rq) 93 (by omega))
      rw [look_eq hLv hDv b1' k2', ob_s, ifP c41]
      show ∃ u, Option.bind (if chA T L rq = 93 then _ else _) _ = _ ∧ mOut t u R p o l (if chA T L rq = 93 then _ else _)
      by_cases c4 : chA T L rq = 93
      · rw [if_pos c4, if_pos c4, nxt_e, nxt_e, ob_s]
        refine ⟨_, rfl, frm_tr fv (frm_tr (frm_uI rfl) (frm_uI rfl)), fun i hi => gp i hi, Or.inl ⟨rfl, ⟨?_, ?_, ?_, ?_⟩, fun j hj => b5 j hj⟩⟩
        · simp (disch := omega) only [I_uI, I_uI_n, R_uR, R_uR_n, A_uA, A_uA_n, J_uJ, J_uJ_n, Q_uQ, Q_uQ_n, E_uO, E_uO_n, I_uO, I_uO_n, R_uO, R_uO_n, E_uN, E_uN_n, L_uN, L_uN_n, A_uN, A_uN_n, J_uN, J_uN_n, Q_uN, Q_uN_n, A_uCA, A_uCA_n, J_uCJ, J_uCJ_n, E_uI, R_uI, L_uI, A_uI, J_uI, Q_uI, E_uR, I_uR, L_uR, A_uR, J_uR, Q_uR, E_uA, I_uA, R_uA, L_uA, J_uA, Q_uA, E_uJ, I_uJ, R_uJ, L_uJ, A_uJ, Q_uJ, E_uQ, I_uQ, R_uQ, L_uQ, A_uQ, J_uQ, L_uO, A_uO, J_uO, Q_uO, I_uN, R_uN, E_uCA, I_uCA, R_uCA, L_uCA, J_uCA, Q_uCA, E_uCJ, I_uCJ, R_uCJ, L_uCJ, A_uCJ, Q_uCJ, m1_s]; rw [b1', nt_succ]
        · simp (disch := omega) only [I_uI, I_uI_n, R_uR, R_uR_n, A_uA, A_uA_n, J_uJ, J_uJ_n, Q_uQ, Q_uQ_n, E_uO, E_uO_n, I_uO, I_uO_n, R_uO, R_uO_n, E_uN, E_uN_n, L_uN, L_uN_n, A_uN, A_uN_n, J_uN, J_uN_n, Q_uN, Q_uN_n, A_uCA, A_uCA_n, J_uCJ, J_uCJ_n, E_uI, R_uI, L_uI, A_uI, J_uI, Q_uI, E_uR, I_uR, L_uR, A_uR, J_uR, Q_uR, E_uA, I_uA, R_uA, L_uA, J_uA, Q_uA, E_uJ, I_uJ, R_uJ, L_uJ, A_uJ, Q_uJ, E_uQ, I_uQ, R_uQ, L_uQ, A_uQ, J_uQ, L_uO, A_uO, J_uO, Q_uO, I_uN, R_uN, E_uCA, I_uCA, R_uCA, L_uCA, J_uCA, Q_uCA, E_uCJ, I_uCJ, R_uCJ, L_uCJ, A_uCJ, Q_uCJ, m1_s]; exact b2'
        · simp (disch := omega) only [I_uI, I_uI_n, R_uR, R_uR_n, A_uA, A_uA_n, J_uJ, J_uJ_n, Q_uQ, Q_uQ_n, E_uO, E_uO_n, I_uO, I_uO_n, R_uO, R_uO_n, E_uN, E_uN_n, L_uN, L_uN_n, A_uN, A_uN_n, J_uN, J_uN_n, Q_uN, Q_uN_n, A_uCA, A_uCA_n, J_uCJ, J_uCJ_n, E_uI, R_uI, L_uI, A_uI, J_uI, Q_uI, E_uR, I_uR, L_uR, A_uR, J_uR, Q_uR, E_uA, I_uA, R_uA, L_uA, J_uA, Q_uA, E_uJ, I_uJ, R_uJ, L_uJ, A_uJ, Q_uJ, E_uQ, I_uQ, R_uQ, L_uQ, A_uQ, J_uQ, L_uO, A_uO, J_uO, Q_uO, I_uN, R_uN, E_uCA, I_uCA, R_uCA, L_uCA, J_uCA, Q_uCA, E_uCJ, I_uCJ, R_uCJ, L_uCJ, A_uCJ, Q_uCJ, m1_s]; rw [b3, nt_pred]
        · simp (disch := omega) only [I_uI, I_uI_n, R_uR, R_uR_n, A_uA, A_uA_n, J_uJ, J_uJ_n, Q_uQ, Q_uQ_n, E_uO, E_uO_n, I_uO, I_uO_n, R_uO, R_uO_n, E_uN, E_uN_n, L_uN, L_uN_n, A_uN, A_uN_n, J_uN, J_uN_n, Q_uN, Q_uN_n, A_uCA, A_uCA_n, J_uCJ, J_uCJ_n, E_uI, R_uI, L_uI, A_uI, J_uI, Q_uI, E_uR, I_uR, L_uR, A_uR, J_uR, Q_uR, E_uA, I_uA, R_uA, L_uA, J_uA, Q_uA, E_uJ, I_uJ, R_uJ, L_uJ, A_uJ, Q_uJ, E_uQ, I_uQ, R_uQ, L_uQ, A_uQ, J_uQ, L_uO, A_uO, J_uO, Q_uO, I_uN, R_uN, E_uCA, I_uCA, R_uCA, L_uCA, J_uCA, Q_uCA, E_uCJ, I_uCJ, R_uCJ, L_uCJ, A_uCJ, Q_uCJ, m1_s]; exact b4
      · rw [if_neg c4, if_neg c4, wrong_eq b1' b2', ob_s, ob_s]
        refine ⟨_, rfl, frm_tr fv (frm_uI rfl), fun i hi => gp i hi, Or.inr ⟨rfl, ?_, l + rc.length, ?_, by omega, by show l + rc.length + p ≤ l + rq; omega⟩⟩
        · simp (disch := omega) only [I_uI, I_uI_n, R_uR, R_uR_n, A_uA, A_uA_n, J_uJ, J_uJ_n, Q_uQ, Q_uQ_n, E_uO, E_uO_n, I_uO, I_uO_n, R_uO, R_uO_n, E_uN, E_uN_n, L_uN, L_uN_n, A_uN, A_uN_n, J_uN, J_uN_n, Q_uN, Q_uN_n, A_uCA, A_uCA_n, J_uCJ, J_uCJ_n, E_uI, R_uI, L_uI, A_uI, J_uI, Q_uI, E_uR, I_uR, L_uR, A_uR, J_uR, Q_uR, E_uA, I_uA, R_uA, L_uA, J_uA, Q_uA, E_uJ, I_uJ, R_uJ, L_uJ, A_uJ, Q_uJ, E_uQ, I_uQ, R_uQ, L_uQ, A_uQ, J_uQ, L_uO, A_uO, J_uO, Q_uO, I_uN, R_uN, E_uCA, I_uCA, R_uCA, L_uCA, J_uCA, Q_uCA, E_uCJ, I_uCJ, R_uCJ, L_uCJ, A_uCJ, Q_uCJ, m1_s]
        · simp (disch := omega) only [I_uI, I_uI_n, R_uR, R_uR_n, A_uA, A_uA_n, J_uJ, J_uJ_n, Q_uQ, Q_uQ_n, E_uO, E_uO_n, I_uO, I_uO_n, R_uO, R_uO_n, E_uN, E_uN_n, L_uN, L_uN_n, A_uN, A_uN_n, J_uN, J_uN_n, Q_uN, Q_uN_n, A_uCA, A_uCA_n, J_uCJ, J_uCJ_n, E_uI, R_uI, L_uI, A_uI, J_uI, Q_uI, E_uR, I_uR, L_uR, A_uR, J_uR, Q_uR, E_uA, I_uA, R_uA, L_uA, J_uA, Q_uA, E_uJ, I_uJ, R_uJ, L_uJ, A_uJ, Q_uJ, E_uQ, I_uQ, R_uQ, L_uQ, A_uQ, J_uQ, L_uO, A_uO, J_uO, Q_uO, I_uN, R_uN, E_uCA, I_uCA, R_uCA, L_uCA, J_uCA, Q_uCA, E_uCJ, I_uCJ, R_uCJ, L_uCJ, A_uCJ, Q_uCJ, m1_s]; exact b4
    | false =>
      rcases hgo with ⟨k1, -⟩ | ⟨-, k2, k3⟩
      · cases k1
      have k3' : rq ≤ L := k3
      rcases gh with ⟨h4, -⟩ | ⟨-, b1_, l', b2, b3, b4⟩
      · cases h4
      have b1' : tI v 1364 0 = nt rq := b1_
      have b4' : l' + (p + 1) ≤ l + rq := b4
      rw [b1', if_pos (nt_nn (by omega)), if_neg ffn]
      exact ⟨v, rfl, fv, gp, Or.inr ⟨rfl, b1', l', b2, b3, by show l' + p ≤ l + rq; omega⟩⟩
  rw [if_pos c2, if_neg c2]
  have hsum : ∀ (t : TS) p l, Ilen t → mD t T L R → mAt t p o l → p ≤ L → l ≤ p → ∃ u, F_X13_sum t = some u ∧ mOut t u R p o l (pI (chA T L) 100 2 p o) := fun t p l q1 q2 q3 q4 q5 => mI_eq hT hL160 hR 100 2 p o t l (by omega) (by omega) ho q1 q2 q3 q4 q5
  obtain ⟨u, s1, s2⟩ := hsum t p l hL hD0 hat0 hp hl
  have hsgo := pI_go (ch := chA T L) hend 100 2 p o hp
  have hrgo := fun q hq => pI_go (ch := chA T L) hend 100 2 q o hq
  rw [s1, ob_s]
  generalize hs : pI (chA T L) 100 2 p o = s at s2 hsgo ⊢
  obtain ⟨sb', sq, sc⟩ := s
  have s2' := s2
  obtain ⟨gf, gp, gh⟩ := s2
  have hLu := Ilen_f gf hL
  have hDu := mD_f gf hD0
  cases sb' with
  | false =>
    rcases hsgo with ⟨k1, -⟩ | ⟨-, k2, k3⟩
    · cases k1
    have k3' : sq ≤ L := k3
    rcases gh with ⟨h4, -⟩ | ⟨-, b1_, b2⟩
    · cases h4
    have b1' : tI u 1364 0 = nt sq := b1_
    rw [b1', if_neg (nt_neg (by omega)), if_neg ffn]
    exact ⟨u, rfl, gf, gp, Or.inr ⟨rfl, b1', b2⟩⟩
  | true =>
  rcases hsgo with ⟨-, k1, k2, k3⟩ | ⟨k1, -⟩
  case inr => cases k1
  have k1' : p < sq := k1
  have k2' : sq ≤ L := k2
  have k3' : p + sc.length ≤ sq := k3
  rcases gh with ⟨-, hatu, b5⟩ | ⟨h4, -⟩
  case inr => cases h4
  obtain ⟨b1_, b2, b3, b4⟩ := hatu
  have b1' : tI u 1363 0 = nt sq := b1_
  have b2' : tI u 1364 0 = -1 := b2
  have b4' : tI u 1367 0 = nt (l + sc.length) := b4
  have c60 : (lk (chA T L sq) = 60) = (chA T L sq = 60) := propext (lk_eq _ (hle sq) 60 (by omega))
  have c61 : (lk (chA T L sq) = 61) = (chA T L sq = 61) := propext (lk_eq _ (hle sq) 61 (by omega))
  have c62 : (lk (chA T L sq) = 62) = (chA T L sq = 62) := propext (lk_eq _ (hle sq) 62 (by omega))
  rw [b2', if_pos (by decide), if_pos rfl, look_eq hLu hDu b1' k2', ob_s, ifP c60, ifP c61, ifP c62]
  show ∃ u', (if chA T L sq = 60 then _ else if chA T L sq = 61 then _ else if chA T L sq = 62 then _ else _) = some u' ∧ mOut t u' R p o l (if sgR (chA T L sq) = true then _ else _)
  by_cases cr : sgR (chA T L sq) = true
  case neg =>
    have cr' : sgR (chA T L sq) = false := by simpa using cr
    unfold sgR at cr'
    simp only [Bool.or_eq_false_iff, decide_eq_false_iff_not] at cr'
    rw [if_neg cr'.1, if_neg cr'.2.1, if_neg cr'.2.2, if_neg cr, wrong_eq b1' b2', ob_s]
    refine ⟨_, rfl, frm_tr gf (frm_uI rfl), fun i hi => gp i hi, Or.inr ⟨rfl, ?_, l + sc.length, ?_, by omega, by show l + sc.length + p ≤ l + sq; omega⟩⟩
    · simp (disch := omega) only [I_uI, I_uI_n, R_uR, R_uR_n, A_uA, A_uA_n, J_uJ, J_uJ_n, Q_uQ, Q_uQ_n, E_uO, E_uO_n, I_uO, I_uO_n, R_uO, R_uO_n, E_uN, E_uN_n, L_uN, L_uN_n, A_uN, A_uN_n, J_uN, J_uN_n, Q_uN, Q_uN_n, A_uCA, A_uCA_n, J_uCJ, J_uCJ_n, E_uI, R_uI, L_uI, A_uI, J_uI, Q_uI, E_uR, I_uR, L_uR, A_uR, J_uR, Q_uR, E_uA, I_uA, R_uA, L_uA, J_uA, Q_uA, E_uJ, I_uJ, R_uJ, L_uJ, A_uJ, Q_uJ, E_uQ, I_uQ, R_uQ, L_uQ, A_uQ, J_uQ, L_uO, A_uO, J_uO, Q_uO, I_uN, R_uN, E_uCA, I_uCA, R_uCA, L_uCA, J_uCA, Q_uCA, E_uCJ, I_uCJ, R_uCJ, L_uCJ, A_uCJ, Q_uCJ, m1_s]
    · simp (disch := omega) only [I_uI, I_uI_n, R_uR, R_uR_n, A_uA, A_uA_n, J_uJ, J_uJ_n, Q_uQ, Q_uQ_n, E_uO, E_uO_n, I_uO, I_uO_n, R_uO, R_uO_n, E_uN, E_uN_n, L_uN, L_uN_n, A_uN, A_uN_n, J_uN, J_uN_n, Q_uN, Q_uN_n, A_uCA, A_uCA_n, J_uCJ, J_uCJ_n, E_uI, R_uI, L_uI, A_uI, J_uI, Q_uI, E_uR, I_uR, L_uR, A_uR, J_uR, Q_uR, E_uA, I_uA, R_uA, L_uA, J_uA, Q_uA, E_uJ, I_uJ, R_uJ, L_uJ, A_uJ, Q_uJ, E_uQ, I_uQ, R_uQ, L_uQ, A_uQ, J_uQ, L_uO, A_uO, J_uO, Q_uO, I_uN, R_uN, E_uCA, I_uCA, R_uCA, L_uCA, J_uCA, Q_uCA, E_uCJ, I_uCJ, R_uCJ, L_uCJ, A_uCJ, Q_uCJ, m1_s]; exact b4'
  have e113 : (if chA T L sq = 60 then B_X13_base_113 g u (lk (chA T L sq)) else if chA T L sq = 61 then B_X13_base_113 g u (lk (chA T L sq)) else if chA T L sq = 62 then B_X13_base_113 g u (lk (chA T L sq)) else Option.bind (F_X13_wrong u) (fun r25 => some r25)) = B_X13_base_113 g u (lk (chA T L sq)) := by
    have cr2 := cr
    unfold sgR at cr2
    simp only [Bool.or_eq_true, decide_eq_true_eq] at cr2
    by_cases q1 : chA T L sq = 60
    · rw [if_pos q1]
    rw [if_neg q1]
    by_cases q2 : chA T L sq = 61
    · rw [if_pos q2]
    rw [if_neg q2, if_pos ((cr2.resolve_left q1).resolve_left q2)]
  rw [e113, if_pos cr]
  have hsL : sq < L := ch_lt hend (show ¬ chA T L sq = 256 from fun q => by rw [q] at cr; exact absurd cr (by decide))
  unfold B_X13_base_113
  have f1 : frm (ks [1363, 1365]) u (uI u 1363 0 (nt (sq + 1))) := frm_uI rfl
  have f1' : frm kRd u (uI u 1363 0 (nt (sq + 1))) := frm_uI rfl
  have hat1 : mAt (uI u 1363 0 (nt (sq + 1))) (sq + 1) o (l + sc.length) := by
    refine ⟨?_, ?_, ?_, ?_⟩
    · simp (disch := omega) only [I_uI, I_uI_n, R_uR, R_uR_n, A_uA, A_uA_n, J_uJ, J_uJ_n, Q_uQ, Q_uQ_n, E_uO, E_uO_n, I_uO, I_uO_n, R_uO, R_uO_n, E_uN, E_uN_n, L_uN, L_uN_n, A_uN, A_uN_n, J_uN, J_uN_n, Q_uN, Q_uN_n, A_uCA, A_uCA_n, J_uCJ, J_uCJ_n, E_uI, R_uI, L_uI, A_uI, J_uI, Q_uI, E_uR, I_uR, L_uR, A_uR, J_uR, Q_uR, E_uA, I_uA, R_uA, L_uA, J_uA, Q_uA, E_uJ, I_uJ, R_uJ, L_uJ, A_uJ, Q_uJ, E_uQ, I_uQ, R_uQ, L_uQ, A_uQ, J_uQ, L_uO, A_uO, J_uO, Q_uO, I_uN, R_uN, E_uCA, I_uCA, R_uCA, L_uCA, J_uCA, Q_uCA, E_uCJ, I_uCJ, R_uCJ, L_uCJ, A_uCJ, Q_uCJ, m1_s]
    · simp (disch := omega) only [I_uI, I_uI_n, R_uR, R_uR_n, A_uA, A_uA_n, J_uJ, J_uJ_n, Q_uQ, Q_uQ_n, E_uO, E_uO_n, I_uO, I_uO_n, R_uO, R_uO_n, E_uN, E_uN_n, L_uN, L_uN_n, A_uN, A_uN_n, J_uN, J_uN_n, Q_uN, Q_uN_n, A_uCA, A_uCA_n, J_uCJ, J_uCJ_n, E_uI, R_uI, L_uI, A_uI, J_uI, Q_uI, E_uR, I_uR, L_uR, A_uR, J_uR, Q_uR, E_uA, I_uA, R_uA, L_uA, J_uA, Q_uA, E_uJ, I_uJ, R_uJ, L_uJ, A_uJ, Q_uJ, E_uQ, I_uQ, R_uQ, L_uQ, A_uQ, J_uQ, L_uO, A_uO, J_uO, Q_uO, I_uN, R_uN, E_uCA, I_uCA, R_uCA, L_uCA, J_uCA, Q_uCA, E_uCJ, I_uCJ, R_uCJ, L_uCJ, A_uCJ, Q_uCJ, m1_s]; exact b2'
    · simp (disch := omega) only [I_uI, I_uI_n, R_uR, R_uR_n, A_uA, A_uA_n, J_uJ, J_uJ_n, Q_uQ, Q_uQ_n, E_uO, E_uO_n, I_uO, I_uO_n, R_uO, R_uO_n, E_uN, E_uN_n, L_uN, L_uN_n, A_uN, A_uN_n, J_uN, J_uN_n, Q_uN, Q_uN_n, A_uCA, A_uCA_n, J_uCJ, J_uCJ_n, E_uI, R_uI, L_uI, A_uI, J_uI, Q_uI, E_uR, I_uR, L_uR, A_uR, J_uR, Q_uR, E_uA, I_uA, R_uA, L_uA, J_uA, Q_uA, E_uJ, I_uJ, R_uJ, L_uJ, A_uJ, Q_uJ, E_uQ, I_uQ, R_uQ, L_uQ, A_uQ, J_uQ, L_uO, A_uO, J_uO, Q_uO, I_uN, R_uN, E_uCA, I_uCA, R_uCA, L_uCA, J_uCA, Q_uCA, E_uCJ, I_uCJ, R_uCJ, L_uCJ, A_uCJ, Q_uCJ, m1_s]; exact b3
    · simp (disch := omega) only [I_uI, I_uI_n, R_uR, R_uR_n, A_uA, A_uA_n, J_uJ, J_uJ_n, Q_uQ, Q_uQ_n, E_uO, E_uO_n, I_uO, I_uO_n, R_uO, R_uO_n, E_uN, E_uN_n, L_uN, L_uN_n, A_uN, A_uN_n, J_uN, J_uN_n, Q_uN, Q_uN_n, A_uCA, A_uCA_n, J_uCJ, J_uCJ_n, E_uI, R_uI, L_uI, A_uI, J_uI, Q_uI, E_uR, I_uR, L_uR, A_uR, J_uR, Q_uR, E_uA, I_uA, R_uA, L_uA, J_uA, Q_uA, E_uJ, I_uJ, R_uJ, L_uJ, A_uJ, Q_uJ, E_uQ, I_uQ, R_uQ, L_uQ, A_uQ, J_uQ, L_uO, A_uO, J_uO, Q_uO, I_uN, R_uN, E_uCA, I_uCA, R_uCA, L_uCA, J_uCA, Q_uCA, E_uCJ, I_uCJ, R_uCJ, L_uCJ, A_uCJ, Q_uCJ, m1_s]; exact b4'
  obtain ⟨v, r1, r2⟩ := hsum (uI u 1363 0 (nt (sq + 1))) (sq + 1) (l + sc.length) (Ilen_f f1 hLu) (mD_f f1' hDu) hat1 hsL (by omega)
  have hgo := hrgo (sq + 1) hsL
  rw [nxt_e, b1', nt_succ, r1, ob_s, lk_sg _ (hle sq) (by rw [cr]; cases sgP (chA T L sq) <;> cases sgS (chA T L sq) <;> rfl)]
  show ∃ u', Option.bind (F_X13_lay v (nt (chA T L sq)) 0) _ = some u' ∧ mOut t u' R p o l (if (pI (chA T L) 100 2 (sq + 1) o).1 = true then (true, (pI (chA T L) 100 2 (sq + 1) o).2.1, sc ++ (pI (chA T L) 100 2 (sq + 1) o).2.2 ++ [(nt (chA T L sq), 0)]) else (false, (pI (chA T L) 100 2 (sq + 1) o).2.1, []))
  generalize pI (chA T L) 100 2 (sq + 1) o = r at r2 hgo ⊢
  obtain ⟨rb', rq, rc⟩ := r
  have fv : frm kRd t v := frm_tr gf (frm_tr f1' r2.1)
  have hLv := Ilen_f fv hL
  have hDv := mD_f fv hD0
  cases rb' with
  | true =>
    rcases hgo with ⟨-, j1, j2, j3⟩ | ⟨j1, -⟩
    case inr => cases j1
    have j2' : rq ≤ L := j2
    have j3' : sq + 1 + rc.length ≤ rq := j3
    obtain ⟨m1, m2, m3, m4⟩ := mOut_app s2' f1 (sq + 1) o r2
    have hOv : mOut t v R p o l (true, rq, sc ++ rc) := ⟨m1, m2, Or.inl ⟨rfl, m3, m4⟩⟩
    obtain ⟨w, w1, w2⟩ := mOut_lay hLv hDv hOv (by rw [List.length_append]; omega) (nt (chA T L sq)) 0
    rw [w1, ob_s, if_pos rfl]
    exact ⟨w, rfl, w2⟩
  | false =>
    rcases hgo with ⟨j1, -⟩ | ⟨-, j2, j3⟩
    · cases j1
    have j3' : rq ≤ L := j3
    obtain ⟨rf', rp, rh⟩ := r2
    rcases rh with ⟨h4, -⟩ | ⟨-, x1, l', x2, x3, x4⟩
    · cases h4
    have x1' : tI v 1364 0 = nt rq := x1
    have x4' : l' + (sq + 1) ≤ l + sc.length + rq := x4
    obtain ⟨w, w1, w2, w3⟩ := mbad_lay (p0 := p) (o := o) (l0 := l) hLv hDv fv (fun i hi => by
      obtain ⟨q1, q2⟩ := rp i (by omega)
      obtain ⟨q3, q4⟩ := gp i hi
      exact ⟨q1.trans q3, q2.trans q4⟩) x1' x2 (by omega) (by omega) (by omega) (nt (chA T L sq)) 0 []
    rw [w1, ob_s, if_neg ffn]
    exact ⟨w, rfl, w2⟩
end
