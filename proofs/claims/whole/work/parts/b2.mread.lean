/-! PART b2: the model reads a text: numbers, operands, products, sums. -/
section
variable {T : Nat → Nat} {L R : Nat}
theorem lk_nt : ∀ c, c ≤ 256 → isD c = true → lk c = nt c := by decide +kernel
theorem mNum (g : Nat → TS → Option TS) : ∀ k m p v t fu, m + k = 7 → k < fu → Ilen t → mD t T L R → tI t 1363 0 = nt p → p ≤ L → ∃ u, B_X13_operand_72 g fu t (nt m) v = B_X13_operand_121 g u (nt (m + ((pNum (chA T L) k p v).1 - p))) (pNum (chA T L) k p v).2 ∧ frm (ks [1363]) t u ∧ tI u 1363 0 = nt (pNum (chA T L) k p v).1
  | 0, m, p, v, t, fu, hm, hf, hL, hD, h, hp => by
    obtain ⟨fu, rfl⟩ : ∃ k, fu = k + 1 := ⟨fu - 1, by omega⟩
    have em : m = 7 := by omega
    subst em
    refine ⟨t, ?_, frm_rf, h⟩
    show BB_X13_operand_72 g (B_X13_operand_72 g fu) t (nt 7) v = B_X13_operand_121 g t (nt (7 + (p - p))) v
    unfold BB_X13_operand_72
    rw [if_pos (by decide), Nat.sub_self]
  | k + 1, m, p, v, t, fu, hm, hf, hL, hD, h, hp => by
    obtain ⟨fu, rfl⟩ : ∃ k, fu = k + 1 := ⟨fu - 1, by omega⟩
    have hle := chA_le (T := T) (L := L) (fun i hi => (hD.2.2.2.2 i hi).2) p
    have hdig : decide ((48 : Int32) ≤ lk (chA T L p) ∧ lk (chA T L p) ≤ 57) = isD (chA T L p) := lk_d _ hle
    have hun : B_X13_operand_72 g (fu + 1) t (nt m) v = if isD (chA T L p) = true then B_X13_operand_72 g fu (uI t 1363 0 (nt (p + 1))) (nt (m + 1)) (10 * v + lk (chA T L p) - 48) else B_X13_operand_121 g t (nt m) v := by
      show BB_X13_operand_72 g (B_X13_operand_72 g fu) t (nt m) v = _
      unfold BB_X13_operand_72
      rw [ifP (show ((7 : Int32) ≤ nt m) = (7 ≤ m) from ge_nt (n := 7) (by omega) (by omega)), if_neg (show ¬ 7 ≤ m by omega), look_eq hL hD h hp, ob_s, in_eq, ob_s, gw0, hdig, ob_s, nxt_e, h, nt_succ, nt_succ]
    rw [hun]
    unfold pNum
    by_cases c : isD (chA T L p) = true
    · have hpL : p < L := by
        by_cases e : p < L
        · exact e
        · rw [chA_end (by omega)] at c; exact absurd c (by decide)
      have f1 : frm (ks [1363]) t (uI t 1363 0 (nt (p + 1))) := frm_uI rfl
      have hgo := pNum_go (ch := chA T L) (fun p hp => chA_end hp) k (p + 1) (10 * v + nt (chA T L p) - 48) hpL
      obtain ⟨u, r1, r2, r3⟩ := mNum g k (m + 1) (p + 1) (10 * v + nt (chA T L p) - 48) (uI t 1363 0 (nt (p + 1))) fu (by omega) (by omega) (Ilen_f f1 hL) (mD_f (frm_sb f1 (ks_sb rfl)) hD) (by simp (disch := omega) only [I_uI, I_uI_n, R_uR, R_uR_n, A_uA, A_uA_n, J_uJ, J_uJ_n, Q_uQ, Q_uQ_n, E_uO, E_uO_n, I_uO, I_uO_n, R_uO, R_uO_n, E_uN, E_uN_n, L_uN, L_uN_n, A_uN, A_uN_n, J_uN, J_uN_n, Q_uN, Q_uN_n, A_uCA, A_uCA_n, J_uCJ, J_uCJ_n, E_uI, R_uI, L_uI, A_uI, J_uI, Q_uI, E_uR, I_uR, L_uR, A_uR, J_uR, Q_uR, E_uA, I_uA, R_uA, L_uA, J_uA, Q_uA, E_uJ, I_uJ, R_uJ, L_uJ, A_uJ, Q_uJ, E_uQ, I_uQ, R_uQ, L_uQ, A_uQ, J_uQ, L_uO, A_uO, J_uO, Q_uO, I_uN, R_uN, E_uCA, I_uCA, R_uCA, L_uCA, J_uCA, Q_uCA, E_uCJ, I_uCJ, R_uCJ, L_uCJ, A_uCJ, Q_uCJ, m1_s]) hpL
      refine ⟨u, ?_, frm_tr f1 r2, ?_⟩
      · rw [if_pos c, if_pos c, lk_nt _ hle c, r1]
        exact congrArg (fun z => B_X13_operand_121 g u (nt z) _) (by omega)
      · rw [if_pos c]; exact r3
    · refine ⟨t, ?_, frm_rf, ?_⟩
      · rw [if_neg c, if_neg c]
        show _ = B_X13_operand_121 g t (nt (m + (p - p))) v
        rw [Nat.sub_self, Nat.add_zero]
      · rw [if_neg c]; exact h
theorem mOpd (g : Nat → TS → Option TS) {rec : Nat → Nat → Bool × Nat × List (Int32 × Int32)} {o : Nat} (hrgo : ∀ p o, p ≤ L → pgo L p (rec p o)) (hg : ¬ o = 8 → ∀ t p l, Ilen t → mD t T L R → mAt t p (o + 1) l → p ≤ L → l ≤ p → ∃ u, g 2 t = some u ∧ mOut t u R p (o + 1) l (rec p (o + 1))) (ho : o ≤ 8) {t : TS} {p l : Nat} (hL : Ilen t) (hD : mD t T L R) (hat : mAt t p o l) (hp : p ≤ L) (hl : l ≤ p) : ∃ u, Fb_X13_operand g t = some u ∧ mOut t u R p o l (pOpd (chA T L) rec p o) := by
  have hD0 := hD
  obtain ⟨hL160, d2, d3, hR, d5⟩ := hD
  obtain ⟨a1, a2, a3, a4⟩ := hat
  have hle := chA_le (T := T) (L := L) (fun i hi => (d5 i hi).2) p
  have hend : ∀ p, L ≤ p → chA T L p = 256 := fun p hp => chA_end hp
  unfold Fb_X13_operand pOpd
  rw [look_eq hL hD0 a1 hp, ob_s, nameM hle, ob_s]
  cases hn : nameN (chA T L p) with
  | some k =>
    have hk := name_lt _ hle k hn
    rw [oel_s, if_neg (nt_neg (by omega)), ob_s, nameM hle, ob_s, hn, oel_s, if_pos (by rfl)]
    have hO : mOut t t R p o l (true, p, []) := ⟨frm_rf, fun _ _ => ⟨rfl, rfl⟩, Or.inl ⟨rfl, ⟨a1, a2, a3, a4⟩, fun j hj => absurd hj (Nat.not_lt_zero j)⟩⟩
    obtain ⟨u, n1, n2⟩ := mOut_lay hL hD0 hO (by show l + 0 < 200; omega) 2 (nt k)
    rw [n1, ob_s, nxt_e]
    obtain ⟨f, pre, h⟩ := n2
    rcases h with ⟨-, ⟨e1, e2, e3, e4⟩, h3⟩ | ⟨h4, -⟩
    case inr => cases h4
    have e1' : tI u 1363 0 = nt p := e1
    refine ⟨uI u 1363 0 (tI u 1363 0 + 1), rfl, frm_tr f (frm_uI rfl), fun i hi => pre i hi, Or.inl ⟨rfl, ⟨?_, ?_, ?_, ?_⟩, fun j hj => h3 j hj⟩⟩
    · simp (disch := omega) only [I_uI, I_uI_n, R_uR, R_uR_n, A_uA, A_uA_n, J_uJ, J_uJ_n, Q_uQ, Q_uQ_n, E_uO, E_uO_n, I_uO, I_uO_n, R_uO, R_uO_n, E_uN, E_uN_n, L_uN, L_uN_n, A_uN, A_uN_n, J_uN, J_uN_n, Q_uN, Q_uN_n, A_uCA, A_uCA_n, J_uCJ, J_uCJ_n, E_uI, R_uI, L_uI, A_uI, J_uI, Q_uI, E_uR, I_uR, L_uR, A_uR, J_uR, Q_uR, E_uA, I_uA, R_uA, L_uA, J_uA, Q_uA, E_uJ, I_uJ, R_uJ, L_uJ, A_uJ, Q_uJ, E_uQ, I_uQ, R_uQ, L_uQ, A_uQ, J_uQ, L_uO, A_uO, J_uO, Q_uO, I_uN, R_uN, E_uCA, I_uCA, R_uCA, L_uCA, J_uCA, Q_uCA, E_uCJ, I_uCJ, R_uCJ, L_uCJ, A_uCJ, Q_uCJ, m1_s]; rw [e1', nt_succ]
    · simp (disch := omega) only [I_uI, I_uI_n, R_uR, R_uR_n, A_uA, A_uA_n, J_uJ, J_uJ_n, Q_uQ, Q_uQ_n, E_uO, E_uO_n, I_uO, I_uO_n, R_uO, R_uO_n, E_uN, E_uN_n, L_uN, L_uN_n, A_uN, A_uN_n, J_uN, J_uN_n, Q_uN, Q_uN_n, A_uCA, A_uCA_n, J_uCJ, J_uCJ_n, E_uI, R_uI, L_uI, A_uI, J_uI, Q_uI, E_uR, I_uR, L_uR, A_uR, J_uR, Q_uR, E_uA, I_uA, R_uA, L_uA, J_uA, Q_uA, E_uJ, I_uJ, R_uJ, L_uJ, A_uJ, Q_uJ, E_uQ, I_uQ, R_uQ, L_uQ, A_uQ, J_uQ, L_uO, A_uO, J_uO, Q_uO, I_uN, R_uN, E_uCA, I_uCA, R_uCA, L_uCA, J_uCA, Q_uCA, E_uCJ, I_uCJ, R_uCJ, L_uCJ, A_uCJ, Q_uCJ, m1_s]; exact e2
    · simp (disch := omega) only [I_uI, I_uI_n, R_uR, R_uR_n, A_uA, A_uA_n, J_uJ, J_uJ_n, Q_uQ, Q_uQ_n, E_uO, E_uO_n, I_uO, I_uO_n, R_uO, R_uO_n, E_uN, E_uN_n, L_uN, L_uN_n, A_uN, A_uN_n, J_uN, J_uN_n, Q_uN, Q_uN_n, A_uCA, A_uCA_n, J_uCJ, J_uCJ_n, E_uI, R_uI, L_uI, A_uI, J_uI, Q_uI, E_uR, I_uR, L_uR, A_uR, J_uR, Q_uR, E_uA, I_uA, R_uA, L_uA, J_uA, Q_uA, E_uJ, I_uJ, R_uJ, L_uJ, A_uJ, Q_uJ, E_uQ, I_uQ, R_uQ, L_uQ, A_uQ, J_uQ, L_uO, A_uO, J_uO, Q_uO, I_uN, R_uN, E_uCA, I_uCA, R_uCA, L_uCA, J_uCA, Q_uCA, E_uCJ, I_uCJ, R_uCJ, L_uCJ, A_uCJ, Q_uCJ, m1_s]; exact e3
    · simp (disch := omega) only [I_uI, I_uI_n, R_uR, R_uR_n, A_uA, A_uA_n, J_uJ, J_uJ_n, Q_uQ, Q_uQ_n, E_uO, E_uO_n, I_uO, I_uO_n, R_uO, R_uO_n, E_uN, E_uN_n, L_uN, L_uN_n, A_uN, A_uN_n, J_uN, J_uN_n, Q_uN, Q_uN_n, A_uCA, A_uCA_n, J_uCJ, J_uCJ_n, E_uI, R_uI, L_uI, A_uI, J_uI, Q_uI, E_uR, I_uR, L_uR, A_uR, J_uR, Q_uR, E_uA, I_uA, R_uA, L_uA, J_uA, Q_uA, E_uJ, I_uJ, R_uJ, L_uJ, A_uJ, Q_uJ, E_uQ, I_uQ, R_uQ, L_uQ, A_uQ, J_uQ, L_uO, A_uO, J_uO, Q_uO, I_uN, R_uN, E_uCA, I_uCA, R_uCA, L_uCA, J_uCA, Q_uCA, E_uCJ, I_uCJ, R_uCJ, L_uCJ, A_uCJ, Q_uCJ, m1_s]; exact e4
  | none =>
  rw [oel_n, if_pos (show (-1 : Int32) < 0 by decide), ob_s, if_neg (show ¬ (none : Option Nat).isSome = true by decide)]
  have c40 : (¬ lk (chA T L p) = 40) = ¬ chA T L p = 40 := congrArg Not (propext (lk_eq _ hle 40 (by omega)))
  rw [ifP c40]
  by_cases c2 : chA T L p = 40
  · have hpL : p < L := by
      by_cases e : p < L
      · exact e
      · rw [chA_end (by omega)] at c2; omega
    rw [if_neg (fun q => q c2), if_pos c2]
    unfold F_X13_opens
    have c8 : (¬ nt o = 8) = ¬ o = 8 := congrArg Not (eq_nt (n := 8) (by omega) (by omega))
    rw [a3, ifP c8]
    by_cases c3 : o = 8
    · rw [if_neg (fun q => q c3), if_pos c3, wrong_eq a1 a2, ob_s, ob2_s, if_neg (fun q => q rfl)]
      refine ⟨_, rfl, frm_uI rfl, fun i _ => ⟨rfl, rfl⟩, Or.inr ⟨rfl, ?_, l, ?_, Nat.le_refl _, Nat.le_refl _⟩⟩
      · simp (disch := omega) only [I_uI, I_uI_n, R_uR, R_uR_n, A_uA, A_uA_n, J_uJ, J_uJ_n, Q_uQ, Q_uQ_n, E_uO, E_uO_n, I_uO, I_uO_n, R_uO, R_uO_n, E_uN, E_uN_n, L_uN, L_uN_n, A_uN, A_uN_n, J_uN, J_uN_n, Q_uN, Q_uN_n, A_uCA, A_uCA_n, J_uCJ, J_uCJ_n, E_uI, R_uI, L_uI, A_uI, J_uI, Q_uI, E_uR, I_uR, L_uR, A_uR, J_uR, Q_uR, E_uA, I_uA, R_uA, L_uA, J_uA, Q_uA, E_uJ, I_uJ, R_uJ, L_uJ, A_uJ, Q_uJ, E_uQ, I_uQ, R_uQ, L_uQ, A_uQ, J_uQ, L_uO, A_uO, J_uO, Q_uO, I_uN, R_uN, E_uCA, I_uCA, R_uCA, L_uCA, J_uCA, Q_uCA, E_uCJ, I_uCJ, R_uCJ, L_uCJ, A_uCJ, Q_uCJ, m1_s]
      · simp (disch := omega) only [I_uI, I_uI_n, R_uR, R_uR_n, A_uA, A_uA_n, J_uJ, J_uJ_n, Q_uQ, Q_uQ_n, E_uO, E_uO_n, I_uO, I_uO_n, R_uO, R_uO_n, E_uN, E_uN_n, L_uN, L_uN_n, A_uN, A_uN_n, J_uN, J_uN_n, Q_uN, Q_uN_n, A_uCA, A_uCA_n, J_uCJ, J_uCJ_n, E_uI, R_uI, L_uI, A_uI, J_uI, Q_uI, E_uR, I_uR, L_uR, A_uR, J_uR, Q_uR, E_uA, I_uA, R_uA, L_uA, J_uA, Q_uA, E_uJ, I_uJ, R_uJ, L_uJ, A_uJ, Q_uJ, E_uQ, I_uQ, R_uQ, L_uQ, A_uQ, J_uQ, L_uO, A_uO, J_uO, Q_uO, I_uN, R_uN, E_uCA, I_uCA, R_uCA, L_uCA, J_uCA, Q_uCA, E_uCJ, I_uCJ, R_uCJ, L_uCJ, A_uCJ, Q_uCJ, m1_s]; exact a4
    rw [if_pos c3, if_neg c3, nxt_e, nxt_e, ob2_s, if_pos (by decide)]
    obtain ⟨t1, ht1⟩ : ∃ t1, t1 = uI (uI t 1365 0 (nt o + 1)) 1363 0 (tI (uI t 1365 0 (nt o + 1)) 1363 0 + 1) := ⟨_, rfl⟩
    rw [← ht1]
    have f1 : frm (ks [1363, 1365]) t t1 := by rw [ht1]; exact frm_tr (frm_uI rfl) (frm_uI rfl)
    have hat1 : mAt t1 (p + 1) (o + 1) l := by
      rw [ht1]
      refine ⟨?_, ?_, ?_, ?_⟩
      · simp (disch := omega) only [I_uI, I_uI_n, R_uR, R_uR_n, A_uA, A_uA_n, J_uJ, J_uJ_n, Q_uQ, Q_uQ_n, E_uO, E_uO_n, I_uO, I_uO_n, R_uO, R_uO_n, E_uN, E_uN_n, L_uN, L_uN_n, A_uN, A_uN_n, J_uN, J_uN_n, Q_uN, Q_uN_n, A_uCA, A_uCA_n, J_uCJ, J_uCJ_n, E_uI, R_uI, L_uI, A_uI, J_uI, Q_uI, E_uR, I_uR, L_uR, A_uR, J_uR, Q_uR, E_uA, I_uA, R_uA, L_uA, J_uA, Q_uA, E_uJ, I_uJ, R_uJ, L_uJ, A_uJ, Q_uJ, E_uQ, I_uQ, R_uQ, L_uQ, A_uQ, J_uQ, L_uO, A_uO, J_uO, Q_uO, I_uN, R_uN, E_uCA, I_uCA, R_uCA, L_uCA, J_uCA, Q_uCA, E_uCJ, I_uCJ, R_uCJ, L_uCJ, A_uCJ, Q_uCJ, m1_s]; rw [a1, nt_succ]
      · simp (disch := omega) only [I_uI, I_uI_n, R_uR, R_uR_n, A_uA, A_uA_n, J_uJ, J_uJ_n, Q_uQ, Q_uQ_n, E_uO, E_uO_n, I_uO, I_uO_n, R_uO, R_uO_n, E_uN, E_uN_n, L_uN, L_uN_n, A_uN, A_uN_n, J_uN, J_uN_n, Q_uN, Q_uN_n, A_uCA, A_uCA_n, J_uCJ, J_uCJ_n, E_uI, R_uI, L_uI, A_uI, J_uI, Q_uI, E_uR, I_uR, L_uR, A_uR, J_uR, Q_uR, E_uA, I_uA, R_uA, L_uA, J_uA, Q_uA, E_uJ, I_uJ, R_uJ, L_uJ, A_uJ, Q_uJ, E_uQ, I_uQ, R_uQ, L_uQ, A_uQ, J_uQ, L_uO, A_uO, J_uO, Q_uO, I_uN, R_uN, E_uCA, I_uCA, R_uCA, L_uCA, J_uCA, Q_uCA, E_uCJ, I_uCJ, R_uCJ, L_uCJ, A_uCJ, Q_uCJ, m1_s]; exact a2
      · simp (disch := omega) only [I_uI, I_uI_n, R_uR, R_uR_n, A_uA, A_uA_n, J_uJ, J_uJ_n, Q_uQ, Q_uQ_n, E_uO, E_uO_n, I_uO, I_uO_n, R_uO, R_uO_n, E_uN, E_uN_n, L_uN, L_uN_n, A_uN, A_uN_n, J_uN, J_uN_n, Q_uN, Q_uN_n, A_uCA, A_uCA_n, J_uCJ, J_uCJ_n, E_uI, R_uI, L_uI, A_uI, J_uI, Q_uI, E_uR, I_uR, L_uR, A_uR, J_uR, Q_uR, E_uA, I_uA, R_uA, L_uA, J_uA, Q_uA, E_uJ, I_uJ, R_uJ, L_uJ, A_uJ, Q_uJ, E_uQ, I_uQ, R_uQ, L_uQ, A_uQ, J_uQ, L_uO, A_uO, J_uO, Q_uO, I_uN, R_uN, E_uCA, I_uCA, R_uCA, L_uCA, J_uCA, Q_uCA, E_uCJ, I_uCJ, R_uCJ, L_uCJ, A_uCJ, Q_uCJ, m1_s]; exact nt_succ o
      · simp (disch := omega) only [I_uI, I_uI_n, R_uR, R_uR_n, A_uA, A_uA_n, J_uJ, J_uJ_n, Q_uQ, Q_uQ_n, E_uO, E_uO_n, I_uO, I_uO_n, R_uO, R_uO_n, E_uN, E_uN_n, L_uN, L_uN_n, A_uN, A_uN_n, J_uN, J_uN_n, Q_uN, Q_uN_n, A_uCA, A_uCA_n, J_uCJ, J_uCJ_n, E_uI, R_uI, L_uI, A_uI, J_uI, Q_uI, E_uR, I_uR, L_uR, A_uR, J_uR, Q_uR, E_uA, I_uA, R_uA, L_uA, J_uA, Q_uA, E_uJ, I_uJ, R_uJ, L_uJ, A_uJ, Q_uJ, E_uQ, I_uQ, R_uQ, L_uQ, A_uQ, J_uQ, L_uO, A_uO, J_uO, Q_uO, I_uN, R_uN, E_uCA, I_uCA, R_uCA, L_uCA, J_uCA, Q_uCA, E_uCJ, I_uCJ, R_uCJ, L_uCJ, A_uCJ, Q_uCJ, m1_s]; exact a4
    have hL1 := Ilen_f f1 hL
    have hD1 := mD_f (frm_sb f1 (ks_sb rfl) : frm kRd t t1) hD0
    obtain ⟨v, g1, g2⟩ := hg c3 t1 (p + 1) l hL1 hD1 hat1 hpL (by omega)
    rw [g1, ob_s]
    have hgo := hrgo (p + 1) (o + 1) hpL
    generalize rec (p + 1) (o + 1) = r at g2 hgo ⊢
    obtain ⟨rb, rq, rc⟩ := r
    have fv : frm kRd t v := frm_tr (frm_sb f1 (ks_sb rfl)) g2.1
    have e61 : tA t1 3361 = tA t 3361 := (f1.1 3361 rfl).2.2.2.2.1
    have e62 : tA t1 3362 = tA t 3362 := (f1.1 3362 rfl).2.2.2.2.1
    have pre : ∀ i, i < 200 * R + l → tA v 3361 0 i = tA t 3361 0 i ∧ tA v 3362 0 i = tA t 3362 0 i := by
      have := g2.2.1
      rw [e61, e62] at this
      exact this
    cases rb with
    | true =>
      rcases hgo with ⟨-, k1, k2, k3⟩ | ⟨k1, -⟩
      case inr => cases k1
      have k2' : rq ≤ L := k2
      rcases g2.2.2 with ⟨-, ⟨b1_, b2, b3, b4⟩, b5⟩ | ⟨h4, -⟩
      case inr => cases h4
      have b1' : tI v 1363 0 = nt rq := b1_
      have hLv := Ilen_f fv hL
      have hDv := mD_f fv hD0
      have hle2 := chA_le (T := T) (L := L) (fun i hi => (d5 i hi).2) rq
      rw [b2, if_neg neg1, if_pos rfl]
      unfold F_X13_closes
      have c41 : (lk (chA T L rq) = 41) = (chA T L rq = 41) := propext (lk_eq _ hle2 41 (by omega))
      rw [look_eq hLv hDv b1' k2', ob_s, ifP c41]
      show ∃ u, Option.bind (if chA T L rq = 41 then _ else _) _ = _ ∧ mOut t u R p o l (if chA T L rq = 41 then _ else _)
      by_cases c4 : chA T L rq = 41
      · rw [if_pos c4, if_pos c4, nxt_e, nxt_e, ob_s]
        refine ⟨_, rfl, frm_tr fv (frm_tr (frm_uI rfl) (frm_uI rfl)), fun i hi => pre i hi, Or.inl ⟨rfl, ⟨?_, ?_, ?_, ?_⟩, fun j hj => b5 j hj⟩⟩
        · simp (disch := omega) only [I_uI, I_uI_n, R_uR, R_uR_n, A_uA, A_uA_n, J_uJ, J_uJ_n, Q_uQ, Q_uQ_n, E_uO, E_uO_n, I_uO, I_uO_n, R_uO, R_uO_n, E_uN, E_uN_n, L_uN, L_uN_n, A_uN, A_uN_n, J_uN, J_uN_n, Q_uN, Q_uN_n, A_uCA, A_uCA_n, J_uCJ, J_uCJ_n, E_uI, R_uI, L_uI, A_uI, J_uI, Q_uI, E_uR, I_uR, L_uR, A_uR, J_uR, Q_uR, E_uA, I_uA, R_uA, L_uA, J_uA, Q_uA, E_uJ, I_uJ, R_uJ, L_uJ, A_uJ, Q_uJ, E_uQ, I_uQ, R_uQ, L_uQ, A_uQ, J_uQ, L_uO, A_uO, J_uO, Q_uO, I_uN, R_uN, E_uCA, I_uCA, R_uCA, L_uCA, J_uCA, Q_uCA, E_uCJ, I_uCJ, R_uCJ, L_uCJ, A_uCJ, Q_uCJ, m1_s]; rw [b1', nt_succ]
        · simp (disch := omega) only [I_uI, I_uI_n, R_uR, R_uR_n, A_uA, A_uA_n, J_uJ, J_uJ_n, Q_uQ, Q_uQ_n, E_uO, E_uO_n, I_uO, I_uO_n, R_uO, R_uO_n, E_uN, E_uN_n, L_uN, L_uN_n, A_uN, A_uN_n, J_uN, J_uN_n, Q_uN, Q_uN_n, A_uCA, A_uCA_n, J_uCJ, J_uCJ_n, E_uI, R_uI, L_uI, A_uI, J_uI, Q_uI, E_uR, I_uR, L_uR, A_uR, J_uR, Q_uR, E_uA, I_uA, R_uA, L_uA, J_uA, Q_uA, E_uJ, I_uJ, R_uJ, L_uJ, A_uJ, Q_uJ, E_uQ, I_uQ, R_uQ, L_uQ, A_uQ, J_uQ, L_uO, A_uO, J_uO, Q_uO, I_uN, R_uN, E_uCA, I_uCA, R_uCA, L_uCA, J_uCA, Q_uCA, E_uCJ, I_uCJ, R_uCJ, L_uCJ, A_uCJ, Q_uCJ, m1_s]; exact b2
        · simp (disch := omega) only [I_uI, I_uI_n, R_uR, R_uR_n, A_uA, A_uA_n, J_uJ, J_uJ_n, Q_uQ, Q_uQ_n, E_uO, E_uO_n, I_uO, I_uO_n, R_uO, R_uO_n, E_uN, E_uN_n, L_uN, L_uN_n, A_uN, A_uN_n, J_uN, J_uN_n, Q_uN, Q_uN_n, A_uCA, A_uCA_n, J_uCJ, J_uCJ_n, E_uI, R_uI, L_uI, A_uI, J_uI, Q_uI, E_uR, I_uR, L_uR, A_uR, J_uR, Q_uR, E_uA, I_uA, R_uA, L_uA, J_uA, Q_uA, E_uJ, I_uJ, R_uJ, L_uJ, A_uJ, Q_uJ, E_uQ, I_uQ, R_uQ, L_uQ, A_uQ, J_uQ, L_uO, A_uO, J_uO, Q_uO, I_uN, R_uN, E_uCA, I_uCA, R_uCA, L_uCA, J_uCA, Q_uCA, E_uCJ, I_uCJ, R_uCJ, L_uCJ, A_uCJ, Q_uCJ, m1_s]; rw [b3, nt_pred]
        · simp (disch := omega) only [I_uI, I_uI_n, R_uR, R_uR_n, A_uA, A_uA_n, J_uJ, J_uJ_n, Q_uQ, Q_uQ_n, E_uO, E_uO_n, I_uO, I_uO_n, R_uO, R_uO_n, E_uN, E_uN_n, L_uN, L_uN_n, A_uN, A_uN_n, J_uN, J_uN_n, Q_uN, Q_uN_n, A_uCA, A_uCA_n, J_uCJ, J_uCJ_n, E_uI, R_uI, L_uI, A_uI, J_uI, Q_uI, E_uR, I_uR, L_uR, A_uR, J_uR, Q_uR, E_uA, I_uA, R_uA, L_uA, J_uA, Q_uA, E_uJ, I_uJ, R_uJ, L_uJ, A_uJ, Q_uJ, E_uQ, I_uQ, R_uQ, L_uQ, A_uQ, J_uQ, L_uO, A_uO, J_uO, Q_uO, I_uN, R_uN, E_uCA, I_uCA, R_uCA, L_uCA, J_uCA, Q_uCA, E_uCJ, I_uCJ, R_uCJ, L_uCJ, A_uCJ, Q_uCJ, m1_s]; exact b4
      · rw [if_neg c4, if_neg c4, wrong_eq b1' b2, ob_s, ob_s]
        have k3' : p + 1 + rc.length ≤ rq := k3
        refine ⟨_, rfl, frm_tr fv (frm_uI rfl), fun i hi => pre i hi, Or.inr ⟨rfl, ?_, l + rc.length, ?_, by omega, by show l + rc.length + p ≤ l + rq; omega⟩⟩
        · simp (disch := omega) only [I_uI, I_uI_n, R_uR, R_uR_n, A_uA, A_uA_n, J_uJ, J_uJ_n, Q_uQ, Q_uQ_n, E_uO, E_uO_n, I_uO, I_uO_n, R_uO, R_uO_n, E_uN, E_uN_n, L_uN, L_uN_n, A_uN, A_uN_n, J_uN, J_uN_n, Q_uN, Q_uN_n, A_uCA, A_uCA_n, J_uCJ, J_uCJ_n, E_uI, R_uI, L_uI, A_uI, J_uI, Q_uI, E_uR, I_uR, L_uR, A_uR, J_uR, Q_uR, E_uA, I_uA, R_uA, L_uA, J_uA, Q_uA, E_uJ, I_uJ, R_uJ, L_uJ, A_uJ, Q_uJ, E_uQ, I_uQ, R_uQ, L_uQ, A_uQ, J_uQ, L_uO, A_uO, J_uO, Q_uO, I_uN, R_uN, E_uCA, I_uCA, R_uCA, L_uCA, J_uCA, Q_uCA, E_uCJ, I_uCJ, R_uCJ, L_uCJ, A_uCJ, Q_uCJ, m1_s]
        · simp (disch := omega) only [I_uI, I_uI_n, R_uR, R_uR_n, A_uA, A_uA_n, J_uJ, J_uJ_n, Q_uQ, Q_uQ_n, E_uO, E_uO_n, I_uO, I_uO_n, R_uO, R_uO_n, E_uN, E_uN_n, L_uN, L_uN_n, A_uN, A_uN_n, J_uN, J_uN_n, Q_uN, Q_uN_n, A_uCA, A_uCA_n, J_uCJ, J_uCJ_n, E_uI, R_uI, L_uI, A_uI, J_uI, Q_uI, E_uR, I_uR, L_uR, A_uR, J_uR, Q_uR, E_uA, I_uA, R_uA, L_uA, J_uA, Q_uA, E_uJ, I_uJ, R_uJ, L_uJ, A_uJ, Q_uJ, E_uQ, I_uQ, R_uQ, L_uQ, A_uQ, J_uQ, L_uO, A_uO, J_uO, Q_uO, I_uN, R_uN, E_uCA, I_uCA, R_uCA, L_uCA, J_uCA, Q_uCA, E_uCJ, I_uCJ, R_uCJ, L_uCJ, A_uCJ, Q_uCJ, m1_s]; exact b4
    | false =>
      rcases hgo with ⟨k1, -⟩ | ⟨-, k2, k3⟩
      · cases k1
      have k3' : rq ≤ L := k3
      rcases g2.2.2 with ⟨h4, -⟩ | ⟨-, b1_, l', b2, b3, b4⟩
      · cases h4
      have b1' : tI v 1364 0 = nt rq := b1_
      have b4' : l' + (p + 1) ≤ l + rq := b4
      rw [b1', if_pos (nt_nn (by omega)), if_neg ffn]
      exact ⟨v, rfl, fv, pre, Or.inr ⟨rfl, b1', l', b2, b3, by show l' + p ≤ l + rq; omega⟩⟩
  rw [if_pos c2, if_neg c2]
  obtain ⟨N, hN⟩ : ∃ N : Nat, N = 10000 := ⟨_, rfl⟩
  rw [← hN]
  obtain ⟨u, n1, n2, n3⟩ := mNum (T := T) (L := L) (R := R) g 7 0 p 0 t N rfl (by omega) hL hD0 a1 hp
  obtain ⟨g1, g2⟩ := pNum_go hend 7 p 0 hp
  have n1' : B_X13_operand_72 g N t 0 0 = _ := n1
  rw [n1']
  unfold B_X13_operand_121 B_X13_operand_139
  have fu : frm kRd t u := frm_sb n2 (ks_sb rfl)
  have hLu := Ilen_f fu hL
  have hDu := mD_f fu hD0
  have hle2 := chA_le (T := T) (L := L) (fun i hi => (d5 i hi).2) (pNum (chA T L) 7 p 0).1
  have u64 : tI u 1364 0 = -1 := by rw [(n2.1 1364 rfl).2.1]; exact a2
  have u65 : tI u 1365 0 = nt o := by rw [(n2.1 1365 rfl).2.1]; exact a3
  have u67 : tI u 1367 0 = nt l := by rw [(n2.1 1367 rfl).2.1]; exact a4
  have u61 : tA u 3361 = tA t 3361 := (n2.1 3361 rfl).2.2.2.2.1
  have u62 : tA u 3362 = tA t 3362 := (n2.1 3362 rfl).2.2.2.2.1
  rw [look_eq hLu hDu n3 g2, ob_s, in_eq, ob_s, gw0, lk_d _ hle2, wrong_eq n3 u64, ob_s]
  generalize (pNum (chA T L) 7 p 0).1 = q at *
  generalize (pNum (chA T L) 7 p 0).2 = v at *
  have c0 : (nt (0 + (q - p)) = 0) = (q = p) := by
    rw [Nat.zero_add, show (0 : Int32) = nt 0 from rfl, eq_nt (by omega) (by omega)]
    exact propext ⟨fun q => by omega, fun q => by omega⟩
  rw [ifP c0]
  have bad : mOut t (uI u 1364 0 (nt q)) R p o l (false, q, []) := by
    refine ⟨frm_tr fu (frm_uI rfl), fun i _ => ?_, Or.inr ⟨rfl, ?_, l, ?_, Nat.le_refl _, by show l + p ≤ l + q; omega⟩⟩
    · show tA u 3361 0 i = _ ∧ tA u 3362 0 i = _
      rw [u61, u62]; exact ⟨rfl, rfl⟩
    · simp (disch := omega) only [I_uI, I_uI_n, R_uR, R_uR_n, A_uA, A_uA_n, J_uJ, J_uJ_n, Q_uQ, Q_uQ_n, E_uO, E_uO_n, I_uO, I_uO_n, R_uO, R_uO_n, E_uN, E_uN_n, L_uN, L_uN_n, A_uN, A_uN_n, J_uN, J_uN_n, Q_uN, Q_uN_n, A_uCA, A_uCA_n, J_uCJ, J_uCJ_n, E_uI, R_uI, L_uI, A_uI, J_uI, Q_uI, E_uR, I_uR, L_uR, A_uR, J_uR, Q_uR, E_uA, I_uA, R_uA, L_uA, J_uA, Q_uA, E_uJ, I_uJ, R_uJ, L_uJ, A_uJ, Q_uJ, E_uQ, I_uQ, R_uQ, L_uQ, A_uQ, J_uQ, L_uO, A_uO, J_uO, Q_uO, I_uN, R_uN, E_uCA, I_uCA, R_uCA, L_uCA, J_uCA, Q_uCA, E_uCJ, I_uCJ, R_uCJ, L_uCJ, A_uCJ, Q_uCJ, m1_s]
    · simp (disch := omega) only [I_uI, I_uI_n, R_uR, R_uR_n, A_uA, A_uA_n, J_uJ, J_uJ_n, Q_uQ, Q_uQ_n, E_uO, E_uO_n, I_uO, I_uO_n, R_uO, R_uO_n, E_uN, E_uN_n, L_uN, L_uN_n, A_uN, A_uN_n, J_uN, J_uN_n, Q_uN, Q_uN_n, A_uCA, A_uCA_n, J_uCJ, J_uCJ_n, E_uI, R_uI, L_uI, A_uI, J_uI, Q_uI, E_uR, I_uR, L_uR, A_uR, J_uR, Q_uR, E_uA, I_uA, R_uA, L_uA, J_uA, Q_uA, E_uJ, I_uJ, R_uJ, L_uJ, A_uJ, Q_uJ, E_uQ, I_uQ, R_uQ, L_uQ, A_uQ, J_uQ, L_uO, A_uO, J_uO, Q_uO, I_uN, R_uN, E_uCA, I_uCA, R_uCA, L_uCA, J_uCA, Q_uCA, E_uCJ, I_uCJ, R_uCJ, L_uCJ, A_uCJ, Q_uCJ, m1_s]; exact u67
  by_cases e1 : q = p
  · rw [if_pos e1, if_pos (Or.inl e1)]
    exact ⟨_, rfl, bad⟩
  rw [if_neg e1]
  by_cases e2 : isD (chA T L q) = true
  · rw [if_pos e2, if_pos (Or.inr e2)]
    exact ⟨_, rfl, bad⟩
  rw [if_neg e2, if_neg (fun z => z.elim e1 e2)]
  have hO : mOut t u R p o l (true, q, []) := ⟨fu, fun i _ => by rw [u61, u62]; exact ⟨rfl, rfl⟩, Or.inl ⟨rfl, ⟨n3, u64, u65, u67⟩, fun j hj => absurd hj (Nat.not_lt_zero j)⟩⟩
  obtain ⟨w, w1, w2⟩ := mOut_lay hLu hDu hO (by show l + 0 < 200; omega) 1 v
  rw [w1, ob_s]
  exact ⟨w, rfl, w2⟩
end
