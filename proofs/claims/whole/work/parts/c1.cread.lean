/-! PART c1: the class goes on reading behind a fault: it changes no more. -/
section
variable {T : Nat → Nat} {L j : Nat} {V : Nat → Int32}
def fOut (L : Nat) (t u : TS) (p : Nat) : Prop := frm kCr t u ∧ tI u 707 0 = tI t 707 0 ∧ ∃ p', p ≤ p' ∧ p' ≤ L ∧ tI u 706 0 = nt p'
theorem fail_z {t : TS} (h : 0 ≤ tI t 707 0) : F_X7_fail t = some (0, t) := by
  unfold F_X7_fail
  rw [if_pos h]
theorem pass_z {t : TS} (h : 0 ≤ tI t 707 0) (s : Int32) : F_X7_pass t s = some t := by
  unfold F_X7_pass B_X7_pass_44
  rw [if_pos h, fail_z h, ob2_s]
theorem fOut_tr {t u v : TS} {p p1 : Nat} (h1 : frm kCr t u) (h2 : tI u 707 0 = tI t 707 0) (hp : p ≤ p1) (h : fOut L u v p1) : fOut L t v p := by
  obtain ⟨a1, a2, p', a3, a4, a5⟩ := h
  exact ⟨frm_tr h1 a1, a2.trans h2, p', by omega, a4, a5⟩
theorem fI : ∀ N w p o (t : TS), 3 * (8 - o) + w + 1 ≤ N → w ≤ 2 → o ≤ 8 → Ilen t → cD t T L j V → tI t 706 0 = nt p → p ≤ L → 0 ≤ tI t 707 0 → ∃ x u, G_X7_sum N (2 - w) t (nt o) = some (x, u) ∧ fOut L t u p
  | 0, w, p, o, t, h1, _, _, _, _, _, _, _ => by omega
  | N + 1, w, p, o, t, h1, h2, h3, hL, hD, a1, hp, hz => by
    have ih := fI N
    have hend : ∀ p, L ≤ p → chA T L p = 256 := fun p hp => chA_end hp
    have hT : ∀ i, i < L → T i < 256 := fun i hi => (hD.2.2.2.2.1 i hi).2
    have hle := chA_le (T := T) (L := L) hT p
    have hL160 := hD.1
    match w with
    | 0 =>
      rw [show 2 - 0 = 2 from rfl, GS_X7_operand]
      unfold Fb_X7_operand
      rw [peek_eq hD a1 hp, ob_s, win_eq, ob_s, gw0, pk_d _ hle]
      by_cases cd : isD (chA T L p) = true
      · rw [if_pos cd]
        unfold F_X7_number
        obtain ⟨M, hM⟩ : ∃ N : Nat, N = 10000 := ⟨_, rfl⟩
        obtain ⟨u, n1, n2, n3⟩ := cNum (T := T) (L := L) (j := j) (V := V) 7 0 p 0 t M rfl (by omega) hD a1 hp
        obtain ⟨g1, g2⟩ := pNum_go hend 7 p 0 hp
        have n1' : B_X7_number_4 M t 0 0 = _ := n1
        rw [← hM, n1', ob2_s]
        exact ⟨_, u, rfl, frm_sb n2 (ks_sb rfl), by rw [(n2.1 707 rfl).2.1], _, g1, g2, n3⟩
      rw [if_neg cd]
      have c40 : (¬ pk (chA T L p) = 40) = ¬ chA T L p = 40 := congrArg Not (propext (pk_sg _ hle 40 (by omega)))
      have c8 : ((8 : Int32) ≤ nt o) = (8 ≤ o) := ge_nt (n := 8) (by omega) (by omega)
      rw [ifP c40, ifP c8]
      have hfail : ∃ x u, ob2 (F_X7_fail t) (fun x24 t25 => some (x24, t25)) = some (x, u) ∧ fOut L t u p := by
        rw [fail_z hz, ob2_s]
        exact ⟨0, t, rfl, frm_rf, rfl, p, Nat.le_refl _, hp, a1⟩
      have h59 : ∃ x u, B_X7_operand_59 (G_X7_sum N) t (pk (chA T L p)) = some (x, u) ∧ fOut L t u p := by
        have cn : (0 ≤ pk (chA T L p)) = (chA T L p < 256) := propext (pk_neg _ hle)
        unfold B_X7_operand_59 B_X7_operand_74
        rw [ifP cn]
        by_cases hlt : chA T L p < 256
        · have hpL : p < L := ch_lt hend (show ¬ chA T L p = 256 by omega)
          rw [if_pos hlt, nameC hlt, ob_s]
          cases hk : nameN (chA T L p) with
          | none =>
            rw [oel_n, if_neg neg1]
            exact hfail
          | some k =>
            have hk12 := name_lt _ hle k hk
            rw [oel_s, if_pos (nt_nn (by omega)), nxt_e, nxt_e, show tL (uI (uI t 706 0 (tI t 706 0 + 1)) 703 0 (tI (uI t 706 0 (tI t 706 0 + 1)) 703 0 ||| ((1 : Int32) <<< (nt k &&& 31)))) 2702 0 = 12 from hL 2702 rfl, gd_nt _ (by omega) (by omega)]
            refine ⟨_, _, rfl, frm_tr (frm_uI rfl) (frm_uI rfl), ?_, p + 1, by omega, hpL, ?_⟩
            · simp (disch := omega) only [I_uI, I_uI_n, R_uR, R_uR_n, A_uA, A_uA_n, J_uJ, J_uJ_n, Q_uQ, Q_uQ_n, E_uO, E_uO_n, I_uO, I_uO_n, R_uO, R_uO_n, E_uN, E_uN_n, L_uN, L_uN_n, A_uN, A_uN_n, J_uN, J_uN_n, Q_uN, Q_uN_n, A_uCA, A_uCA_n, J_uCJ, J_uCJ_n, E_uI, R_uI, L_uI, A_uI, J_uI, Q_uI, E_uR, I_uR, L_uR, A_uR, J_uR, Q_uR, E_uA, I_uA, R_uA, L_uA, J_uA, Q_uA, E_uJ, I_uJ, R_uJ, L_uJ, A_uJ, Q_uJ, E_uQ, I_uQ, R_uQ, L_uQ, A_uQ, J_uQ, L_uO, A_uO, J_uO, Q_uO, I_uN, R_uN, E_uCA, I_uCA, R_uCA, L_uCA, J_uCA, Q_uCA, E_uCJ, I_uCJ, R_uCJ, L_uCJ, A_uCJ, Q_uCJ, m1_s]
            · simp (disch := omega) only [I_uI, I_uI_n, R_uR, R_uR_n, A_uA, A_uA_n, J_uJ, J_uJ_n, Q_uQ, Q_uQ_n, E_uO, E_uO_n, I_uO, I_uO_n, R_uO, R_uO_n, E_uN, E_uN_n, L_uN, L_uN_n, A_uN, A_uN_n, J_uN, J_uN_n, Q_uN, Q_uN_n, A_uCA, A_uCA_n, J_uCJ, J_uCJ_n, E_uI, R_uI, L_uI, A_uI, J_uI, Q_uI, E_uR, I_uR, L_uR, A_uR, J_uR, Q_uR, E_uA, I_uA, R_uA, L_uA, J_uA, Q_uA, E_uJ, I_uJ, R_uJ, L_uJ, A_uJ, Q_uJ, E_uQ, I_uQ, R_uQ, L_uQ, A_uQ, J_uQ, L_uO, A_uO, J_uO, Q_uO, I_uN, R_uN, E_uCA, I_uCA, R_uCA, L_uCA, J_uCA, Q_uCA, E_uCJ, I_uCJ, R_uCJ, L_uCJ, A_uCJ, Q_uCJ, m1_s]; rw [a1, nt_succ]
        · rw [if_neg hlt, if_neg neg1]
          exact hfail
      by_cases c2 : chA T L p = 40
      case neg =>
        rw [if_pos c2]
        exact h59
      rw [if_neg (fun q => q c2)]
      by_cases c3 : o = 8
      · rw [if_pos (by omega)]
        exact h59
      have hpL : p < L := ch_lt hend (show ¬ chA T L p = 256 by omega)
      rw [if_neg (show ¬ 8 ≤ o by omega), nxt_e, a1, nt_succ, nt_succ]
      have f1 : frm kCr t (uI t 706 0 (nt (p + 1))) := frm_uI rfl
      have e7 : tI (uI t 706 0 (nt (p + 1))) 707 0 = tI t 707 0 := by rw [I_uI_n (by decide)]
      obtain ⟨x, u, q1, q2⟩ := ih 2 (p + 1) (o + 1) (uI t 706 0 (nt (p + 1))) (by omega) (by omega) (by omega) (Ilen_f f1 hL) (cD_f f1 hD) (by rw [I_uI, m1_s]) hpL (by rw [e7]; exact hz)
      have q1' : G_X7_sum N 0 (uI t 706 0 (nt (p + 1))) (nt (o + 1)) = some (x, u) := q1
      have q3 := fOut_tr f1 e7 (Nat.le_succ p) q2
      rw [q1', ob2_s, pass_z (by rw [q3.2.1]; exact hz), ob_s]
      exact ⟨x, u, rfl, q3⟩
    | 1 =>
      rw [show 2 - 1 = 1 from rfl, GS_X7_product]
      unfold Fb_X7_product
      obtain ⟨x, u, q1, q2⟩ := ih 0 p o t (by omega) (by omega) h3 hL hD a1 hp hz
      have q1' : G_X7_sum N 2 t (nt o) = some (x, u) := q1
      rw [q1', ob2_s]
      obtain ⟨M, hM⟩ : ∃ N : Nat, 10000 = N + 1 := ⟨9999, rfl⟩
      rw [hM]
      refine ⟨x, u, ?_, q2⟩
      show BB_X7_product_6 (G_X7_sum N) (B_X7_product_6 (G_X7_sum N) M) u (nt o) x = _
      unfold BB_X7_product_6
      rw [if_pos (by rw [q2.2.1]; exact hz)]
    | 2 =>
      rw [show 2 - 2 = 0 from rfl, GS_X7_sum]
      unfold Fb_X7_sum
      obtain ⟨x, u, q1, q2⟩ := ih 1 p o t (by omega) (by omega) h3 hL hD a1 hp hz
      have q1' : G_X7_sum N 1 t (nt o) = some (x, u) := q1
      rw [q1', ob2_s]
      obtain ⟨M, hM⟩ : ∃ N : Nat, 10000 = N + 1 := ⟨9999, rfl⟩
      rw [hM]
      refine ⟨x, u, ?_, q2⟩
      show BB_X7_sum_6 (G_X7_sum N) (B_X7_sum_6 (G_X7_sum N) M) u (nt o) x = _
      unfold BB_X7_sum_6
      rw [if_pos (by rw [q2.2.1]; exact hz)]
    | w + 3 => exact absurd h2 (by omega)
theorem fB : ∀ N w p o (t : TS), 3 * (8 - o) + w + 1 ≤ N → w ≤ 2 → o ≤ 8 → Ilen t → cD t T L j V → tI t 706 0 = nt p → p ≤ L → 0 ≤ tI t 707 0 → ∃ x u, G_X7_anyOf N (2 - w) t (nt o) = some (x, u) ∧ P01 x ∧ fOut L t u p
  | 0, w, p, o, t, h1, _, _, _, _, _, _, _ => by omega
  | N + 1, w, p, o, t, h1, h2, h3, hL, hD, a1, hp, hz => by
    have ih := fB N
    have hend : ∀ p, L ≤ p → chA T L p = 256 := fun p hp => chA_end hp
    have hT : ∀ i, i < L → T i < 256 := fun i hi => (hD.2.2.2.2.1 i hi).2
    have hle := chA_le (T := T) (L := L) hT p
    have hL160 := hD.1
    match w with
    | 0 =>
      rw [show 2 - 0 = 2 from rfl, GS_X7_base]
      unfold Fb_X7_base
      have c33 : (pk (chA T L p) = 33) = (chA T L p = 33) := propext (pk_sg _ hle 33 (by omega))
      have c33n : (¬ pk (chA T L p) = 33) = ¬ chA T L p = 33 := congrArg Not c33
      have c91 : (¬ pk (chA T L p) = 91) = ¬ chA T L p = 91 := congrArg Not (propext (pk_sg _ hle 91 (by omega)))
      have c8 : (nt o < (8 : Int32)) = (o < 8) := lt_nt (n := 8) (by omega) (by omega)
      have h17 : ¬ chA T L p = 256 → ∃ x u, B_X7_base_17 (G_X7_anyOf N) t (nt o) (pk (chA T L p)) = some (x, u) ∧ P01 x ∧ fOut L t u p := by
        intro hne
        have hpL : p < L := ch_lt hend hne
        unfold B_X7_base_17
        rw [ifP c8, a1, nt_succ, nt_succ, nxt_e, ifP c33n]
        by_cases c3 : o = 8
        · rw [if_neg (show ¬ o < 8 by omega), fail_z hz, ob2_s]
          exact ⟨0, t, rfl, Or.inl rfl, frm_rf, rfl, p, Nat.le_refl _, hp, a1⟩
        rw [if_pos (show o < 8 by omega)]
        have f1 : frm kCr t (uI t 706 0 (nt (p + 1))) := frm_uI rfl
        have e7 : tI (uI t 706 0 (nt (p + 1))) 707 0 = tI t 707 0 := by rw [I_uI_n (by decide)]
        by_cases c1 : chA T L p = 33
        · obtain ⟨x, u, q1, qx, q2⟩ := ih 0 (p + 1) (o + 1) (uI t 706 0 (nt (p + 1))) (by omega) (by omega) (by omega) (Ilen_f f1 hL) (cD_f f1 hD) (by rw [I_uI, m1_s]) hpL (by rw [e7]; exact hz)
          have q1' : G_X7_anyOf N 2 (uI t 706 0 (nt (p + 1))) (nt (o + 1)) = some (x, u) := q1
          have q3 := fOut_tr f1 e7 (Nat.le_succ p) q2
          rw [if_neg (fun q => q c1), q1', ob2_s]
          by_cases e : x = 0
          · rw [if_neg (fun q => q e)]; exact ⟨1, u, rfl, Or.inr rfl, q3⟩
          · rw [if_pos e]; exact ⟨0, u, rfl, Or.inl rfl, q3⟩
        · obtain ⟨x, u, q1, qx, q2⟩ := ih 2 (p + 1) (o + 1) (uI t 706 0 (nt (p + 1))) (by omega) (by omega) (by omega) (Ilen_f f1 hL) (cD_f f1 hD) (by rw [I_uI, m1_s]) hpL (by rw [e7]; exact hz)
          have q1' : G_X7_anyOf N 0 (uI t 706 0 (nt (p + 1))) (nt (o + 1)) = some (x, u) := q1
          have q3 := fOut_tr f1 e7 (Nat.le_succ p) q2
          rw [if_pos c1, q1', ob2_s, pass_z (by rw [q3.2.1]; exact hz), ob_s, gb_p qx]
          exact ⟨x, u, rfl, qx, q3⟩
      rw [peek_eq hD a1 hp, ob_s, ifP c33, ifP c91]
      by_cases c1 : chA T L p = 33
      · rw [if_pos c1]; exact h17 (by omega)
      rw [if_neg c1]
      by_cases c2 : chA T L p = 91
      · rw [if_neg (fun q => q c2)]; exact h17 (by omega)
      rw [if_pos c2]
      obtain ⟨x, u, q1, q2⟩ := fI (T := T) (L := L) (j := j) (V := V) 100 2 p o t (by omega) (by omega) h3 hL hD a1 hp hz
      have q1' : F_X7_sum t (nt o) = some (x, u) := q1
      obtain ⟨p', q4, q5, q6⟩ := q2.2.2
      have hDu := cD_f q2.1 hD
      have hzu : 0 ≤ tI u 707 0 := by rw [q2.2.1]; exact hz
      rw [q1', ob2_s, peek_eq hDu q6 q5, ob_s, if_pos hzu]
      unfold B_X7_base_118
      rw [fail_z hzu, ob2_s]
      exact ⟨0, u, rfl, Or.inl rfl, q2⟩
    | 1 =>
      rw [show 2 - 1 = 1 from rfl, GS_X7_allOf]
      unfold Fb_X7_allOf
      obtain ⟨x, u, q1, qx, q2⟩ := ih 0 p o t (by omega) (by omega) h3 hL hD a1 hp hz
      have q1' : G_X7_anyOf N 2 t (nt o) = some (x, u) := q1
      rw [q1', ob2_s]
      obtain ⟨M, hM⟩ : ∃ N : Nat, 10000 = N + 1 := ⟨9999, rfl⟩
      rw [hM]
      refine ⟨x, u, ?_, qx, q2⟩
      show BB_X7_allOf_6 (G_X7_anyOf N) (B_X7_allOf_6 (G_X7_anyOf N) M) u (nt o) x = _
      unfold BB_X7_allOf_6
      rw [if_pos (by rw [q2.2.1]; exact hz), gb_p qx]
    | 2 =>
      rw [show 2 - 2 = 0 from rfl, GS_X7_anyOf]
      unfold Fb_X7_anyOf
      obtain ⟨x, u, q1, qx, q2⟩ := ih 1 p o t (by omega) (by omega) h3 hL hD a1 hp hz
      have q1' : G_X7_anyOf N 1 t (nt o) = some (x, u) := q1
      rw [q1', ob2_s]
      obtain ⟨M, hM⟩ : ∃ N : Nat, 10000 = N + 1 := ⟨9999, rfl⟩
      rw [hM]
      refine ⟨x, u, ?_, qx, q2⟩
      show BB_X7_anyOf_6 (G_X7_anyOf N) (B_X7_anyOf_6 (G_X7_anyOf N) M) u (nt o) x = _
      unfold BB_X7_anyOf_6
      rw [if_pos (by rw [q2.2.1]; exact hz), gb_p qx]
    | w + 3 => exact absurd h2 (by omega)
end
