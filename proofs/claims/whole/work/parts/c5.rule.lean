/-! PART c5: rule, the method. -/
section
variable {t : TS} {nR : Nat}
def kRul : Nat → Bool := k2 (ko 9) (ks [701, 703, 704, 705, 706, 707, 1212, 2700, 3211, 1354, 1355, 1363, 1364, 1365, 1366, 1367, 3356, 3357, 3358, 3359, 3360, 3361, 3362])
theorem kRul_s {l : List Nat} {t t' : TS} (h : frm (ks l) t t') (hl : l.all (fun k => (ks [701, 703, 704, 705, 706, 707, 1212, 2700, 3211, 1354, 1355, 1363, 1364, 1365, 1366, 1367, 3356, 3357, 3358, 3359, 3360, 3361, 3362]) k) = true) : frm kRul t t' := frm_sb h (fun k hk => by
  unfold kRul k2 at hk
  simp only [Bool.or_eq_false_iff] at hk
  cases e : ks l k with
  | false => rfl
  | true =>
    have h2 : k ∈ l := by
      unfold ks at e
      exact List.contains_iff_mem.mp e
    have := List.all_eq_true.mp hl k h2
    rw [hk.2] at this
    cases this)
theorem Irule1_k {t t' : TS} {r : Nat} (h0 : tA t' 2700 (r + 1) = tA t 2700 (r + 1)) (h1 : tL t' 2700 (r + 1) = tL t 2700 (r + 1)) (h2 : tR t' 903 r = tR t 903 r) (h3 : tI t' 904 r = tI t 904 r) (h4 : tA t' 3359 0 r = tA t 3359 0 r) (h5 : ∀ i, i < 90 → tA t' 3360 0 (90 * r + i) = tA t 3360 0 (90 * r + i)) (h6 : ∀ i, i < 200 → tA t' 3361 0 (200 * r + i) = tA t 3361 0 (200 * r + i) ∧ tA t' 3362 0 (200 * r + i) = tA t 3362 0 (200 * r + i)) (hb : ∀ T L, L ≤ 160 → (pRu (chA T L) 200 0 []).1 = true → (∀ i, i < L → T i < 256) → (pRu (chA T L) 200 0 []).2.2.length ≤ 90 ∧ (pRu (chA T L) 200 0 []).2.2.flatten.length ≤ 200) (hI : Irule1 t r) : Irule1 t' r := by
  obtain ⟨T, L, q1, q2, q3, q4, q5, ⟨q6, q7, q8⟩, q9⟩ := hI
  obtain ⟨b1_, b2⟩ := hb T L q1 q5 (fun i hi => (q2 i hi).2)
  refine ⟨T, L, q1, fun i hi => by rw [h0]; exact q2 i hi, by rw [h1]; exact q3, by rw [h2]; exact q4, q5, ⟨by rw [h4]; exact q6, fun i hi => by rw [h5 i (by omega)]; exact q7 i hi, fun j hj => ?_⟩, by rw [h3]; exact q9⟩
  rw [(h6 j (by omega)).1, (h6 j (by omega)).2]
  exact q8 j hj
/-- no more lines and steps than the text is long -/
theorem pRu_bd {ch : Nat → Nat} {L : Nat} (hch : ∀ p, L ≤ p → ch p = 256) : ∀ f p ls, p ≤ L → ls.flatten.length ≤ p → 2 * ls.length ≤ p → (pRu ch f p ls).1 = true → (pRu ch f p ls).2.2.flatten.length ≤ L ∧ 2 * (pRu ch f p ls).2.2.length ≤ L + 1
  | 0, p, ls, _, _, _, h => by cases h
  | f + 1, p, ls, h1, h2, h3, h => by
    have hgo := pB_go hch 100 2 p 0 h1
    unfold pRu at h ⊢
    generalize pB ch 100 2 p 0 = r at h hgo ⊢
    obtain ⟨rb, rq, rc⟩ := r
    cases rb with
    | false => rw [if_neg ffn] at h; cases h
    | true =>
      rcases hgo with ⟨-, k1, k2, k3⟩ | ⟨k1, -⟩
      case inr => cases k1
      have k1' : p < rq := k1
      have k2' : rq ≤ L := k2
      have k3' : p + rc.length ≤ rq := k3
      have hfl : (ls ++ [rc]).flatten.length = ls.flatten.length + rc.length := by rw [List.flatten_append, List.length_append, List.flatten_cons, List.flatten_nil, List.append_nil]
      have hln : (ls ++ [rc]).length = ls.length + 1 := by rw [List.length_append, List.length_cons, List.length_nil]
      rw [if_pos rfl] at h ⊢
      by_cases c4 : ch rq = 59
      · have hqL : rq < L := ch_lt hch (show ¬ ch rq = 256 by omega)
        have e : (if ch (true, rq, rc).2.1 = 59 then pRu ch f ((true, rq, rc).2.1 + 1) (ls ++ [(true, rq, rc).2.2]) else if ch (true, rq, rc).2.1 = 256 then (true, (true, rq, rc).2.1, ls ++ [(true, rq, rc).2.2]) else (false, (true, rq, rc).2.1, [])) = pRu ch f (rq + 1) (ls ++ [rc]) := if_pos c4
        rw [e] at h ⊢
        exact pRu_bd hch f (rq + 1) (ls ++ [rc]) hqL (by rw [hfl]; omega) (by rw [hln]; omega) h
      · by_cases c5 : ch rq = 256
        · have e : (if ch (true, rq, rc).2.1 = 59 then pRu ch f ((true, rq, rc).2.1 + 1) (ls ++ [(true, rq, rc).2.2]) else if ch (true, rq, rc).2.1 = 256 then (true, (true, rq, rc).2.1, ls ++ [(true, rq, rc).2.2]) else (false, (true, rq, rc).2.1, [])) = (true, rq, ls ++ [rc]) := by
            rw [if_neg (show ¬ ch (true, rq, rc).2.1 = 59 from c4), if_pos (show ch (true, rq, rc).2.1 = 256 from c5)]
          rw [e]
          show (ls ++ [rc]).flatten.length ≤ L ∧ 2 * (ls ++ [rc]).length ≤ L + 1
          rw [hfl, hln]
          omega
        · have e : (if ch (true, rq, rc).2.1 = 59 then pRu ch f ((true, rq, rc).2.1 + 1) (ls ++ [(true, rq, rc).2.2]) else if ch (true, rq, rc).2.1 = 256 then (true, (true, rq, rc).2.1, ls ++ [(true, rq, rc).2.2]) else (false, (true, rq, rc).2.1, [])) = (false, rq, []) := by
            rw [if_neg (show ¬ ch (true, rq, rc).2.1 = 59 from c4), if_neg (show ¬ ch (true, rq, rc).2.1 = 256 from c5)]
          rw [e] at h
          cases h
theorem rule_bd (T : Nat → Nat) (L : Nat) (hL : L ≤ 160) (h : (pRu (chA T L) 200 0 []).1 = true) (_ : ∀ i, i < L → T i < 256) : (pRu (chA T L) 200 0 []).2.2.length ≤ 90 ∧ (pRu (chA T L) 200 0 []).2.2.flatten.length ≤ 200 := by
  have := pRu_bd (ch := chA T L) (L := L) (fun p hp => chA_end hp) 200 0 [] (Nat.zero_le _) (Nat.le_refl _) (Nat.le_refl _) h
  omega
/-- the model reads the tape as rule number nR -/
theorem mrule_go (hL : Ilen t) {n : Nat} (hn : n ≤ 160) (h1354 : tI t 1354 0 = nt n) (h1355 : tI t 1355 0 = nt nR) (hR : nR < 16) {T : Nat → Nat} (hb : ∀ i, i < n → tA t 3353 0 i = bt (T i) ∧ T i < 256) (x1 x2 : Int32) (h1 : 0 ≤ x1 ∧ x1 ≤ 32) (h2 : irm x1 10 ≤ 2) (h3 : 0 ≤ x2 ∧ x2 ≤ 2999) : ∃ u, F_X13_rule t x1 x2 = B_X13_rule_136 u x1 x2 ∧ frm (ks [1363, 1364, 1365, 1366, 1367, 3359, 3360, 3361, 3362]) t u ∧ uT t u nR ∧ (((pRu (chA T n) 200 0 []).1 = true ∧ tI u 1364 0 = -1 ∧ rSt u nR (pRu (chA T n) 200 0 []).2.2) ∨ ((pRu (chA T n) 200 0 []).1 = false ∧ tI u 1364 0 = nt (pRu (chA T n) 200 0 []).2.1)) := by
  obtain ⟨v, hv⟩ : ∃ v, v = uI (uI (uI (uI (uA (uI t 1366 0 (nt nR)) 3359 0 nR 0) 1367 0 0) 1363 0 0) 1364 0 (-1)) 1365 0 0 := ⟨_, rfl⟩
  have fv : frm (ks [1363, 1364, 1365, 1366, 1367, 3359]) t v := by
    rw [hv]
    exact frm_tr (frm_uI rfl) (frm_tr (frm_uA rfl) (frm_tr (frm_uI rfl) (frm_tr (frm_uI rfl) (frm_tr (frm_uI rfl) (frm_uI rfl)))))
  have hLv := Ilen_f fv hL
  have e66 : tI v 1366 0 = nt nR := by rw [hv]; simp (disch := omega) only [I_uI, I_uI_n, R_uR, R_uR_n, A_uA, A_uA_n, J_uJ, J_uJ_n, Q_uQ, Q_uQ_n, E_uO, E_uO_n, I_uO, I_uO_n, R_uO, R_uO_n, E_uN, E_uN_n, L_uN, L_uN_n, A_uN, A_uN_n, J_uN, J_uN_n, Q_uN, Q_uN_n, A_uCA, A_uCA_n, J_uCJ, J_uCJ_n, E_uI, R_uI, L_uI, A_uI, J_uI, Q_uI, E_uR, I_uR, L_uR, A_uR, J_uR, Q_uR, E_uA, I_uA, R_uA, L_uA, J_uA, Q_uA, E_uJ, I_uJ, R_uJ, L_uJ, A_uJ, Q_uJ, E_uQ, I_uQ, R_uQ, L_uQ, A_uQ, J_uQ, L_uO, A_uO, J_uO, Q_uO, I_uN, R_uN, E_uCA, I_uCA, R_uCA, L_uCA, J_uCA, Q_uCA, E_uCJ, I_uCJ, R_uCJ, L_uCJ, A_uCJ, Q_uCJ, m1_s]
  have hD : mD v T n nR := ⟨hn, by rw [(fv.1 1354 rfl).2.1]; exact h1354, e66, by omega, fun i hi => by rw [(fv.1 3353 rfl).2.2.2.2.1]; exact hb i hi⟩
  have hat : mAt v 0 0 0 := by
    rw [hv]
    refine ⟨?_, ?_, ?_, ?_⟩ <;> simp (disch := omega) only [I_uI, I_uI_n, R_uR, R_uR_n, A_uA, A_uA_n, J_uJ, J_uJ_n, Q_uQ, Q_uQ_n, E_uO, E_uO_n, I_uO, I_uO_n, R_uO, R_uO_n, E_uN, E_uN_n, L_uN, L_uN_n, A_uN, A_uN_n, J_uN, J_uN_n, Q_uN, Q_uN_n, A_uCA, A_uCA_n, J_uCJ, J_uCJ_n, E_uI, R_uI, L_uI, A_uI, J_uI, Q_uI, E_uR, I_uR, L_uR, A_uR, J_uR, Q_uR, E_uA, I_uA, R_uA, L_uA, J_uA, Q_uA, E_uJ, I_uJ, R_uJ, L_uJ, A_uJ, Q_uJ, E_uQ, I_uQ, R_uQ, L_uQ, A_uQ, J_uQ, L_uO, A_uO, J_uO, Q_uO, I_uN, R_uN, E_uCA, I_uCA, R_uCA, L_uCA, J_uCA, Q_uCA, E_uCJ, I_uCJ, R_uCJ, L_uCJ, A_uCJ, Q_uCJ, m1_s] <;> rfl
  have h59 : ∀ r, tA v 3359 0 r = if r = nR then 0 else tA t 3359 0 r := fun r => by
    rw [hv]
    simp (disch := omega) only [I_uI, I_uI_n, R_uR, R_uR_n, A_uA, A_uA_n, J_uJ, J_uJ_n, Q_uQ, Q_uQ_n, E_uO, E_uO_n, I_uO, I_uO_n, R_uO, R_uO_n, E_uN, E_uN_n, L_uN, L_uN_n, A_uN, A_uN_n, J_uN, J_uN_n, Q_uN, Q_uN_n, A_uCA, A_uCA_n, J_uCJ, J_uCJ_n, E_uI, R_uI, L_uI, A_uI, J_uI, Q_uI, E_uR, I_uR, L_uR, A_uR, J_uR, Q_uR, E_uA, I_uA, R_uA, L_uA, J_uA, Q_uA, E_uJ, I_uJ, R_uJ, L_uJ, A_uJ, Q_uJ, E_uQ, I_uQ, R_uQ, L_uQ, A_uQ, J_uQ, L_uO, A_uO, J_uO, Q_uO, I_uN, R_uN, E_uCA, I_uCA, R_uCA, L_uCA, J_uCA, Q_uCA, E_uCJ, I_uCJ, R_uCJ, L_uCJ, A_uCJ, Q_uCJ, m1_s]
    by_cases e : r = nR
    · rw [if_pos e, e, m1_s]
    · rw [if_neg e, m1_n e]
  have hst : rSt v nR [] := ⟨by rw [h59, if_pos rfl]; rfl, fun i hi => absurd hi (Nat.not_lt_zero i), fun i hi => absurd hi (Nat.not_lt_zero i)⟩
  obtain ⟨N, hN⟩ : ∃ N : Nat, N = 10000 := ⟨_, rfl⟩
  obtain ⟨u, a1, a2, a3, a4⟩ := mLn (T := T) (L := n) (R := nR) x1 x2 200 0 [] v N hLv hD hat (Nat.le_refl _) (Nat.zero_le _) (Nat.le_refl _) hst (by omega) (by omega)
  have c2 : ¬ (2 : Int32) < irm x1 10 := Int32.not_lt.mpr h2
  have c16 : (¬ nt nR = 16) = True := eq_true (by
    rw [show (16 : Int32) = nt 16 from rfl, eq_nt (by omega) (by omega)]; omega)
  refine ⟨u, ?_, frm_tr (frm_sb fv (ks_sb rfl)) (frm_sb a2 (ks_sb rfl)), uT_tr ⟨fun r hr => by rw [h59, if_neg (by omega)], fun i hi => ?_, fun i hi => ?_⟩ a3, a4⟩
  · rw [← a1]
    unfold F_X13_rule F_X13_isDay
    rw [in_eq, ob_s, decide_eq_true h1, gw0, if_pos rfl, if_neg c2, in_eq, decide_eq_true h3, ob_s, gb_b1, ob_s, gw1, if_pos rfl, h1355, ifP c16, if_pos trivial, nxt_e]
    have e1 : tI (uI t 1366 0 (nt nR)) 1366 0 = nt nR := by rw [I_uI, m1_s]
    rw [e1, show tL (uI t 1366 0 (nt nR)) 3359 0 = 17 from hL 3359 rfl, gd_nt _ (by omega) (by omega), nt_cl (by omega), nxt_e, nxt_e, nxt_e, nxt_e, nxt_e, hv, hN]
  · rw [(fv.1 3360 rfl).2.2.2.2.1]
  · rw [(fv.1 3361 rfl).2.2.2.2.1, (fv.1 3362 rfl).2.2.2.2.1]
    exact ⟨rfl, rfl⟩
end
