/-! PART 44: teaching: both from their start; the days by leagues. -/
section
variable {t : TS} {nB nS nM p d : Nat}
theorem ct_eq (hL : Ilen t) (hB : Ibody nB t) (hS : Ispan nB nS nM t) (hp : p < nB) (hd : d ≤ 2999) (hday : tI t 1200 0 = nt d) :
    ∃ t2, F_X12_countTeaching t (some p) = some t2 ∧ frm (ks [3209, 3210]) t t2 ∧ (∀ c, c < nB → tA t2 3209 0 c = nt (tch t nS p d c)) ∧ ∀ l, l < 4 → tA t2 3210 0 l = nt (tlg t nS p d l) := by
  have hnB := hB.1
  -- the second loop
  have h2 : ∀ t1, frm (ks [3209, 3210]) t t1 → (∀ c, c < nB → tA t1 3209 0 c = 0) → ∃ t2, B_X12_countTeaching_23 t1 (some p) = some t2 ∧ frm (ks [3209, 3210]) t t2 ∧ (∀ c, c < nB → tA t2 3209 0 c = nt (tch t nS p d c)) ∧ ∀ l, l < 4 → tA t2 3210 0 l = nt (tlg t nS p d l) := by
    intro t1 hf1 hz1
    unfold B_X12_countTeaching_23
    obtain ⟨N, hN⟩ : ∃ N : Nat, N = 10000 := ⟨_, rfl⟩
    rw [← hN]
    refine loop_wh (B := fun fu (a : TS × Nat) => B_X12_countTeaching_25 fu a.1 (some p) (nt a.2)) (mu := fun a => 4 - a.2) (G := fun o => ∃ t2, o = some t2 ∧ frm (ks [3209, 3210]) t t2 ∧ (∀ c, c < nB → tA t2 3209 0 c = nt (tch t nS p d c)) ∧ ∀ l, l < 4 → tA t2 3210 0 l = nt (tlg t nS p d l))
      (P := fun a => a.2 ≤ 4 ∧ frm (ks [3209, 3210]) t a.1 ∧ (∀ c, c < nB → tA a.1 3209 0 c = 0) ∧ ∀ l, l < a.2 → tA a.1 3210 0 l = 0) ?_ N (t1, 0) ⟨Nat.zero_le _, hf1, hz1, fun l hl => by cases hl⟩ (by show 4 - 0 < N; omega)
    rintro fu ⟨t3, k⟩ ⟨k1, k2, k3, k4⟩
    dsimp only at k1 k2 k3 k4
    have hL3 : Ilen t3 := Ilen_f k2 hL
    show (∃ t2, BB_X12_countTeaching_25 (B_X12_countTeaching_25 fu) t3 (some p) (nt k) = _ ∧ _) ∨ ∃ a', BB_X12_countTeaching_25 (B_X12_countTeaching_25 fu) t3 (some p) (nt k) = _ ∧ _
    unfold BB_X12_countTeaching_25
    rw [(show tL _ 3210 0 = 4 from hL3 3210 rfl), show Int32.ofNat 4 = nt 4 from rfl, igE (by omega) (by omega)]
    by_cases hk : k = 4
    · left
      have hB3 := Ibody_f k2 (by decide) hB
      obtain ⟨-, -, -, -, -, e5, -⟩ := hB3.2.2.2.1 p hp
      have e5' : tI t3 105 p = tA t 3312 0 p := by rw [e5, (k2.1 3312 rfl).2.2.2.2.1]
      have e6 : tI t3 1200 0 = nt d := by rw [(k2.1 1200 rfl).2.1, hday]
      obtain ⟨q1, q2, -⟩ := last_eq hB hp hd
      rw [if_pos (by omega), B_X12_countTeaching_47, oc_s, e5', e6, q1, q2]
      exact ct_loop hL hB hS hp hd k2 k3 (fun l hl => k4 l (by omega))
    · right
      refine ⟨(uA t3 3210 0 k 0, k + 1), ?_, ⟨by show k + 1 ≤ 4; omega, frm_tr k2 (frm_uA rfl), fun c hc => ?_, fun l hl => ?_⟩, by show 4 - (k + 1) < 4 - k; omega⟩
      · rw [if_neg (by omega), gd_nt _ (by omega) (by omega), nt_cl (by omega), nxt_e, nt_succ]
      · rw [A_uA_n (by decide)]; exact k3 c hc
      · rw [A_uA, m1_s]
        by_cases e : l = k
        · rw [e, m1_s]
        · rw [m1_n e]; exact k4 l (by omega)
  unfold F_X12_countTeaching
  obtain ⟨N, hN⟩ : ∃ N : Nat, N = 10000 := ⟨_, rfl⟩
  rw [← hN]
  refine loop_wh (B := fun fu (a : TS × Nat) => B_X12_countTeaching_2 fu a.1 (some p) (nt a.2)) (mu := fun a => nB - a.2) (G := fun o => ∃ t2, o = some t2 ∧ frm (ks [3209, 3210]) t t2 ∧ (∀ c, c < nB → tA t2 3209 0 c = nt (tch t nS p d c)) ∧ ∀ l, l < 4 → tA t2 3210 0 l = nt (tlg t nS p d l))
    (P := fun a => a.2 ≤ nB ∧ frm (ks [3209, 3210]) t a.1 ∧ ∀ c, c < a.2 → tA a.1 3209 0 c = 0) ?_ N (t, 0) ⟨Nat.zero_le _, frm_rf, fun l hl => by cases hl⟩ (by show nB - 0 < N; omega)
  rintro fu ⟨t3, k⟩ ⟨k1, k2, k3⟩
  dsimp only at k1 k2 k3
  have hL3 : Ilen t3 := Ilen_f k2 hL
  show (∃ t2, BB_X12_countTeaching_2 (B_X12_countTeaching_2 fu) t3 (some p) (nt k) = _ ∧ _) ∨ ∃ a', BB_X12_countTeaching_2 (B_X12_countTeaching_2 fu) t3 (some p) (nt k) = _ ∧ _
  unfold BB_X12_countTeaching_2
  rw [(k2.1 1204 rfl).2.1, hB.2.1, igE (by omega) (by omega)]
  by_cases hk : k = nB
  · left
    rw [if_pos (by omega)]
    exact h2 t3 k2 (fun c hc => k3 c (by omega))
  · right
    refine ⟨(uA t3 3209 0 k 0, k + 1), ?_, ⟨by show k + 1 ≤ nB; omega, frm_tr k2 (frm_uA rfl), fun l hl => ?_⟩, by show nB - (k + 1) < nB - k; omega⟩
    · rw [if_neg (by omega), (show tL _ 3209 0 = 150 from hL3 3209 rfl), gd_nt _ (by omega) (by omega), nt_cl (by omega), nxt_e, nt_succ]
    · rw [A_uA, m1_s]
      by_cases e : l = k
      · rw [e, m1_s]
      · rw [m1_n e]; exact k3 l (by omega)
theorem ft_eqM (hL : Ilen t) (hB : Mbody nB t) (hS : Mspan nB nS t) (hp : p < nB) (hd : d ≤ 2999) (hday : tI t 1301 0 = nt d) :
    ∃ t2, F_X13_findTaught t (nt p) = some t2 ∧ frm (ks [3325, 3326]) t t2 ∧ ∀ c, c < nB → tA t2 3325 0 c = nt (tch t nS p d c) := by
  have hnB := hB.1
  have h600 := hS.1
  have hlen := dl_len t p nS
  have h2 : ∀ t1, frm (ks [3325, 3326]) t t1 → (∀ c, c < nB → tA t1 3325 0 c = 0) → ∃ t2, B_X13_findTaught_23 t1 (nt p) = some t2 ∧ frm (ks [3325, 3326]) t t2 ∧ ∀ c, c < nB → tA t2 3325 0 c = nt (tch t nS p d c) := by
    intro t1 hf1 hz1
    unfold B_X13_findTaught_23
    rw [(hf1.1 1316 rfl).2.1, hS.2.1]
    obtain ⟨N, hN⟩ : ∃ N : Nat, N = 10000 := ⟨_, rfl⟩
    rw [← hN]
    refine loop_wh (B := fun fu (a : TS × Nat × List Nat) => B_X13_findTaught_32 fu a.1 (nt p) (nt a.2.2.length) (nt a.2.1 - 1)) (mu := fun a => a.2.1) (G := fun o => ∃ t2, o = some t2 ∧ frm (ks [3325, 3326]) t t2 ∧ ∀ c, c < nB → tA t2 3325 0 c = nt (tch t nS p d c))
      (P := fun a => a.2.1 ≤ nS ∧ frm (ks [3325, 3326]) t a.1 ∧ (∀ c, c < nB → tA a.1 3325 0 c = 0) ∧ a.2.2 ++ dl t p a.2.1 = dl t p nS ∧ ∀ j, j < a.2.2.length → tA a.1 3326 0 j = nt (a.2.2.getD j 0)) ?_ N (t1, nS, []) ⟨Nat.le_refl _, hf1, hz1, rfl, fun j hj => by cases hj⟩ (by show nS < N; omega)
    rintro fu ⟨t3, m, L⟩ ⟨k1, k2, k3, k4, k5⟩
    dsimp only at k1 k2 k3 k4 k5
    have hL3 : Ilen t3 := Ilen_f k2 hL
    show (∃ t2, BB_X13_findTaught_32 (B_X13_findTaught_32 fu) t3 (nt p) (nt L.length) (nt m - 1) = _ ∧ _) ∨ ∃ a', BB_X13_findTaught_32 (B_X13_findTaught_32 fu) t3 (nt p) (nt L.length) (nt m - 1) = _ ∧ _
    unfold BB_X13_findTaught_32
    cases m with
    | zero =>
      left
      have e1 : L = dl t p nS := by rw [← k4]; exact (List.append_nil L).symm
      subst e1
      have e5 : tA t3 3312 0 p = tA t 3312 0 p := by rw [(k2.1 3312 rfl).2.2.2.2.1]
      have e6 : tI t3 1301 0 = nt d := by rw [(k2.1 1301 rfl).2.1, hday]
      obtain ⟨q1, q2, q3⟩ := last_eqM hB hp hd
      obtain ⟨r1, r2, r3, r4, r5⟩ := last_bdM hB hp hd
      rw [if_pos (show nt 0 - 1 < 0 by decide)]
      have key : B_X13_findTaught_65 t3 (nt p) (nt (dl t p nS).length) = B_X13_findTaught_138 10000 t3 (nt (dl t p nS).length) (it (lastZ t p d)) (it (D0 t p)) := by
        have h103 : ∀ v, B_X13_findTaught_103 t3 (nt p) (nt (dl t p nS).length) v = B_X13_findTaught_138 10000 t3 (nt (dl t p nS).length) v (it (D0 t p)) := by
          intro v
          unfold B_X13_findTaught_103 B_X13_findTaught_136
          rw [(show tL _ 3312 0 = 150 from hL3 3312 rfl), gd_nt _ (by omega) (by omega), gd_nt _ (by omega) (by omega), nt_cl (by omega), e5, q2, if_pos]
          rw [show (-9999 : Int32) = it (-9999) by decide]
          exact (it_le (by omega) (by omega) (by omega) (by omega)).mpr (by omega)
        unfold B_X13_findTaught_65
        rw [(show tL _ 3312 0 = 150 from hL3 3312 rfl), gd_nt _ (by omega) (by omega), gd_nt _ (by omega) (by omega), nt_cl (by omega), e5, e6, h103, h103, ← q1]
        by_cases g : tA t 3312 0 p + 6900 - 1 < nt d
        · rw [if_neg (Int32.not_le.mpr g), if_pos g]
        · rw [if_pos (Int32.not_lt.mp g), if_neg g]
      rw [key]
      exact ft_loopM hL hB hS hp hd k2 k3 k5
    | succ m =>
      right
      have hll : L.length ≤ nS := by
        have : (L ++ dl t p (m + 1)).length ≤ nS := by rw [k4]; exact hlen
        rw [List.length_append] at this
        omega
      rw [nt_pred, if_neg (nt_neg (by omega)), (show tL _ 3317 0 = 600 from hL3 3317 rfl), (show tL _ 3326 0 = 600 from hL3 3326 rfl), gd_nt _ (by omega) (by omega), nt_cl (by omega), (k2.1 3317 rfl).2.2.2.2.1]
      have hdl : dl t p (m + 1) = if pS t p m then m :: dl t p m else dl t p m := rfl
      rw [hdl] at k4
      unfold pS at k4
      by_cases e : tA t 3317 0 m = nt p
      · rw [if_pos (decide_eq_true e)] at k4
        have hl2 : L.length < nS := by
          have : (L ++ m :: dl t p m).length ≤ nS := by rw [k4]; exact hlen
          rw [List.length_append, List.length_cons] at this
          omega
        refine ⟨(uA t3 3326 0 L.length (nt m), m, L ++ [m]), ?_, ⟨by show m ≤ nS; omega, frm_tr k2 (frm_uA rfl), fun c hc => ?_, ?_, fun j hj => ?_⟩, by show m < m + 1; omega⟩
        · rw [if_pos e, gd_nt _ (by omega) (by omega), nt_cl (by omega), nxt_e, nt_succ, B_X13_findTaught_59, ← Int32.sub_eq_add_neg]
          show _ = B_X13_findTaught_32 fu _ _ (nt (L ++ [m]).length) _
          rw [List.length_append]
          rfl
        · rw [A_uA_n (by decide)]; exact k3 c hc
        · rw [← k4, List.append_assoc]; rfl
        · dsimp only at hj ⊢
          rw [A_uA, m1_s]
          rw [List.length_append, List.length_singleton] at hj
          by_cases g : j = L.length
          · subst g
            rw [m1_s, List.getD_eq_getElem?_getD, List.getElem?_append_right (Nat.le_refl _), Nat.sub_self]
            rfl
          · rw [m1_n g, List.getD_eq_getElem?_getD, List.getElem?_append_left (by omega), ← List.getD_eq_getElem?_getD]
            exact k5 j (by omega)
      · rw [if_neg (fun q => e (of_decide_eq_true q))] at k4
        refine ⟨(t3, m, L), ?_, ⟨by show m ≤ nS; omega, k2, k3, k4, k5⟩, by show m < m + 1; omega⟩
        rw [if_neg e, B_X13_findTaught_59, ← Int32.sub_eq_add_neg]
  unfold F_X13_findTaught
  obtain ⟨N, hN⟩ : ∃ N : Nat, N = 10000 := ⟨_, rfl⟩
  rw [← hN]
  refine loop_wh (B := fun fu (a : TS × Nat) => B_X13_findTaught_2 fu a.1 (nt p) (nt a.2)) (mu := fun a => nB - a.2) (G := fun o => ∃ t2, o = some t2 ∧ frm (ks [3325, 3326]) t t2 ∧ ∀ c, c < nB → tA t2 3325 0 c = nt (tch t nS p d c))
    (P := fun a => a.2 ≤ nB ∧ frm (ks [3325, 3326]) t a.1 ∧ ∀ c, c < a.2 → tA a.1 3325 0 c = 0) ?_ N (t, 0) ⟨Nat.zero_le _, frm_rf, fun l hl => by cases hl⟩ (by show nB - 0 < N; omega)
  rintro fu ⟨t3, k⟩ ⟨k1, k2, k3⟩
  dsimp only at k1 k2 k3
  have hL3 : Ilen t3 := Ilen_f k2 hL
  show (∃ t2, BB_X13_findTaught_2 (B_X13_findTaught_2 fu) t3 (nt p) (nt k) = _ ∧ _) ∨ ∃ a', BB_X13_findTaught_2 (B_X13_findTaught_2 fu) t3 (nt p) (nt k) = _ ∧ _
  unfold BB_X13_findTaught_2
  rw [(k2.1 1307 rfl).2.1, hB.2.1, igE (by omega) (by omega)]
  by_cases hk : k = nB
  · left
    rw [if_pos (by omega)]
    exact h2 t3 k2 (fun c hc => k3 c (by omega))
  · right
    refine ⟨(uA t3 3325 0 k 0, k + 1), ?_, ⟨by show k + 1 ≤ nB; omega, frm_tr k2 (frm_uA rfl), fun l hl => ?_⟩, by show nB - (k + 1) < nB - k; omega⟩
    · rw [if_neg (by omega), (show tL _ 3325 0 = 150 from hL3 3325 rfl), gd_nt _ (by omega) (by omega), nt_cl (by omega), nxt_e, nt_succ]
    · rw [A_uA, m1_s]
      by_cases e : l = k
      · rw [e, m1_s]
      · rw [m1_n e]; exact k3 l (by omega)
theorem ft_eq (hL : Ilen t) (hB : Ibody nB t) (hS : Ispan nB nS nM t) (hp : p < nB) (hd : d ≤ 2999) (hday : tI t 1301 0 = nt d) :
    ∃ t2, F_X13_findTaught t (nt p) = some t2 ∧ frm (ks [3325, 3326]) t t2 ∧ ∀ c, c < nB → tA t2 3325 0 c = nt (tch t nS p d c) := ft_eqM hL (IbM hB) (IsM hS) hp hd hday
end
