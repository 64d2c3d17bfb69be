/-! PART 65: moves undone. -/
section
variable {t : TS} {nB nS nM m : Nat}
theorem shareOf_eq (hsh : Ishare nB m t) (h150 : nB ≤ 150) {c : Nat} (hc : c < nB) : F_X6_shareOf t m (nt c) = some (tA t 3347 0 (150 * m + c)) := by
  unfold F_X6_shareOf
  rcases hsh with ⟨q1, q2⟩ | ⟨q1, q2, q3, q4⟩
  · simp only [nxt_e, oc_s, oc_n, ob_s, ob2_s, gb_b1, gb_0, gb_1, gw0, gw1, q1]
    rw [q2 c (by omega)]
  · simp only [nxt_e, oc_s, oc_n, ob_s, ob2_s, gb_b1, gb_0, gb_1, gw0, gw1, q1, win_eq]
    have e1 : (Int32.ofNat (tL t 2614 m) - 1 : Int32) = nt (tL t 2614 m) - 1 := rfl
    rw [e1, dix (by omega)]
    by_cases g : c < tL t 2614 m
    · rw [ix_nt g (by omega), isS_s, if_pos rfl, gd_nt _ (by omega) (by omega), nt_cl (by omega), q3 c g]
    · have : ix (tL t 2614 m) (nt c) = none := by
        cases h : ix (tL t 2614 m) (nt c) with
        | none => rfl
        | some j =>
          obtain ⟨j1, j2⟩ := ix_some h
          rw [eq_nt (by omega) (by omega)] at j2
          omega
      rw [this, isS_n, if_neg (by decide)]
      exact congrArg some (q4 c (by omega) (by omega)).symm
def backA (b s : Nat) (kt : Option Nat) (fee kp sh : Int32) (f : Nat → Int32) : Nat → Int32 :=
  let f1 := mm_u1 f b (f b + fee)
  let f2 := mm_u1 f1 s (f1 s - (fee - kp - sh))
  oel kt f2 (fun q => mm_u1 f2 q (f2 q - kp))
def backL (g : Nat → Int32) (f : Nat → Int32) (k i : Nat) : Int32 := if i < k then f i - g i else f i
theorem backL_s {g f : Nat → Int32} {k : Nat} : mm_u1 (backL g f k) k (backL g f k k - g k) = backL g f (k + 1) := by
  funext i
  unfold backL
  by_cases e : i = k
  · subst e; rw [m1_s, if_neg (Nat.lt_irrefl _), if_pos (Nat.lt_succ_self _)]
  · rw [m1_n e]
    by_cases e2 : i < k
    · rw [if_pos e2, if_pos (by omega)]
    · rw [if_neg e2, if_neg (by omega)]
theorem backL_0 {g f : Nat → Int32} : backL g f 0 = f := funext fun i => if_neg (Nat.not_lt_zero i)
theorem u1_c {f g : Nat → Int32} {a : Nat} {v w : Int32} (h : ∀ i, i < nB → f i = g i) (hv : v = w) : ∀ i, i < nB → mm_u1 f a v i = mm_u1 g a w i := fun i hi => by
  by_cases e : i = a
  · subst e; rw [m1_s, m1_s, hv]
  · rw [m1_n e, m1_n e, h i hi]
theorem backA_c {b s : Nat} {kt : Option Nat} {fee kp sh : Int32} {f g : Nat → Int32} (h : ∀ i, i < nB → f i = g i) (hb : b < nB) (hs : s < nB) (hk : ∀ q, kt = some q → q < nB) : ∀ i, i < nB → backA b s kt fee kp sh f i = backA b s kt fee kp sh g i := by
  have h1 := u1_c (a := b) h (by rw [h b hb] : f b + fee = g b + fee)
  have h2 := u1_c (a := s) h1 (by rw [h1 s hs] : mm_u1 f b (f b + fee) s - (fee - kp - sh) = mm_u1 g b (g b + fee) s - (fee - kp - sh))
  unfold backA
  cases kt with
  | none => exact h2
  | some q => exact u1_c (a := q) h2 (by rw [h2 q (hk q rfl)])
theorem backA_o {b s i : Nat} {kt : Option Nat} {fee kp sh : Int32} {f : Nat → Int32} (hi : nB ≤ i) (hb : b < nB) (hs : s < nB) (hk : ∀ q, kt = some q → q < nB) : backA b s kt fee kp sh f i = f i := by
  unfold backA
  cases kt with
  | none => rw [oel_n, m1_n (by omega), m1_n (by omega)]
  | some q =>
    have := hk q rfl
    rw [oel_s, m1_n (by omega), m1_n (by omega), m1_n (by omega)]
theorem payBack_loop {g : Nat → Int32} (hL : Ilen t) (hB : Ibody nB t) (hsh : ∀ c, c < nB → ∀ u, frm (ks [103]) t u → F_X6_shareOf u m (nt c) = some (g c)) : ∃ u, B_X12_payBack_67 10000 t m 0 = some u ∧ frm (ks [103]) t u ∧ tI u 103 = backL g (tI t 103) nB := by
  have h150 := hB.1
  obtain ⟨N, hN⟩ : ∃ N : Nat, N = 10000 := ⟨_, rfl⟩
  rw [← hN]
  refine loop_wh (B := fun fu (a : Nat × TS) => B_X12_payBack_67 fu a.2 m (nt a.1)) (mu := fun a => nB - a.1) (G := fun o => ∃ u, o = some u ∧ frm (ks [103]) t u ∧ tI u 103 = backL g (tI t 103) nB) (P := fun a => a.1 ≤ nB ∧ frm (ks [103]) t a.2 ∧ tI a.2 103 = backL g (tI t 103) a.1) ?_ N (0, t) ⟨Nat.zero_le _, frm_rf, backL_0.symm⟩ (by show nB - 0 < N; omega)
  intro fu a ha
  obtain ⟨k, u⟩ := a
  have hk : k ≤ nB := ha.1
  have h : frm (ks [103]) t u := ha.2.1
  have hf : tI u 103 = backL g (tI t 103) k := ha.2.2
  show (∃ u', BB_X12_payBack_67 (B_X12_payBack_67 fu) u m (nt k) = _ ∧ _) ∨ ∃ a', BB_X12_payBack_67 (B_X12_payBack_67 fu) u m (nt k) = _ ∧ _
  have hL1 : Ilen u := Ilen_f h hL
  have i1204 : tI u 1204 0 = nt nB := by rw [(h.1 1204 rfl).2.1, hB.2.1]
  unfold BB_X12_payBack_67
  rw [i1204, igE (by omega) (by omega)]
  by_cases e : k = nB
  · left
    subst e
    exact ⟨u, if_pos (Nat.le_refl _), h, hf⟩
  · right
    have hk1 : k < nB := by omega
    have q3203 : tQ u 3203 0 k = some k := by rw [(h.1 3203 rfl).2.2.2.2.2.2, (hB.2.2.2.1 k hk1).1]
    refine ⟨(k + 1, uI u 103 k (tI u 103 k - g k)), ?_, ⟨by show k + 1 ≤ nB; omega, frm_tr h (frm_uI rfl), ?_⟩, by show nB - (k + 1) < nB - k; omega⟩
    · rw [if_neg (by omega), (show tL _ 3203 0 = 150 from hL1 3203 rfl), gd_nt _ (by omega) (by omega), nt_cl (by omega), nxt_e, q3203, oc_s, hsh k hk1 u h, ob_s, nxt_e, nt_succ]
    · show tI (uI u 103 k (tI u 103 k - g k)) 103 = _
      rw [I_uI, hf, backL_s]
theorem payBack_eq {b s : Nat} {kt : Option Nat} {fee kp sh : Int32} {g : Nat → Int32} (hL : Ilen t) (hB : Ibody nB t) (h1 : tR t 603 m = some b) (h2 : tR t 602 m = some s) (h3 : tR t 612 m = kt) (h4 : tI t 604 m = fee) (h5 : tI t 611 m = kp) (h6 : tI t 613 m = sh) (hsh : ∀ c, c < nB → ∀ u, frm (ks [103]) t u → F_X6_shareOf u m (nt c) = some (g c)) : ∃ u, F_X12_payBack t (some m) = some u ∧ frm (ks [103]) t u ∧ tI u 103 = backL g (backA b s kt fee kp sh (tI t 103)) nB := by
  unfold F_X12_payBack B_X12_payBack_65
  simp (disch := omega) only [nxt_e, oc_s, oc_n, ob_s, ob2_s, gb_b1, gb_0, gb_1, gw0, gw1, I_uI, I_uI_n, R_uR, R_uR_n, A_uA, A_uA_n, J_uJ, J_uJ_n, Q_uQ, Q_uQ_n, E_uO, E_uO_n, I_uO, I_uO_n, R_uO, R_uO_n, E_uN, E_uN_n, L_uN, L_uN_n, A_uN, A_uN_n, J_uN, J_uN_n, Q_uN, Q_uN_n, A_uCA, A_uCA_n, J_uCJ, J_uCJ_n, E_uI, R_uI, L_uI, A_uI, J_uI, Q_uI, E_uR, I_uR, L_uR, A_uR, J_uR, Q_uR, E_uA, I_uA, R_uA, L_uA, J_uA, Q_uA, E_uJ, I_uJ, R_uJ, L_uJ, A_uJ, Q_uJ, E_uQ, I_uQ, R_uQ, L_uQ, A_uQ, J_uQ, L_uO, A_uO, J_uO, Q_uO, I_uN, R_uN, E_uCA, I_uCA, R_uCA, L_uCA, J_uCA, Q_uCA, E_uCJ, I_uCJ, R_uCJ, L_uCJ, A_uCJ, Q_uCJ, m1_s, h1, h2, h3, h4, h5, h6]
  have key : ∀ v : TS, frm (ks [103]) t v → tI v 103 = backA b s kt fee kp sh (tI t 103) → ∃ u, B_X12_payBack_67 10000 v m 0 = some u ∧ frm (ks [103]) t u ∧ tI u 103 = backL g (backA b s kt fee kp sh (tI t 103)) nB := by
    intro v hv hf
    obtain ⟨u, k1, k2, k3⟩ := payBack_loop (Ilen_f hv hL) (Ibody_f hv (by decide) hB) (fun c hc u hu => hsh c hc u (frm_tr hv hu))
    exact ⟨u, k1, frm_tr hv k2, by rw [k3, hf]⟩
  cases kt with
  | none =>
    rw [oc_n]
    refine key _ (frm_tr (frm_uI rfl) (frm_uI rfl)) ?_
    simp (disch := omega) only [I_uI, I_uI_n, R_uR, R_uR_n, A_uA, A_uA_n, J_uJ, J_uJ_n, Q_uQ, Q_uQ_n, E_uO, E_uO_n, I_uO, I_uO_n, R_uO, R_uO_n, E_uN, E_uN_n, L_uN, L_uN_n, A_uN, A_uN_n, J_uN, J_uN_n, Q_uN, Q_uN_n, A_uCA, A_uCA_n, J_uCJ, J_uCJ_n, E_uI, R_uI, L_uI, A_uI, J_uI, Q_uI, E_uR, I_uR, L_uR, A_uR, J_uR, Q_uR, E_uA, I_uA, R_uA, L_uA, J_uA, Q_uA, E_uJ, I_uJ, R_uJ, L_uJ, A_uJ, Q_uJ, E_uQ, I_uQ, R_uQ, L_uQ, A_uQ, J_uQ, L_uO, A_uO, J_uO, Q_uO, I_uN, R_uN, E_uCA, I_uCA, R_uCA, L_uCA, J_uCA, Q_uCA, E_uCJ, I_uCJ, R_uCJ, L_uCJ, A_uCJ, Q_uCJ, m1_s]
    rfl
  | some q =>
    rw [oc_s]
    simp (disch := omega) only [nxt_e, oc_s, oc_n, ob_s, ob2_s, gb_b1, gb_0, gb_1, gw0, gw1]
    refine key _ (frm_tr (frm_uI rfl) (frm_tr (frm_uI rfl) (frm_uI rfl))) ?_
    simp (disch := omega) only [I_uI, I_uI_n, R_uR, R_uR_n, A_uA, A_uA_n, J_uJ, J_uJ_n, Q_uQ, Q_uQ_n, E_uO, E_uO_n, I_uO, I_uO_n, R_uO, R_uO_n, E_uN, E_uN_n, L_uN, L_uN_n, A_uN, A_uN_n, J_uN, J_uN_n, Q_uN, Q_uN_n, A_uCA, A_uCA_n, J_uCJ, J_uCJ_n, E_uI, R_uI, L_uI, A_uI, J_uI, Q_uI, E_uR, I_uR, L_uR, A_uR, J_uR, Q_uR, E_uA, I_uA, R_uA, L_uA, J_uA, Q_uA, E_uJ, I_uJ, R_uJ, L_uJ, A_uJ, Q_uJ, E_uQ, I_uQ, R_uQ, L_uQ, A_uQ, J_uQ, L_uO, A_uO, J_uO, Q_uO, I_uN, R_uN, E_uCA, I_uCA, R_uCA, L_uCA, J_uCA, Q_uCA, E_uCJ, I_uCJ, R_uCJ, L_uCJ, A_uCJ, Q_uCJ, m1_s]
    rfl
/-- the model's way back -/
theorem X13_back_loop (hL : Ilen t) (h150 : nB ≤ 150) (h13 : tI t 1307 0 = nt nB) (hm : m < 200) : ∃ u, B_X13_undo_176 10000 t (nt m) 0 = some (1, u) ∧ frm (ks [3310]) t u ∧ tA u 3310 0 = backL (fun c => tA t 3347 0 (150 * m + c)) (tA t 3310 0) nB := by
  obtain ⟨N, hN⟩ : ∃ N : Nat, N = 10000 := ⟨_, rfl⟩
  rw [← hN]
  refine loop_wh (B := fun fu (a : Nat × TS) => B_X13_undo_176 fu a.2 (nt m) (nt a.1)) (mu := fun a => nB - a.1) (G := fun o => ∃ u, o = some (1, u) ∧ frm (ks [3310]) t u ∧ tA u 3310 0 = backL (fun c => tA t 3347 0 (150 * m + c)) (tA t 3310 0) nB) (P := fun a => a.1 ≤ nB ∧ frm (ks [3310]) t a.2 ∧ tA a.2 3310 0 = backL (fun c => tA t 3347 0 (150 * m + c)) (tA t 3310 0) a.1) ?_ N (0, t) ⟨Nat.zero_le _, frm_rf, backL_0.symm⟩ (by show nB - 0 < N; omega)
  intro fu a ha
  obtain ⟨k, u⟩ := a
  have hk : k ≤ nB := ha.1
  have h : frm (ks [3310]) t u := ha.2.1
  have hf : tA u 3310 0 = backL (fun c => tA t 3347 0 (150 * m + c)) (tA t 3310 0) k := ha.2.2
  show (∃ u', BB_X13_undo_176 (B_X13_undo_176 fu) u (nt m) (nt k) = _ ∧ _) ∨ ∃ a', BB_X13_undo_176 (B_X13_undo_176 fu) u (nt m) (nt k) = _ ∧ _
  have hL1 : Ilen u := Ilen_f h hL
  have i1307 : tI u 1307 0 = nt nB := by rw [(h.1 1307 rfl).2.1, h13]
  have a3347 : tA u 3347 = tA t 3347 := (h.1 3347 rfl).2.2.2.2.1
  have e0 : (150 : Int32) * nt m + nt k = nt (150 * m + k) := by rw [show (150 : Int32) = nt 150 from rfl, nt_mul, nt_add]
  unfold BB_X13_undo_176
  rw [i1307, igE (by omega) (by omega)]
  by_cases e : k = nB
  · left
    subst e
    exact ⟨u, if_pos (Nat.le_refl _), h, hf⟩
  · right
    refine ⟨(k + 1, uA u 3310 0 k (tA u 3310 0 k - tA t 3347 0 (150 * m + k))), ?_, ⟨by show k + 1 ≤ nB; omega, frm_tr h (frm_uA rfl), ?_⟩, by show nB - (k + 1) < nB - k; omega⟩
    · rw [if_neg (by omega), e0, (show tL _ 3310 0 = 150 from hL1 3310 rfl), (show tL _ 3347 0 = 30000 from hL1 3347 rfl)]
      simp (disch := omega) only [gd_nt, nt_cl, nxt_e, nt_succ, a3347]
    · show tA (uA u 3310 0 k (tA u 3310 0 k - tA t 3347 0 (150 * m + k))) 3310 0 = _
      rw [A_uA, m1_s, hf]
      exact backL_s
end
