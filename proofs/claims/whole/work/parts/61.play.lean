/-! PART 61: matches told. -/
section
variable {t : TS} {nB nS nM : Nat}
/-- a move that is told a player's matches at a club -/
def qual (t : TS) (p c m : Nat) : Bool := decide (tA t 3328 0 m = nt p ∧ tA t 3330 0 m = nt c ∧ tA t 3333 0 m = 0 ∧ tA t 3334 0 m = 0)
theorem qual_e {p c m : Nat} : (qual t p c m = true) = (tA t 3328 0 m = nt p ∧ tA t 3330 0 m = nt c ∧ tA t 3333 0 m = 0 ∧ tA t 3334 0 m = 0) := decide_eq_true_eq
def payB (t : TS) (p c : Nat) (n : Int32) (m : Nat) : Bool := decide (qual t p c m = true ∧ ¬ tA t 3337 0 m = 0 ∧ ¬ 0 < tA t 3345 0 m ∧ tA t 3338 0 m ≤ tA t 3346 0 m + n)
theorem payB_e {p c m : Nat} {n : Int32} : (payB t p c n m = true) = (qual t p c m = true ∧ ¬ tA t 3337 0 m = 0 ∧ ¬ 0 < tA t 3345 0 m ∧ tA t 3338 0 m ≤ tA t 3346 0 m + n) := decide_eq_true_eq
def told (t : TS) (p c : Nat) (n : Int32) (k m : Nat) : Int32 := if m < k ∧ qual t p c m then tA t 3346 0 m + n else tA t 3346 0 m
def paidB (t : TS) (p c : Nat) (n : Int32) (k m : Nat) : Int32 := if m < k ∧ payB t p c n m then tA t 3337 0 m else tA t 3345 0 m
def moveC (f : Nat → Int32) (a b : Nat) (v : Int32) : Nat → Int32 := mm_u1 (mm_u1 f a (f a - v)) b (mm_u1 f a (f a - v) b + v)
def coinD (t : TS) (p c : Nat) (n : Int32) (f : Nat → Int32) : Nat → Nat → Int32
  | 0 => f
  | k + 1 => if payB t p c n k then moveC (coinD t p c n f k) (tA t 3330 0 k).toNatClampNeg (tA t 3329 0 k).toNatClampNeg (tA t 3337 0 k) else coinD t p c n f k
theorem told_s {p c k m : Nat} {n : Int32} : told t p c n (k + 1) m = if m = k then (if qual t p c k then tA t 3346 0 k + n else tA t 3346 0 k) else told t p c n k m := by
  unfold told
  by_cases e : m = k
  · subst e; simp
  · rw [if_neg e]
    have : (m < k + 1) = (m < k) := propext ⟨fun _ => by omega, fun _ => by omega⟩
    simp only [this]
theorem paid_s {p c k m : Nat} {n : Int32} : paidB t p c n (k + 1) m = if m = k then (if payB t p c n k then tA t 3337 0 k else tA t 3345 0 k) else paidB t p c n k m := by
  unfold paidB
  by_cases e : m = k
  · subst e; simp
  · rw [if_neg e]
    have : (m < k + 1) = (m < k) := propext ⟨fun _ => by omega, fun _ => by omega⟩
    simp only [this]
theorem told_k {p c k : Nat} {n : Int32} : told t p c n k k = tA t 3346 0 k := if_neg (fun h => Nat.lt_irrefl _ h.1)
theorem paid_k {p c k : Nat} {n : Int32} : paidB t p c n k k = tA t 3345 0 k := if_neg (fun h => Nat.lt_irrefl _ h.1)
/-- the class's moves, after k of them -/
def cPl (t : TS) (p c nM : Nat) (n : Int32) (k : Nat) (u : TS) : Prop := frm (ks [103, 618, 619]) t u ∧ tI u 103 = coinD t p c n (tI t 103) k ∧ (∀ m, m < nM → tI u 618 m = told t p c n k m) ∧ ∀ m, m < nM → tI u 619 m = paidB t p c n k m
theorem cPl_no {p c k : Nat} {n : Int32} {u : TS} (h : cPl t p c nM n k u) (hq : ¬ qual t p c k = true) : cPl t p c nM n (k + 1) u := by
  have hp : ¬ payB t p c n k = true := fun g => hq (payB_e ▸ g).1
  refine ⟨h.1, ?_, fun m hm => ?_, fun m hm => ?_⟩
  · rw [h.2.1]; show _ = if payB t p c n k then _ else _; rw [if_neg hp]
  · rw [told_s]
    by_cases e : m = k
    · subst e; rw [if_pos rfl, if_neg hq, h.2.2.1 m hm, told_k]
    · rw [if_neg e, h.2.2.1 m hm]
  · rw [paid_s]
    by_cases e : m = k
    · subst e; rw [if_pos rfl, if_neg hp, h.2.2.2 m hm, paid_k]
    · rw [if_neg e, h.2.2.2 m hm]
theorem cm_step {p c k : Nat} {n : Int32} {u : TS} (h150 : nB ≤ 150) (hM : Imove nB nS nM t) (h : cPl t p c nM n k u) (hk : k < nM) (h1 : tA t 3328 0 k = nt p) (h2 : tA t 3330 0 k = nt c) : ∃ u', F_X6_countMatches u k n = some u' ∧ cPl t p c nM n (k + 1) u' := by
  obtain ⟨-, -, -, -, ⟨s, s1, -, s3, s4⟩, ⟨b, b1_, -, b3, b4⟩, -, ⟨l1, l2⟩, -, -, ⟨u1, u2⟩, -, -, -, -, -, -, -, -, ⟨bo, bo1, bo2, bo3⟩, nd, mt, ⟨pd, pd1, pd2, pd3⟩⟩ := hM.2.2.2.1 k hk
  have i605 : tI u 605 k = tA t 3333 0 k := by rw [(h.1.1 605 rfl).2.1, l1]
  have i608 : tI u 608 k = tA t 3334 0 k := by rw [(h.1.1 608 rfl).2.1, u1]
  have i616 : tI u 616 k = nt bo := by rw [(h.1.1 616 rfl).2.1, bo2]
  have i617 : tI u 617 k = tI t 617 k := by rw [(h.1.1 617 rfl).2.1]
  have i618 : tI u 618 k = tA t 3346 0 k := by rw [h.2.2.1 k hk, told_k]
  have i619 : tI u 619 k = nt pd := by rw [h.2.2.2 k hk, paid_k, pd3]
  have r602 : tR u 602 k = some s := by rw [(h.1.1 602 rfl).2.2.1, s3]
  have r603 : tR u 603 k = some b := by rw [(h.1.1 603 rfl).2.2.1, b3]
  unfold F_X6_countMatches
  rw [i605, i608]
  by_cases g1 : tA t 3333 0 k = 0
  case neg => exact ⟨u, if_pos g1, cPl_no h (fun q => g1 (qual_e ▸ q).2.2.1)⟩
  by_cases g2 : tA t 3334 0 k = 0
  case neg => exact ⟨u, by rw [if_neg (fun q => q g1), if_neg g2], cPl_no h (fun q => g2 (qual_e ▸ q).2.2.2)⟩
  have hq : qual t p c k = true := by rw [qual_e]; exact ⟨h1, h2, g1, g2⟩
  rw [if_neg (fun q => q g1), if_pos g2, nxt_e, i618]
  have a616 : tI (uI u 618 k (tA t 3346 0 k + n)) 616 k = nt bo := by simp (disch := omega) only [I_uI, I_uI_n, A_uA, A_uA_n, E_uI, R_uI, L_uI, A_uI, J_uI, Q_uI, E_uA, I_uA, R_uA, L_uA, J_uA, Q_uA, m1_s]; exact i616
  have a619 : tI (uI u 618 k (tA t 3346 0 k + n)) 619 k = nt pd := by simp (disch := omega) only [I_uI, I_uI_n, A_uA, A_uA_n, E_uI, R_uI, L_uI, A_uI, J_uI, Q_uI, E_uA, I_uA, R_uA, L_uA, J_uA, Q_uA, m1_s]; exact i619
  have a618 : tI (uI u 618 k (tA t 3346 0 k + n)) 618 k = tA t 3346 0 k + n := by simp (disch := omega) only [I_uI, I_uI_n, A_uA, A_uA_n, E_uI, R_uI, L_uI, A_uI, J_uI, Q_uI, E_uA, I_uA, R_uA, L_uA, J_uA, Q_uA, m1_s]
  have a617 : tI (uI u 618 k (tA t 3346 0 k + n)) 617 k = tI t 617 k := by simp (disch := omega) only [I_uI, I_uI_n, A_uA, A_uA_n, E_uI, R_uI, L_uI, A_uI, J_uI, Q_uI, E_uA, I_uA, R_uA, L_uA, J_uA, Q_uA, m1_s]; exact i617
  have hbo : (nt bo ≤ (0 : Int32)) = (bo = 0) := by
    rw [show (0 : Int32) = nt 0 from rfl, ge_nt (by omega) (by omega)]
    exact propext ⟨fun q => by omega, fun q => by omega⟩
  have hbo2 : (tA t 3337 0 k = 0) = (bo = 0) := by rw [bo3, show (0 : Int32) = nt 0 from rfl, eq_nt (by omega) (by omega)]
  have hpd : (nt pd = (0 : Int32)) = (pd = 0) := by rw [show (0 : Int32) = nt 0 from rfl, eq_nt (by omega) (by omega)]
  have hpd2 : (0 < tA t 3345 0 k) = (0 < pd) := by rw [pd3, show (0 : Int32) = nt 0 from rfl, lt_nt (by omega) (by omega)]
  have hfr : frm (ks [103, 618, 619]) t (uI u 618 k (tA t 3346 0 k + n)) := frm_tr h.1 (frm_uI rfl)
  have hno : ¬ payB t p c n k = true → cPl t p c nM n (k + 1) (uI u 618 k (tA t 3346 0 k + n)) := fun hp => by
    refine ⟨hfr, ?_, fun m hm => ?_, fun m hm => ?_⟩
    · rw [I_uI_n (by decide), h.2.1]; show _ = if payB t p c n k then _ else _; rw [if_neg hp]
    · rw [told_s, I_uI]
      by_cases e : m = k
      · subst e; rw [if_pos rfl, if_pos hq, m1_s]
      · rw [if_neg e, m1_n e, h.2.2.1 m hm]
    · rw [paid_s, I_uI_n (by decide)]
      by_cases e : m = k
      · subst e; rw [if_pos rfl, if_neg hp, h.2.2.2 m hm, paid_k]
      · rw [if_neg e, h.2.2.2 m hm]
  rw [a616, a618, a619, a617]
  simp only [hbo, hpd]
  by_cases g3 : bo = 0
  · exact ⟨_, if_pos g3, hno (fun q => (payB_e ▸ q).2.1 (hbo2 ▸ g3))⟩
  by_cases g4 : pd = 0
  case neg => exact ⟨_, by rw [if_neg g3, if_pos g4], hno (fun q => (payB_e ▸ q).2.2.1 (hpd2 ▸ Nat.pos_of_ne_zero g4))⟩
  have n617 : tI t 617 k = tA t 3338 0 k := nd (fun q => g3 (hbo2 ▸ q))
  rw [if_neg g3, if_neg (fun q => q g4), n617]
  by_cases g5 : tA t 3346 0 k + n < tA t 3338 0 k
  · exact ⟨_, if_pos g5, hno (fun q => Int32.not_lt.mpr (payB_e ▸ q).2.2.2 g5)⟩
  have hp : payB t p c n k = true := by rw [payB_e]; exact ⟨hq, fun q => g3 (hbo2 ▸ q), fun q => by rw [hpd2] at q; omega, Int32.not_lt.mp g5⟩
  rw [if_neg g5]
  refine ⟨uI (uI (uI (uI u 618 k (tA t 3346 0 k + n)) 619 k (nt bo)) 103 b (tI u 103 b - nt bo)) 103 s (mm_u1 (tI u 103) b (tI u 103 b - nt bo) s + nt bo), ?_, ?_⟩
  · simp (disch := omega) only [nxt_e, oc_s, oc_n, ob_s, ob2_s, gb_b1, gb_0, gb_1, gw0, gw1, I_uI, I_uI_n, A_uA, A_uA_n, E_uI, R_uI, L_uI, A_uI, J_uI, Q_uI, E_uA, I_uA, R_uA, L_uA, J_uA, Q_uA, m1_s, r602, r603, i616]
  · refine ⟨frm_tr hfr (frm_tr (frm_uI rfl) (frm_tr (frm_uI rfl) (frm_uI rfl))), ?_, fun m hm => ?_, fun m hm => ?_⟩
    · simp (disch := omega) only [I_uI, I_uI_n, A_uA, A_uA_n, E_uI, R_uI, L_uI, A_uI, J_uI, Q_uI, E_uA, I_uA, R_uA, L_uA, J_uA, Q_uA, m1_s]
      show _ = if payB t p c n k then _ else _
      rw [if_pos hp, s4, b4, bo3, nt_cl (by omega), nt_cl (by omega), ← h.2.1]
      rfl
    · rw [told_s]
      simp (disch := omega) only [I_uI, I_uI_n, A_uA, A_uA_n, E_uI, R_uI, L_uI, A_uI, J_uI, Q_uI, E_uA, I_uA, R_uA, L_uA, J_uA, Q_uA, m1_s]
      by_cases e : m = k
      · subst e; rw [if_pos rfl, if_pos hq, m1_s]
      · rw [if_neg e, m1_n e, h.2.2.1 m hm]
    · rw [paid_s]
      simp (disch := omega) only [I_uI, I_uI_n, A_uA, A_uA_n, E_uI, R_uI, L_uI, A_uI, J_uI, Q_uI, E_uA, I_uA, R_uA, L_uA, J_uA, Q_uA, m1_s]
      by_cases e : m = k
      · subst e; rw [if_pos rfl, if_pos hp, m1_s, bo3]
      · rw [if_neg e, m1_n e, h.2.2.2 m hm]
theorem X12_play_loop {p c sp : Nat} {n : Int32} (hL : Ilen t) (h150 : nB ≤ 150) (hM : Imove nB nS nM t) (hp : p < nB) (hc : c < nB) (hsp : tR t 1101 sp = some c) : ∃ u, B_X12_play_43 10000 t n p sp 0 = B_X12_play_101 u n p sp ∧ cPl t p c nM n nM u := by
  have h200 := hM.1
  obtain ⟨N, hN⟩ : ∃ N : Nat, N = 10000 := ⟨_, rfl⟩
  rw [← hN]
  refine loop_wh (B := fun fu (a : Nat × TS) => B_X12_play_43 fu a.2 n p sp (nt a.1)) (mu := fun a => nM - a.1) (G := fun o => ∃ u, o = B_X12_play_101 u n p sp ∧ cPl t p c nM n nM u) (P := fun a => a.1 ≤ nM ∧ cPl t p c nM n a.1 a.2) ?_ N (0, t) ⟨Nat.zero_le _, frm_rf, rfl, fun m hm => ?_, fun m hm => ?_⟩ (by show nM - 0 < N; omega)
  · intro fu a ha
    obtain ⟨k, u⟩ := a
    have hk : k ≤ nM := ha.1
    have h : cPl t p c nM n k u := ha.2
    show (∃ u', BB_X12_play_43 (B_X12_play_43 fu) u n p sp (nt k) = _ ∧ _) ∨ ∃ a', BB_X12_play_43 (B_X12_play_43 fu) u n p sp (nt k) = _ ∧ _
    have hL1 : Ilen u := Ilen_f h.1 hL
    have i1207 : tI u 1207 0 = nt nM := by rw [(h.1.1 1207 rfl).2.1, hM.2.1]
    unfold BB_X12_play_43 B_X12_play_95
    rw [i1207, igE (by omega) (by omega)]
    by_cases e : k = nM
    · left
      subst e
      exact ⟨u, if_pos (Nat.le_refl _), h⟩
    · right
      have hk1 : k < nM := by omega
      obtain ⟨q1, -, -, ⟨pk, p1, -, p3, p4⟩, -, ⟨b, b1_, -, b3, b4⟩, -⟩ := hM.2.2.2.1 k hk1
      have q3206 : tQ u 3206 0 k = some k := by rw [(h.1.1 3206 rfl).2.2.2.2.2.2, q1]
      have r601 : tR u 601 k = some pk := by rw [(h.1.1 601 rfl).2.2.1, p3]
      have r603 : tR u 603 k = some b := by rw [(h.1.1 603 rfl).2.2.1, b3]
      have r1101 : tR u 1101 sp = some c := by rw [(h.1.1 1101 rfl).2.2.1, hsp]
      simp (disch := omega) only [(show tL _ 3206 0 = 200 from hL1 3206 rfl), gd_nt, nt_cl, nxt_e, oc_s, oc_n, ob_s, ob2_s, gb_b1, gb_0, gb_1, gw0, gw1, q3206, r601, r603, r1101, nt_succ]
      rw [if_neg (by omega)]
      by_cases g1 : pk = p
      case neg =>
        exact ⟨(k + 1, u), by rw [if_neg (fun q => g1 (Option.some.inj q))], ⟨by show k + 1 ≤ nM; omega, cPl_no h (fun q => g1 (by have := (qual_e ▸ q).1; rw [p4, eq_nt (by omega) (by omega)] at this; exact this))⟩, by show nM - (k + 1) < nM - k; omega⟩
      by_cases g2 : b = c
      case neg => exact ⟨(k + 1, u), by rw [if_pos (congrArg some g1), if_neg (fun q => g2 (Option.some.inj q))], ⟨by show k + 1 ≤ nM; omega, cPl_no h (fun q => g2 (by have := (qual_e ▸ q).2.1; rw [b4, eq_nt (by omega) (by omega)] at this; exact this))⟩, by show nM - (k + 1) < nM - k; omega⟩
      · obtain ⟨u', k1, k2⟩ := cm_step h150 hM h hk1 (by rw [p4, g1]) (by rw [b4, g2])
        exact ⟨(k + 1, u'), by rw [if_pos (congrArg some g1), if_pos (congrArg some g2), k1, ob_s], ⟨by show k + 1 ≤ nM; omega, k2⟩, by show nM - (k + 1) < nM - k; omega⟩
  · obtain ⟨-, -, -, -, -, -, -, -, -, -, -, -, -, -, -, -, -, -, -, -, -, mt, -⟩ := hM.2.2.2.1 m hm
    show tI t 618 m = told t p c n 0 m
    rw [mt]; exact (if_neg (fun q => Nat.not_lt_zero _ q.1)).symm
  · obtain ⟨-, -, -, -, -, -, -, -, -, -, -, -, -, -, -, -, -, -, -, -, -, -, ⟨pd, -, pd2, pd3⟩⟩ := hM.2.2.2.1 m hm
    show tI t 619 m = paidB t p c n 0 m
    rw [pd2, ← pd3]; exact (if_neg (fun q => Nat.not_lt_zero _ q.1)).symm
end
