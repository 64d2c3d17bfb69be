/-! PART b7: the class reads a text: operands, loops. -/
section
variable {T : Nat → Nat} {L j : Nat} {V : Nat → Int32}
theorem bt_nt : ∀ c, c < 256 → isD c = true → bt c = nt c := by decide +kernel
theorem cNum : ∀ k m p v (t : TS) fu, m + k = 7 → k < fu → cD t T L j V → tI t 706 0 = nt p → p ≤ L → ∃ u, B_X7_number_4 fu t v (nt m) = some ((pNum (chA T L) k p v).2, u) ∧ frm (ks [706]) t u ∧ tI u 706 0 = nt (pNum (chA T L) k p v).1
  | 0, m, p, v, t, fu, hm, hf, hD, h, hp => by
    obtain ⟨fu, rfl⟩ : ∃ k, fu = k + 1 := ⟨fu - 1, by omega⟩
    have em : m = 7 := by omega
    subst em
    refine ⟨t, ?_, frm_rf, h⟩
    show BB_X7_number_4 (B_X7_number_4 fu) t v (nt 7) = some (v, t)
    unfold BB_X7_number_4
    rw [if_pos (by decide)]
  | k + 1, m, p, v, t, fu, hm, hf, hD, h, hp => by
    obtain ⟨fu, rfl⟩ : ∃ k, fu = k + 1 := ⟨fu - 1, by omega⟩
    have hT : ∀ i, i < L → T i < 256 := fun i hi => (hD.2.2.2.2.1 i hi).2
    have hle := chA_le (T := T) (L := L) hT p
    have hdig : decide ((48 : Int32) ≤ pk (chA T L p) ∧ pk (chA T L p) ≤ 57) = isD (chA T L p) := pk_d _ hle
    unfold pNum
    by_cases c : isD (chA T L p) = true
    · have hpL : p < L := by
        by_cases e : p < L
        · exact e
        · rw [chA_end (by omega)] at c; exact absurd c (by decide)
      have ech : chA T L p = T p := if_pos hpL
      have f1 : frm (ks [706]) t (uI t 706 0 (nt (p + 1))) := frm_uI rfl
      obtain ⟨u, r1, r2, r3⟩ := cNum k (m + 1) (p + 1) (10 * v + nt (chA T L p) - 48) (uI t 706 0 (nt (p + 1))) fu (by omega) (by omega) (cD_f (frm_sb f1 (ks_sb rfl)) hD) (by rw [I_uI, m1_s]) hpL
      obtain ⟨h1, h2, h3, h4, h5, h6⟩ := hD
      obtain ⟨q1, q2⟩ := h5 p hpL
      refine ⟨u, ?_, frm_tr f1 r2, by rw [if_pos c]; exact r3⟩
      rw [if_pos c]
      show BB_X7_number_4 (B_X7_number_4 fu) t v (nt m) = _
      unfold BB_X7_number_4
      rw [ifP (show ((7 : Int32) ≤ nt m) = (7 ≤ m) from ge_nt (n := 7) (by omega) (by omega)), if_neg (show ¬ 7 ≤ m by omega), peek_eq ⟨h1, h2, h3, h4, h5, h6⟩ h hp, ob_s, win_eq, ob_s, gw0, hdig, if_pos c, h2, nxt_e, oc_s, h, gd_nt _ (by omega) (by omega), nt_cl (by omega), nxt_e, nt_succ, nt_succ, q1, bt_nt _ q2 (by rw [← ech]; exact c), ← ech, Int32.mul_comm v 10, r1]
    · refine ⟨t, ?_, frm_rf, by rw [if_neg c]; exact h⟩
      rw [if_neg c]
      show BB_X7_number_4 (B_X7_number_4 fu) t v (nt m) = _
      unfold BB_X7_number_4
      rw [ifP (show ((7 : Int32) ≤ nt m) = (7 ≤ m) from ge_nt (n := 7) (by omega) (by omega)), if_neg (show ¬ 7 ≤ m by omega), peek_eq hD h hp, ob_s, win_eq, ob_s, gw0, hdig, if_neg c]
theorem pNum_0 {ch : Nat → Nat} {p : Nat} (h : isD (ch p) = false) : pNum ch 7 p 0 = (p, 0) := by
  show (if isD (ch p) then pNum ch 6 (p + 1) (10 * 0 + nt (ch p) - 48) else (p, 0)) = (p, 0)
  rw [h, if_neg (by decide)]
theorem pNum_1 {ch : Nat → Nat} (L : Nat) (hch : ∀ p, L ≤ p → ch p = 256) {p : Nat} (h : isD (ch p) = true) : ¬ (pNum ch 7 p 0).1 = p := by
  have hp : p < L := by
    by_cases e : p < L
    · exact e
    · rw [hch p (by omega)] at h; exact absurd h (by decide)
  have e : pNum ch 7 p 0 = pNum ch 6 (p + 1) (10 * 0 + nt (ch p) - 48) := by
    show (if isD (ch p) then pNum ch 6 (p + 1) (10 * 0 + nt (ch p) - 48) else (p, 0)) = _
    rw [if_pos h]
  have := pNum_go (L := L) hch 6 (p + 1) (10 * 0 + nt (ch p) - 48) hp
  rw [e]
  omega
theorem cOpd (g : Nat → TS → Int32 → Option (Int32 × TS)) {rec : Nat → Nat → Bool × Nat × List (Int32 × Int32)} {o : Nat} (hrgo : ∀ p o, p ≤ L → pgo L p (rec p o)) (hg : ¬ o = 8 → ∀ t p m, cD t T L j V → Ilen t → cAt t p m → p ≤ L → ∃ x u, g 0 t (nt (o + 1)) = some (x, u) ∧ cOut t u (chA T L) V m (rec p (o + 1)) x) (ho : o ≤ 8) {t : TS} {p : Nat} {m : Int32} (hL : Ilen t) (hD : cD t T L j V) (hat : cAt t p m) (hp : p ≤ L) : ∃ x u, Fb_X7_operand g t (nt o) = some (x, u) ∧ cOut t u (chA T L) V m (pOpd (chA T L) rec p o) x := by
  have hD0 := hD
  have hat0 := hat
  obtain ⟨hL160, h2, h3, h4, h5, h6⟩ := hD
  obtain ⟨a1, a2, a3⟩ := hat
  have hT : ∀ i, i < L → T i < 256 := fun i hi => (h5 i hi).2
  have hle := chA_le (T := T) (L := L) hT p
  have hend : ∀ p, L ≤ p → chA T L p = 256 := fun p hp => chA_end hp
  unfold Fb_X7_operand
  rw [peek_eq hD0 a1 hp, ob_s, win_eq, ob_s, gw0, pk_d _ hle]
  by_cases cd : isD (chA T L p) = true
  · obtain ⟨d1, d2, d3, d4⟩ := D_no _ hle cd
    rw [if_pos cd]
    unfold F_X7_number pOpd
    obtain ⟨N, hN⟩ : ∃ N : Nat, N = 10000 := ⟨_, rfl⟩
    obtain ⟨u, n1, n2, n3⟩ := cNum (T := T) (L := L) (j := j) (V := V) 7 0 p 0 t N rfl (by omega) hD0 a1 hp
    rw [← hN, d1, if_neg (show ¬ (none : Option Nat).isSome = true by decide), if_neg d2]
    have n1' : B_X7_number_4 N t 0 0 = _ := n1
    rw [n1', ob2_s]
    have hne := pNum_1 L hend cd
    have u707 : tI u 707 0 = -1 := by rw [(n2.1 707 rfl).2.1]; exact a2
    have u703 : tI u 703 0 = m := by rw [(n2.1 703 rfl).2.1]; exact a3
    have fu : frm kCr t u := frm_sb n2 (ks_sb rfl)
    by_cases e2 : isD (chA T L (pNum (chA T L) 7 p 0).1) = true
    · rw [if_pos (Or.inr e2)]
      exact ⟨_, u, rfl, fu, Or.inr ⟨rfl, n3, Or.inr ⟨u707, e2⟩⟩⟩
    · rw [if_neg (fun q => q.elim hne e2)]
      exact ⟨_, u, rfl, fu, Or.inl ⟨rfl, ⟨n3, u707, u703⟩, fun st => rfl⟩⟩
  rw [if_neg cd]
  have cdf : isD (chA T L p) = false := by simpa using cd
  have c40 : (¬ pk (chA T L p) = 40) = ¬ chA T L p = 40 := congrArg Not (propext (pk_sg _ hle 40 (by omega)))
  have c8 : ((8 : Int32) ≤ nt o) = (8 ≤ o) := ge_nt (n := 8) (by omega) (by omega)
  rw [ifP c40, ifP c8]
  have hfail : ∀ r : Bool × Nat × List (Int32 × Int32), r = (false, p, []) → ∃ x u, ob2 (F_X7_fail t) (fun x24 t25 => some (x24, t25)) = some (x, u) ∧ cOut t u (chA T L) V m r x := by
    intro r hr
    subst hr
    rw [fail_eq a1 a2, ob2_s]
    exact ⟨0, _, rfl, frm_uI rfl, Or.inr ⟨rfl, by rw [I_uI_n (by decide)]; exact a1, Or.inl (by rw [I_uI, m1_s])⟩⟩
  have h59 : (∀ k, nameN (chA T L p) = some k → ∃ x u, B_X7_operand_59 g t (pk (chA T L p)) = some (x, u) ∧ cOut t u (chA T L) V m (true, p + 1, [(2, nt k)]) x) ∧ (nameN (chA T L p) = none → ∃ x u, B_X7_operand_59 g t (pk (chA T L p)) = some (x, u) ∧ cOut t u (chA T L) V m (false, p, []) x) := by
    have cn : (0 ≤ pk (chA T L p)) = (chA T L p < 256) := propext (pk_neg _ hle)
    unfold B_X7_operand_59 B_X7_operand_74
    rw [ifP cn]
    constructor
    · intro k hk
      have hk12 := name_lt _ hle k hk
      have hlt : chA T L p < 256 := by
        by_cases e : chA T L p = 256
        · rw [e] at hk; exact absurd (show none = some k from hk) (fun q => by cases q)
        · omega
      rw [if_pos hlt, nameC hlt, ob_s, hk, oel_s, if_pos (nt_nn (by omega)), nxt_e, nxt_e]
      have e706 : tI (uI t 706 0 (tI t 706 0 + 1)) 703 0 = m := by rw [I_uI_n (by decide)]; exact a3
      rw [show tL (uI (uI t 706 0 (tI t 706 0 + 1)) 703 0 (tI (uI t 706 0 (tI t 706 0 + 1)) 703 0 ||| ((1 : Int32) <<< (nt k &&& 31)))) 2702 0 = 12 from hL 2702 rfl, gd_nt _ (by omega) (by omega), nt_cl (by omega)]
      refine ⟨_, _, rfl, frm_tr (frm_uI rfl) (frm_uI rfl), Or.inl ⟨rfl, ⟨?_, ?_, ?_⟩, fun st => ?_⟩⟩
      · simp (disch := omega) only [I_uI, I_uI_n, R_uR, R_uR_n, A_uA, A_uA_n, J_uJ, J_uJ_n, Q_uQ, Q_uQ_n, E_uO, E_uO_n, I_uO, I_uO_n, R_uO, R_uO_n, E_uN, E_uN_n, L_uN, L_uN_n, A_uN, A_uN_n, J_uN, J_uN_n, Q_uN, Q_uN_n, A_uCA, A_uCA_n, J_uCJ, J_uCJ_n, E_uI, R_uI, L_uI, A_uI, J_uI, Q_uI, E_uR, I_uR, L_uR, A_uR, J_uR, Q_uR, E_uA, I_uA, R_uA, L_uA, J_uA, Q_uA, E_uJ, I_uJ, R_uJ, L_uJ, A_uJ, Q_uJ, E_uQ, I_uQ, R_uQ, L_uQ, A_uQ, J_uQ, L_uO, A_uO, J_uO, Q_uO, I_uN, R_uN, E_uCA, I_uCA, R_uCA, L_uCA, J_uCA, Q_uCA, E_uCJ, I_uCJ, R_uCJ, L_uCJ, A_uCJ, Q_uCJ, m1_s]; rw [a1, nt_succ]
      · simp (disch := omega) only [I_uI, I_uI_n, R_uR, R_uR_n, A_uA, A_uA_n, J_uJ, J_uJ_n, Q_uQ, Q_uQ_n, E_uO, E_uO_n, I_uO, I_uO_n, R_uO, R_uO_n, E_uN, E_uN_n, L_uN, L_uN_n, A_uN, A_uN_n, J_uN, J_uN_n, Q_uN, Q_uN_n, A_uCA, A_uCA_n, J_uCJ, J_uCJ_n, E_uI, R_uI, L_uI, A_uI, J_uI, Q_uI, E_uR, I_uR, L_uR, A_uR, J_uR, Q_uR, E_uA, I_uA, R_uA, L_uA, J_uA, Q_uA, E_uJ, I_uJ, R_uJ, L_uJ, A_uJ, Q_uJ, E_uQ, I_uQ, R_uQ, L_uQ, A_uQ, J_uQ, L_uO, A_uO, J_uO, Q_uO, I_uN, R_uN, E_uCA, I_uCA, R_uCA, L_uCA, J_uCA, Q_uCA, E_uCJ, I_uCJ, R_uCJ, L_uCJ, A_uCJ, Q_uCJ, m1_s]; exact a2
      · simp (disch := omega) only [I_uI, I_uI_n, R_uR, R_uR_n, A_uA, A_uA_n, J_uJ, J_uJ_n, Q_uQ, Q_uQ_n, E_uO, E_uO_n, I_uO, I_uO_n, R_uO, R_uO_n, E_uN, E_uN_n, L_uN, L_uN_n, A_uN, A_uN_n, J_uN, J_uN_n, Q_uN, Q_uN_n, A_uCA, A_uCA_n, J_uCJ, J_uCJ_n, E_uI, R_uI, L_uI, A_uI, J_uI, Q_uI, E_uR, I_uR, L_uR, A_uR, J_uR, Q_uR, E_uA, I_uA, R_uA, L_uA, J_uA, Q_uA, E_uJ, I_uJ, R_uJ, L_uJ, A_uJ, Q_uJ, E_uQ, I_uQ, R_uQ, L_uQ, A_uQ, J_uQ, L_uO, A_uO, J_uO, Q_uO, I_uN, R_uN, E_uCA, I_uCA, R_uCA, L_uCA, J_uCA, Q_uCA, E_uCJ, I_uCJ, R_uCJ, L_uCJ, A_uCJ, Q_uCJ, m1_s]; rw [a3]; rfl
      · show VV V (nt k) :: st = tA t 2702 0 k :: st
        unfold VV
        rw [nt_cl (by omega), h6]
    · intro hk
      by_cases hlt : chA T L p < 256
      · rw [if_pos hlt, nameC hlt, ob_s, hk, oel_n, if_neg neg1]
        exact hfail _ rfl
      · rw [if_neg hlt, if_neg neg1]
        exact hfail _ rfl
  unfold pOpd
  have hnum := pNum_0 cdf
  rw [hnum, if_pos (show p = p ∨ isD (chA T L p) = true from Or.inl rfl)]
  by_cases c2 : chA T L p = 40
  case neg =>
    rw [if_pos c2]
    cases hn : nameN (chA T L p) with
    | some k =>
      rw [if_pos (show (some k).isSome = true from rfl), oel_s]
      exact h59.1 k hn
    | none =>
      rw [if_neg (show ¬ (none : Option Nat).isSome = true by decide), if_neg c2]
      exact h59.2 hn
  have hn40 : nameN (chA T L p) = none := by rw [c2]; rfl
  rw [if_neg (fun q => q c2), hn40, if_neg (show ¬ (none : Option Nat).isSome = true by decide), if_pos c2]
  by_cases c3 : o = 8
  · rw [if_pos (by omega), if_pos c3]
    exact h59.2 hn40
  rw [if_neg (by omega), if_neg c3, nxt_e, a1, nt_succ, nt_succ]
  have hpL : p < L := ch_lt hend (show ¬ chA T L p = 256 by omega)
  have f1 : frm kCr t (uI t 706 0 (nt (p + 1))) := frm_uI rfl
  have hat1 : cAt (uI t 706 0 (nt (p + 1))) (p + 1) m := by
    refine ⟨by rw [I_uI, m1_s], ?_, ?_⟩
    · rw [I_uI_n (by decide)]; exact a2
    · rw [I_uI_n (by decide)]; exact a3
  obtain ⟨x, v, g1, g2⟩ := hg c3 (uI t 706 0 (nt (p + 1))) (p + 1) m (cD_f f1 hD0) (Ilen_f f1 hL) hat1 hpL
  have hgo := hrgo (p + 1) (o + 1) hpL
  rw [g1, ob2_s]
  generalize rec (p + 1) (o + 1) = r at g2 hgo ⊢
  obtain ⟨rb, rq, rc⟩ := r
  obtain ⟨gf, gh⟩ := g2
  have fv : frm kCr t v := frm_tr f1 gf
  have hDv := cD_f fv hD0
  cases rb with
  | true =>
    rcases hgo with ⟨-, k1, k2, k3⟩ | ⟨k1, -⟩
    case inr => cases k1
    have k2' : rq ≤ L := k2
    rcases gh with ⟨-, hatv, hv⟩ | ⟨h4, -⟩
    case inr => cases h4
    have hatv' : cAt v rq (nmk m rc) := hatv
    rw [show (41 : Int32) = nt 41 from rfl, pass_eq hDv hatv' k2' (by omega), if_pos rfl]
    show ∃ x' u, Option.bind (if chA T L rq = 41 then _ else _) _ = some (x', u) ∧ cOut t u (chA T L) V m (if chA T L rq = 41 then _ else _) x'
    by_cases c4 : chA T L rq = 41
    · rw [if_pos c4, if_pos c4, ob_s]
      refine ⟨x, _, rfl, frm_tr fv (frm_uI rfl), Or.inl ⟨rfl, ⟨by rw [I_uI, m1_s], ?_, ?_⟩, hv⟩⟩
      · rw [I_uI_n (by decide)]; exact hatv'.2.1
      · rw [I_uI_n (by decide)]; exact hatv'.2.2
    · rw [if_neg c4, if_neg c4, ob_s]
      exact ⟨x, _, rfl, frm_tr fv (frm_uI rfl), Or.inr ⟨rfl, by rw [I_uI_n (by decide)]; exact hatv'.1, Or.inl (by rw [I_uI, m1_s])⟩⟩
  | false =>
    rcases hgo with ⟨k1, -⟩ | ⟨-, k2, k3⟩
    · cases k1
    have k3' : rq ≤ L := k3
    rcases gh with ⟨h4, -⟩ | ⟨-, h706, hbad⟩
    · cases h4
    obtain ⟨u, p1, p2, p3, p4⟩ := pass_bad hDv k3' h706 hbad (s := 41) (by omega) rfl
    rw [show (41 : Int32) = nt 41 from rfl, p1, ob_s, if_neg ffn]
    exact ⟨x, u, rfl, frm_tr fv p2, Or.inr ⟨rfl, p3, Or.inl p4⟩⟩
/-- the four loops of the class -/
theorem cloop {g : TS → Option (Int32 × TS)} {B : Nat → TS → Int32 → Option (Int32 × TS)} {sg : Nat → Bool} {op : Nat → Int32} {rec : Nat → Bool × Nat × List (Int32 × Int32)} {Pv : Int32 → Prop} (hsg : sg 256 = false) (hsd : ∀ c, c ≤ 256 → isD c = true → sg c = false) (hop : ∀ c, c ≤ 256 → sg c = true → ¬ op c = 1 ∧ ¬ op c = 2 ∧ ¬ op c = 3)
    (hrgo : ∀ p, p ≤ L → pgo L p (rec p))
    (hg : ∀ t p m, cD t T L j V → Ilen t → cAt t p m → p ≤ L → ∃ x u, g t = some (x, u) ∧ Pv x ∧ cOut t u (chA T L) V m (rec p) x)
    (hB0 : ∀ fu t p m v, cD t T L j V → cAt t p m → p ≤ L → Pv v → sg (chA T L p) = false → B (fu + 1) t v = some (v, t))
    (hB1 : ∀ fu t p m v, cD t T L j V → cAt t p m → p ≤ L → Pv v → sg (chA T L p) = true → ∃ K : Int32 → TS → Option (Int32 × TS), B (fu + 1) t v = ob2 (g (uI t 706 0 (nt (p + 1)))) K ∧ ∀ x t2, Pv x → Pv (bothP (op (chA T L p)) v x) ∧ K x t2 = B fu t2 (bothP (op (chA T L p)) v x))
    (hBf : ∀ fu t v, 0 ≤ tI t 707 0 → Pv v → B (fu + 1) t v = some (v, t)) {t : TS} (hL : Ilen t) (hD : cD t T L j V) {m0 : Int32} : ∀ f p c v u fu, cOut t u (chA T L) V m0 (true, p, c) v → Pv v → p ≤ L → L - p < f → L - p < fu → ∃ x u', B fu u v = some (x, u') ∧ Pv x ∧ cOut t u' (chA T L) V m0 (pLp (chA T L) sg op rec f p c) x
  | 0, p, c, v, u, fu, _, _, _, h1, _ => by omega
  | f + 1, p, c, v, u, fu, hO, hPv, hp, h1, h2 => by
    obtain ⟨fu, rfl⟩ : ∃ k, fu = k + 1 := ⟨fu - 1, by omega⟩
    have hO0 := hO
    obtain ⟨fr, h⟩ := hO
    rcases h with ⟨-, hat, hv⟩ | ⟨h4, -⟩
    case inr => cases h4
    have hat' : cAt u p (nmk m0 c) := hat
    have hDu := cD_f fr hD
    have hL160 := hD.1
    have hT : ∀ i, i < L → T i < 256 := fun i hi => (hD.2.2.2.2.1 i hi).2
    have hle := fun p => chA_le (T := T) (L := L) hT p
    unfold pLp
    by_cases cs : sg (chA T L p) = true
    case neg =>
      have cs' : sg (chA T L p) = false := by simpa using cs
      rw [if_neg cs, hB0 fu u p _ v hDu hat' hp hPv cs']
      exact ⟨v, u, rfl, hPv, hO0⟩
    rw [if_pos cs]
    have hpL : p < L := by
      by_cases e : p < L
      · exact e
      · rw [chA_end (by omega), hsg] at cs; cases cs
    obtain ⟨K, b1_, b2⟩ := hB1 fu u p _ v hDu hat' hp hPv cs
    have f1 : frm kCr u (uI u 706 0 (nt (p + 1))) := frm_uI rfl
    have hat1 : cAt (uI u 706 0 (nt (p + 1))) (p + 1) (nmk m0 c) := by
      refine ⟨by rw [I_uI, m1_s], ?_, ?_⟩
      · rw [I_uI_n (by decide)]; exact hat'.2.1
      · rw [I_uI_n (by decide)]; exact hat'.2.2
    obtain ⟨x, w, g1, g2, g3⟩ := hg (uI u 706 0 (nt (p + 1))) (p + 1) (nmk m0 c) (cD_f f1 hDu) (Ilen_f f1 (Ilen_f fr hL)) hat1 hpL
    obtain ⟨hPn, hK⟩ := b2 x w g2
    rw [b1_, g1, ob2_s, hK]
    have hgo := hrgo (p + 1) hpL
    generalize rec (p + 1) = r at g3 hgo ⊢
    obtain ⟨rb, rq, rc⟩ := r
    obtain ⟨gf, gh⟩ := g3
    have fw : frm kCr t w := frm_tr fr (frm_tr f1 gf)
    have hDw := cD_f fw hD
    cases rb with
    | true =>
      rcases hgo with ⟨-, k1, k2, k3⟩ | ⟨k1, -⟩
      case inr => cases k1
      have k1' : p + 1 < rq := k1
      have k2' : rq ≤ L := k2
      rcases gh with ⟨-, hatw, hw⟩ | ⟨h4, -⟩
      case inr => cases h4
      obtain ⟨o1, o2, o3⟩ := hop _ (hle p) cs
      have hatw' : cAt w rq (nmk (nmk m0 c) rc) := hatw
      have hOw : cOut t w (chA T L) V m0 (true, rq, c ++ rc ++ [(op (chA T L p), 0)]) (bothP (op (chA T L p)) v x) := by
        refine ⟨fw, Or.inl ⟨rfl, ?_, isV_bin hv hw o1 o2 o3⟩⟩
        show cAt w rq (nmk m0 (c ++ rc ++ [(op (chA T L p), 0)]))
        rw [nmk_app, nmk_app]
        show cAt w rq (nmS (nmk (nmk m0 c) rc) (op (chA T L p), 0))
        unfold nmS
        rw [if_neg o2]
        exact hatw'
      rw [if_pos rfl]
      exact cloop hsg hsd hop hrgo hg hB0 hB1 hBf hL hD f rq _ _ w fu hOw hPn k2' (by omega) (by omega)
    | false =>
      rcases hgo with ⟨k1, -⟩ | ⟨-, k2, k3⟩
      · cases k1
      have k3' : rq ≤ L := k3
      rcases gh with ⟨h4, -⟩ | ⟨-, h706, hbad⟩
      · cases h4
      obtain ⟨fu, rfl⟩ : ∃ k, fu = k + 1 := ⟨fu - 1, by omega⟩
      rw [if_neg ffn]
      rcases hbad with hb | ⟨hb1, hb3⟩
      · have hb' : tI w 707 0 = nt rq := hb
        rw [hBf fu w _ (by rw [hb']; exact nt_nn (by omega)) hPn]
        exact ⟨_, w, rfl, hPn, fw, Or.inr ⟨rfl, h706, Or.inl hb⟩⟩
      · rw [hB0 fu w rq (tI w 703 0) _ hDw ⟨h706, hb1, rfl⟩ k3' hPn (hsd _ (hle rq) hb3)]
        exact ⟨_, w, rfl, hPn, fw, Or.inr ⟨rfl, h706, Or.inr ⟨hb1, hb3⟩⟩⟩
theorem crun {g : TS → Option (Int32 × TS)} {B : Nat → TS → Int32 → Option (Int32 × TS)} {sg : Nat → Bool} {op : Nat → Int32} {rec : Nat → Bool × Nat × List (Int32 × Int32)} {Pv : Int32 → Prop} (hsg : sg 256 = false) (hsd : ∀ c, c ≤ 256 → isD c = true → sg c = false) (hop : ∀ c, c ≤ 256 → sg c = true → ¬ op c = 1 ∧ ¬ op c = 2 ∧ ¬ op c = 3)
    (hrgo : ∀ p, p ≤ L → pgo L p (rec p))
    (hg : ∀ t p m, cD t T L j V → Ilen t → cAt t p m → p ≤ L → ∃ x u, g t = some (x, u) ∧ Pv x ∧ cOut t u (chA T L) V m (rec p) x)
    (hB0 : ∀ fu t p m v, cD t T L j V → cAt t p m → p ≤ L → Pv v → sg (chA T L p) = false → B (fu + 1) t v = some (v, t))
    (hB1 : ∀ fu t p m v, cD t T L j V → cAt t p m → p ≤ L → Pv v → sg (chA T L p) = true → ∃ K : Int32 → TS → Option (Int32 × TS), B (fu + 1) t v = ob2 (g (uI t 706 0 (nt (p + 1)))) K ∧ ∀ x t2, Pv x → Pv (bothP (op (chA T L p)) v x) ∧ K x t2 = B fu t2 (bothP (op (chA T L p)) v x))
    (hBf : ∀ fu t v, 0 ≤ tI t 707 0 → Pv v → B (fu + 1) t v = some (v, t)) {t : TS} (hL : Ilen t) (hD : cD t T L j V) {p : Nat} {m : Int32} (hat : cAt t p m) (hp : p ≤ L) : ∃ x u, ob2 (g t) (fun x22 t23 => B 10000 t23 x22) = some (x, u) ∧ Pv x ∧ cOut t u (chA T L) V m (pRp (chA T L) sg op rec p) x := by
  obtain ⟨x, w, g1, g2, g3⟩ := hg t p m hD hL hat hp
  have hgo := hrgo p hp
  have hL160 := hD.1
  rw [g1, ob2_s]
  unfold pRp
  generalize rec p = r at g3 hgo ⊢
  obtain ⟨rb, rq, rc⟩ := r
  cases rb with
  | true =>
    rcases hgo with ⟨-, k1, k2, k3⟩ | ⟨k1, -⟩
    case inr => cases k1
    obtain ⟨N, hN⟩ : ∃ N : Nat, N = 10000 := ⟨_, rfl⟩
    rw [if_pos rfl, ← hN]
    exact cloop hsg hsd hop hrgo hg hB0 hB1 hBf hL hD 200 rq rc x w N g3 g2 k2 (by omega) (by omega)
  | false =>
    rcases hgo with ⟨k1, -⟩ | ⟨-, k2, k3⟩
    · cases k1
    have k3' : rq ≤ L := k3
    obtain ⟨gf, gh⟩ := g3
    have hDw := cD_f gf hD
    have hT : ∀ i, i < L → T i < 256 := fun i hi => (hD.2.2.2.2.1 i hi).2
    rcases gh with ⟨h4, -⟩ | ⟨-, h706, hbad⟩
    · cases h4
    obtain ⟨N, hN⟩ : ∃ N : Nat, 10000 = N + 1 := ⟨9999, rfl⟩
    rw [hN, if_neg ffn]
    rcases hbad with hb | ⟨hb1, hb3⟩
    · have hb' : tI w 707 0 = nt rq := hb
      rw [hBf N w _ (by rw [hb']; exact nt_nn (by omega)) g2]
      exact ⟨_, w, rfl, g2, gf, Or.inr ⟨rfl, h706, Or.inl hb⟩⟩
    · rw [hB0 N w rq (tI w 703 0) _ hDw ⟨h706, hb1, rfl⟩ k3' g2 (hsd _ (chA_le hT rq) hb3)]
      exact ⟨_, w, rfl, g2, gf, Or.inr ⟨rfl, h706, Or.inr ⟨hb1, hb3⟩⟩⟩
end
