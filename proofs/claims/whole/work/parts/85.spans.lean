/-! PART 85: spans (the method). -/
section
variable {t : TS} {nB nS nM p s n : Nat} {x : Int32}
def cK (t : TS) (p nS : Nat) (g : Nat → Option (Nat × Int32 × Int32)) : Nat → TS
  | 0 => t
  | k + 1 => sel (g k) (cK t p nS g k) (fun c a b => cS (cK t p nS g k) p c (nS + k) 0 a b)
def mK (t : TS) (p nS : Nat) (g : Nat → Option (Nat × Int32 × Int32)) : Nat → TS
  | 0 => t
  | k + 1 => sel (g k) (mK t p nS g k) (fun c a b => mS (mK t p nS g k) p c (nS + k) 0 a b)
def bK (t : TS) (p nS : Nat) (g : Nat → Option (Nat × Int32 × Int32)) : Nat → TS
  | 0 => t
  | k + 1 => sel (g k) (bK t p nS g k) (fun c a b => mS (cS (bK t p nS g k) p c (nS + k) 0 a b) p c (nS + k) 0 a b)
theorem cS_mK {g : Nat → Option (Nat × Int32 × Int32)} {u : TS} {c m : Nat} {a b : Int32} : ∀ k, cS (mK u p nS g k) p c m 0 a b = mK (cS u p c m 0 a b) p nS g k
  | 0 => rfl
  | k + 1 => by
    unfold mK
    cases g k with
    | none => rw [sel_n, sel_n]; exact cS_mK k
    | some q =>
      show cS (mS (mK u p nS g k) p q.1 (nS + k) 0 q.2.1 q.2.2) p c m 0 a b = mS (mK (cS u p c m 0 a b) p nS g k) p q.1 (nS + k) 0 q.2.1 q.2.2
      rw [cS_mS, cS_mK k]
theorem mK_cong {g : Nat → Option (Nat × Int32 × Int32)} {u w : TS} (h : u = w) (k : Nat) : mK u p nS g k = mK w p nS g k := by rw [h]
theorem bK_eq {g : Nat → Option (Nat × Int32 × Int32)} : ∀ k, bK t p nS g k = mK (cK t p nS g k) p nS g k
  | 0 => rfl
  | k + 1 => by
    show sel (g k) (bK t p nS g k) (fun c a b => mS (cS (bK t p nS g k) p c (nS + k) 0 a b) p c (nS + k) 0 a b) = sel (g k) (mK (cK t p nS g (k + 1)) p nS g k) (fun c a b => mS (mK (cK t p nS g (k + 1)) p nS g k) p c (nS + k) 0 a b)
    have e : cK t p nS g (k + 1) = sel (g k) (cK t p nS g k) (fun c a b => cS (cK t p nS g k) p c (nS + k) 0 a b) := rfl
    rw [e, bK_eq k]
    cases g k with
    | none => rw [sel_n, sel_n, sel_n]
    | some q =>
      show mS (cS (mK (cK t p nS g k) p nS g k) p q.1 (nS + k) 0 q.2.1 q.2.2) p q.1 (nS + k) 0 q.2.1 q.2.2 = mS (mK (cS (cK t p nS g k) p q.1 (nS + k) 0 q.2.1 q.2.2) p nS g k) p q.1 (nS + k) 0 q.2.1 q.2.2
      rw [cS_mK k]
def kMspn : Nat → Bool := ks [1316, 3317, 3318, 3319, 3320, 3321, 3322, 3323, 3324]
def kCs : Nat → Bool := k2 (ko 11) (ks [1205, 109, 110, 111])
theorem mS_f2 {t : TS} {p c n : Nat} {so fr to : Int32} : frm kMspn t (mS t p c n so fr to) := frm_tr (frm_uA rfl) (frm_tr (frm_uA rfl) (frm_tr (frm_uA rfl) (frm_tr (frm_uA rfl) (frm_tr (frm_uA rfl) (frm_tr (frm_uA rfl) (frm_tr (frm_uA rfl) (frm_tr (frm_uA rfl) (frm_uI rfl))))))))
theorem cS_f2 {t : TS} {p c n : Nat} {so fr to : Int32} : frm kCs t (cS t p c n so fr to) := by
  have h0 : frm kCs t (cS0 t c n so fr to) := frm_tr (frm_uO k2_l) (frm_tr (frm_uI rfl) (frm_tr (frm_uI rfl) (frm_tr (frm_uR rfl) (frm_tr (frm_uI rfl) (frm_tr (frm_uI rfl) (frm_tr (frm_uI rfl) (frm_uI rfl)))))))
  unfold cS
  cases tR t 110 p with
  | none => exact frm_tr h0 (frm_tr (frm_uR rfl) (frm_tr (frm_uR rfl) (frm_uI rfl)))
  | some j => exact frm_tr h0 (frm_tr (frm_uR rfl) (frm_tr (frm_uR rfl) (frm_uI rfl)))
theorem mK_f {g : Nat → Option (Nat × Int32 × Int32)} : ∀ k, frm kMspn t (mK t p nS g k)
  | 0 => frm_rf
  | k + 1 => by
    have e : mK t p nS g (k + 1) = sel (g k) (mK t p nS g k) (fun c a b => mS (mK t p nS g k) p c (nS + k) 0 a b) := rfl
    rw [e]
    cases g k with
    | none => exact mK_f k
    | some q => exact frm_tr (mK_f k) mS_f2
theorem cK_f {g : Nat → Option (Nat × Int32 × Int32)} : ∀ k, frm kCs t (cK t p nS g k)
  | 0 => frm_rf
  | k + 1 => by
    have e : cK t p nS g (k + 1) = sel (g k) (cK t p nS g k) (fun c a b => cS (cK t p nS g k) p c (nS + k) 0 a b) := rfl
    rw [e]
    cases g k with
    | none => exact cK_f k
    | some q => exact frm_tr (cK_f k) cS_f2
theorem mS_uI {p c n i : Nat} {so fr to v : Int32} : mS (uI t 108 i v) p c n so fr to = uI (mS t p c n so fr to) 108 i v := by
  unfold mS
  rw [← uI_uI (f := 108) (f' := 1316) (by decide)]
  rfl
theorem mK_uI {g : Nat → Option (Nat × Int32 × Int32)} {i : Nat} {v : Int32} : ∀ k, mK (uI t 108 i v) p nS g k = uI (mK t p nS g k) 108 i v
  | 0 => rfl
  | k + 1 => by
    show sel (g k) (mK (uI t 108 i v) p nS g k) (fun c a b => mS (mK (uI t 108 i v) p nS g k) p c (nS + k) 0 a b) = uI (sel (g k) (mK t p nS g k) (fun c a b => mS (mK t p nS g k) p c (nS + k) 0 a b)) 108 i v
    rw [mK_uI k]
    cases g k with
    | none => rfl
    | some q => exact mS_uI
theorem g3_some {k c : Nat} {a b : Int32} (h : g3 t nB s n x k = some (c, a, b)) : c < nB ∧ isCl (tA t 3308 0 c) = true ∧ -9999 ≤ a ∧ a ≤ 2999 ∧ -9999 ≤ b ∧ b ≤ 2999 ∧ 0 ≤ x := by
  unfold g3 at h
  by_cases h1 : 0 ≤ x ∧ x.toNatClampNeg + 3 * k + 3 ≤ n
  case neg => rw [if_neg h1] at h; cases h
  rw [if_pos h1] at h
  cases hc : six isCl t nB (el t s (x.toNatClampNeg + 3 * k)) with
  | none => rw [hc, oel_n] at h; cases h
  | some c' =>
    obtain ⟨q1, q2, q3⟩ := six_some hc
    rw [hc, oel_s] at h
    by_cases h2 : (-9999 ≤ el t s (x.toNatClampNeg + 3 * k + 1) ∧ el t s (x.toNatClampNeg + 3 * k + 1) ≤ 0) ∧ (el t s (x.toNatClampNeg + 3 * k + 1) ≤ el t s (x.toNatClampNeg + 3 * k + 2) ∧ el t s (x.toNatClampNeg + 3 * k + 2) ≤ 0)
    case neg => rw [if_neg h2] at h; cases h
    rw [if_pos h2] at h
    cases h
    have h30 : (0 : Int32) ≤ 2999 := by decide
    exact ⟨q1, q3, h2.1.1, Int32.le_trans h2.1.2 h30, Int32.le_trans h2.1.1 h2.2.1, Int32.le_trans h2.2.2 h30, h1.1⟩
theorem stopAt (g : Nat → Option (Nat × Int32 × Int32)) (nS : Nat) : ∀ m, ∃ K, K ≤ m ∧ (∀ k, k < K → ¬ nS + k = 600 ∧ ¬ g k = none) ∧ (K = m ∨ (¬ K = m ∧ nS + K = 600) ∨ (¬ K = m ∧ ¬ nS + K = 600 ∧ g K = none))
  | 0 => ⟨0, Nat.le_refl _, fun k hk => absurd hk (Nat.not_lt_zero k), Or.inl rfl⟩
  | m + 1 => by
    obtain ⟨K, h1, h2, h3⟩ := stopAt g nS m
    rcases h3 with h3 | ⟨h3, h4⟩ | ⟨h3, h4, h5⟩
    · subst h3
      by_cases e1 : nS + K = 600
      · exact ⟨K, by omega, h2, Or.inr (Or.inl ⟨by omega, e1⟩)⟩
      by_cases e2 : g K = none
      · exact ⟨K, by omega, h2, Or.inr (Or.inr ⟨by omega, e1, e2⟩)⟩
      refine ⟨K + 1, Nat.le_refl _, fun k hk => ?_, Or.inl rfl⟩
      by_cases e3 : k = K
      · subst e3; exact ⟨e1, e2⟩
      · exact h2 k (by omega)
    · exact ⟨K, by omega, h2, Or.inr (Or.inl ⟨by omega, h4⟩)⟩
    · exact ⟨K, by omega, h2, Or.inr (Or.inr ⟨by omega, h4, h5⟩)⟩
def kSpl : Nat → Bool := k2 (ko 11) (ks [1205, 108, 109, 110, 111, 1316, 3315, 3317, 3318, 3319, 3320, 3321, 3322, 3323, 3324])
theorem kSpl_c {t t' : TS} (h : frm kCs t t') : frm kSpl t t' := frm_sb h (fun k hk => by
  unfold kSpl kCs k2 at *
  simp only [Bool.or_eq_false_iff] at hk ⊢
  exact ⟨hk.1, ks_sb rfl k hk.2⟩)
theorem kSpl_s {t t' : TS} (h : frm kSp t t') : frm kSpl t t' := frm_sb h (fun k hk => by
  unfold kSpl kSp k2 at *
  simp only [Bool.or_eq_false_iff] at hk ⊢
  exact ⟨hk.1, ks_sb rfl k hk.2⟩)
theorem Iall_flag {v : Int32} (hA : Iall nB nS nM t) (hp : p < nB) (hv : v = 0 ∨ v = 1) : Iall nB nS nM (uA (uI t 108 p v) 3315 0 p v) := by
  obtain ⟨a1, a2, a3, a4, a5, a6, a7⟩ := hA
  have hf : frm (ks [108, 3315]) t (uA (uI t 108 p v) 3315 0 p v) := frm_tr (frm_uI rfl) (frm_uA rfl)
  refine ⟨Ibody_f hf (by decide) a1, Icoin_f hf (by decide) a2, Iinc_f hf (by decide) a3, Imat_f hf (by decide) a4, ⟨fun i hi => ?_, fun i hi => ?_⟩, Ispan_f hf (by decide) a6, Imove_f hf (by decide) a7⟩
  · simp (disch := omega) only [I_uI, I_uI_n, R_uR, R_uR_n, A_uA, A_uA_n, J_uJ, J_uJ_n, Q_uQ, Q_uQ_n, E_uO, E_uO_n, I_uO, I_uO_n, R_uO, R_uO_n, E_uN, E_uN_n, L_uN, L_uN_n, A_uN, A_uN_n, J_uN, J_uN_n, Q_uN, Q_uN_n, A_uCA, A_uCA_n, J_uCJ, J_uCJ_n, E_uI, R_uI, L_uI, A_uI, J_uI, Q_uI, E_uR, I_uR, L_uR, A_uR, J_uR, Q_uR, E_uA, I_uA, R_uA, L_uA, J_uA, Q_uA, E_uJ, I_uJ, R_uJ, L_uJ, A_uJ, Q_uJ, E_uQ, I_uQ, R_uQ, L_uQ, A_uQ, J_uQ, L_uO, A_uO, J_uO, Q_uO, I_uN, R_uN, E_uCA, I_uCA, R_uCA, L_uCA, J_uCA, Q_uCA, E_uCJ, I_uCJ, R_uCJ, L_uCJ, A_uCJ, Q_uCJ, m1_s]
    by_cases e : i = p
    · subst e; simp only [m1_s]; exact ⟨trivial, hv⟩
    · rw [m1_n e, m1_n e]; exact a5.1 i hi
  · simp (disch := omega) only [I_uI, I_uI_n, R_uR, R_uR_n, A_uA, A_uA_n, J_uJ, J_uJ_n, Q_uQ, Q_uQ_n, E_uO, E_uO_n, I_uO, I_uO_n, R_uO, R_uO_n, E_uN, E_uN_n, L_uN, L_uN_n, A_uN, A_uN_n, J_uN, J_uN_n, Q_uN, Q_uN_n, A_uCA, A_uCA_n, J_uCJ, J_uCJ_n, E_uI, R_uI, L_uI, A_uI, J_uI, Q_uI, E_uR, I_uR, L_uR, A_uR, J_uR, Q_uR, E_uA, I_uA, R_uA, L_uA, J_uA, Q_uA, E_uJ, I_uJ, R_uJ, L_uJ, A_uJ, Q_uJ, E_uQ, I_uQ, R_uQ, L_uQ, A_uQ, J_uQ, L_uO, A_uO, J_uO, Q_uO, I_uN, R_uN, E_uCA, I_uCA, R_uCA, L_uCA, J_uCA, Q_uCA, E_uCJ, I_uCJ, R_uCJ, L_uCJ, A_uCJ, Q_uCJ, m1_s]
    rw [m1_n (by omega)]; exact a5.2 i hi
theorem bK_all (hA : Iall nB nS nM t) (hp : p < nB) (hpp : isPl (tA t 3308 0 p) = true) {g : Nat → Option (Nat × Int32 × Int32)} {K : Nat} (hg : ∀ k, k < K → ¬ nS + k = 600 ∧ ∃ c a b, g k = some (c, a, b) ∧ c < nB ∧ isCl (tA t 3308 0 c) = true ∧ -9999 ≤ a ∧ a ≤ 2999 ∧ -9999 ≤ b ∧ b ≤ 2999) : ∀ k, k ≤ K → Iall nB (nS + k) nM (bK t p nS g k) ∧ frm kSp t (bK t p nS g k)
  | 0, _ => ⟨hA, frm_rf⟩
  | k + 1, hk => by
    obtain ⟨q1, q2⟩ := bK_all hA hp hpp hg k (by omega)
    obtain ⟨n6, c, a, b, e, hc, hcc, hb⟩ := hg k (by omega)
    have e2 : bK t p nS g (k + 1) = mS (cS (bK t p nS g k) p c (nS + k) 0 a b) p c (nS + k) 0 a b := by
      show sel (g k) _ _ = _
      rw [e, sel_s]
    have h600 := q1.2.2.2.2.2.1.1
    have eA : tA (bK t p nS g k) 3308 = tA t 3308 := (q2.1 3308 rfl).2.2.2.2.1
    have hs := span_both (p := p) (c := c) (so := 0) (fr := a) (to := b) q1 (by omega) hp (by rw [eA]; exact hpp) hc (by rw [eA]; exact hcc) hb 0 rfl
    rw [cS_wa0, mS_wa0] at hs
    rw [e2]
    exact ⟨hs.1, frm_tr q2 hs.2⟩
theorem spans_go (hL : Ilen t) (hA : Iall nB nS nM t) (hp : p < nB) (hpp : isPl (tA t 3308 0 p) = true) (hs : s < 6) (hl : tL t 3004 s = 60) (hth : isTh t s n) {m : Nat} (hm : m ≤ 20) : ∃ r t1 t2, B_X12_spans_60 22 t x (nt m) p s 0 = some (r, t1) ∧ Ilen t1 ∧ frm (k2 (ko 11) (ks [1205, 109, 110, 111, 108])) t t1 ∧ B_X13_spans_55 10000 t1 (nt p) (nt s) x (nt m) 0 = some (r, t2) ∧ (∃ nS', Iall nB nS' nM t2) ∧ frm kSpl t t2 := by
  have h600 := hA.2.2.2.2.2.1.1
  have h150 := hA.1.1
  obtain ⟨K, hK1, hK2, hK3⟩ := stopAt (g3 t nB s n x) nS m
  have hg : ∀ k, k < K → ¬ nS + k = 600 ∧ ∃ c a b, g3 t nB s n x k = some (c, a, b) ∧ c < nB ∧ isCl (tA t 3308 0 c) = true ∧ -9999 ≤ a ∧ a ≤ 2999 ∧ -9999 ≤ b ∧ b ≤ 2999 := by
    intro k hk
    obtain ⟨q1, q2⟩ := hK2 k hk
    refine ⟨q1, ?_⟩
    cases e : g3 t nB s n x k with
    | none => exact absurd e q2
    | some q =>
      obtain ⟨c, a, b⟩ := q
      obtain ⟨w1, w2, w3, w4, w5, w6, -⟩ := g3_some e
      exact ⟨c, a, b, rfl, w1, w2, w3, w4, w5, w6⟩
  have hx0 : ∀ k, k ≤ K → k = 0 ∨ 0 ≤ x := by
    intro k hk
    by_cases e : k = 0
    · exact Or.inl e
    · right
      obtain ⟨q1, c, a, b, q2, -⟩ := hg 0 (by omega)
      exact (g3_some q2).2.2.2.2.2.2
  have hb := bK_all hA hp hpp hg
  -- the class's states
  have hc : ∀ k, k ≤ K → tI (cK t p nS (g3 t nB s n x) k) 1205 0 = nt (nS + k) ∧ (nS + k < 600 → tE (cK t p nS (g3 t nB s n x) k) 11 (nS + k) = false) := by
    intro k hk
    have q := (hb k hk).1.2.2.2.2.2.1
    rw [bK_eq k] at q
    have f := mK_f (p := p) (nS := nS) (g := g3 t nB s n x) (t := cK t p nS (g3 t nB s n x) k) k
    have q1 := q.2.1
    have q2 := q.2.2.2.2.1 (nS + k) (Nat.le_refl _)
    rw [(f.1 1205 rfl).2.1] at q1
    rw [(f.1 11 rfl).1] at q2
    exact ⟨q1, fun _ => q2⟩
  obtain ⟨fl, hfl⟩ : ∃ fl : TS → TS, fl = fun u => if K = m then uI u 108 p 0 else if nS + K = 600 then u else uI u 108 p 1 := ⟨_, rfl⟩
  obtain ⟨fm, hfm⟩ : ∃ fm : TS → TS, fm = fun u => if K = m then uA u 3315 0 p 0 else if nS + K = 600 then u else uA u 3315 0 p 1 := ⟨_, rfl⟩
  have hfl2 : ∀ u, frm (ks [108]) u (fl u) := by
    intro u
    rw [hfl]
    show frm _ u (if K = m then uI u 108 p 0 else if nS + K = 600 then u else uI u 108 p 1)
    split
    · exact frm_uI rfl
    · split
      · exact frm_rf
      · exact frm_uI rfl
  have hcf : frm (k2 (ko 11) (ks [1205, 109, 110, 111, 108])) t (fl (cK t p nS (g3 t nB s n x) K)) := by
    refine frm_tr (frm_sb (cK_f K) (fun k hk => ?_)) (frm_sb (hfl2 _) (fun k hk => ?_))
    · unfold kCs k2 at *
      simp only [Bool.or_eq_false_iff] at hk ⊢
      exact ⟨hk.1, ks_sb rfl k hk.2⟩
    · unfold k2 at hk
      simp only [Bool.or_eq_false_iff] at hk
      exact ks_sb rfl k hk.2
  have hL1 := Ilen_f hcf hL
  refine ⟨nt K, fl (cK t p nS (g3 t nB s n x) K), fm (mK (fl (cK t p nS (g3 t nB s n x) K)) p nS (g3 t nB s n x) K), ?_, hL1, hcf, ?_, ?_⟩
  · refine loop_wh (B := fun fu (k : Nat) => B_X12_spans_60 fu (cK t p nS (g3 t nB s n x) k) x (nt m) p s (nt k)) (mu := fun k => K - k) (G := fun o => o = some (nt K, fl (cK t p nS (g3 t nB s n x) K))) (P := fun k => k ≤ K) ?_ 22 0 (Nat.zero_le _) (by omega)
    intro fu k hk
    show BB_X12_spans_60 (B_X12_spans_60 fu) _ _ _ _ _ _ = _ ∨ ∃ a', BB_X12_spans_60 (B_X12_spans_60 fu) _ _ _ _ _ _ = _ ∧ _
    have f := cK_f (p := p) (nS := nS) (g := g3 t nB s n x) (t := t) k
    have hLk := Ilen_f f hL
    have hBk := Ibody_f f (by decide) hA.1
    have hlk : tL (cK t p nS (g3 t nB s n x) k) 3004 s = 60 := by rw [(f.1 3004 rfl).2.2.2.1]; exact hl
    have hthk : isTh (cK t p nS (g3 t nB s n x) k) s n := by rw [isTh_f f (by decide)]; exact hth
    obtain ⟨c1, c2⟩ := hc k hk
    have hle : nS + k ≤ 600 := (hb k hk).1.2.2.2.2.2.1.1
    unfold BB_X12_spans_60
    rw [igE (by omega) (by omega), c1]
    by_cases e : k = m
    · left
      have eK : k = K := by omega
      subst eK
      rw [if_pos (by omega), hfl]
      show B_X12_spans_109 _ _ _ = some (nt k, if k = m then _ else _)
      rw [if_pos e, e]
      rfl
    rw [if_neg (by omega), ite_congr (l600 hle) (fun _ => rfl) (fun _ => rfl)]
    by_cases e6 : nS + k = 600
    · left
      have eK : k = K := by
        by_cases e2 : k = K
        · exact e2
        · exact absurd e6 (hg k (by omega)).1
      subst eK
      rw [if_neg (by omega), hfl]
      show _ = some (nt k, if k = m then _ else if nS + k = 600 then _ else _)
      rw [if_neg e, if_pos e6]
    rw [if_pos (by omega), asf_eq hLk hBk c1 (c2 (by omega)) (by omega) hlk hthk (by omega), g3_f f (by decide)]
    by_cases eK : k = K
    · left
      subst eK
      have en : g3 t nB s n x k = none := by
        rcases hK3 with q | ⟨-, q⟩ | ⟨-, -, q⟩
        · exact absurd q e
        · exact absurd q e6
        · exact q
      rw [en, sel_n, ob2_s, if_neg (fun q => q rfl), hfl]
      show B_X12_spans_94 _ _ _ = some (nt k, if k = m then _ else if nS + k = 600 then _ else _)
      rw [if_neg e, if_neg e6]
      rfl
    · right
      obtain ⟨q1, c, a, b, q2, -⟩ := hg k (by omega)
      refine ⟨k + 1, ?_, by omega, by omega⟩
      rw [q2, sel_s, ob2_s, if_pos (by decide), nt_succ]
      have e2 : cK t p nS (g3 t nB s n x) (k + 1) = cS (cK t p nS (g3 t nB s n x) k) p c (nS + k) 0 a b := by
        show sel (g3 t nB s n x k) _ _ = _
        rw [q2, sel_s]
      rw [e2]
  · have hB1 : Ibody nB (fl (cK t p nS (g3 t nB s n x) K)) := Ibody_f hcf (by decide) hA.1
    have hth1 : isTh (fl (cK t p nS (g3 t nB s n x) K)) s n := by rw [isTh_f hcf (by decide)]; exact hth
    have hg1 : ∀ k, g3 (fl (cK t p nS (g3 t nB s n x) K)) nB s n x k = g3 t nB s n x k := fun k => g3_f hcf (by decide)
    have e16 : tI (fl (cK t p nS (g3 t nB s n x) K)) 1316 0 = nt nS := by rw [(hcf.1 1316 rfl).2.1]; exact hA.2.2.2.2.2.1.2.2.1
    generalize fl (cK t p nS (g3 t nB s n x) K) = v at hL1 hB1 hth1 hg1 e16 ⊢
    have h16 : ∀ k, k ≤ K → tI (mK v p nS (g3 t nB s n x) k) 1316 0 = nt (nS + k) := by
      intro k hk
      cases k with
      | zero => exact e16
      | succ k =>
        obtain ⟨q1, c, a, b, q2, -⟩ := hg k (by omega)
        show tI (sel (g3 t nB s n x k) _ _) 1316 0 = _
        rw [q2, sel_s]
        unfold mS
        simp (disch := omega) only [I_uI, I_uI_n, R_uR, R_uR_n, A_uA, A_uA_n, J_uJ, J_uJ_n, Q_uQ, Q_uQ_n, E_uO, E_uO_n, I_uO, I_uO_n, R_uO, R_uO_n, E_uN, E_uN_n, L_uN, L_uN_n, A_uN, A_uN_n, J_uN, J_uN_n, Q_uN, Q_uN_n, A_uCA, A_uCA_n, J_uCJ, J_uCJ_n, E_uI, R_uI, L_uI, A_uI, J_uI, Q_uI, E_uR, I_uR, L_uR, A_uR, J_uR, Q_uR, E_uA, I_uA, R_uA, L_uA, J_uA, Q_uA, E_uJ, I_uJ, R_uJ, L_uJ, A_uJ, Q_uJ, E_uQ, I_uQ, R_uQ, L_uQ, A_uQ, J_uQ, L_uO, A_uO, J_uO, Q_uO, I_uN, R_uN, E_uCA, I_uCA, R_uCA, L_uCA, J_uCA, Q_uCA, E_uCJ, I_uCJ, R_uCJ, L_uCJ, A_uCJ, Q_uCJ, m1_s]
        rfl
    obtain ⟨N, hN⟩ : ∃ N : Nat, N = 10000 := ⟨_, rfl⟩
    rw [← hN]
    refine loop_wh (B := fun fu (k : Nat) => B_X13_spans_55 fu (mK v p nS (g3 t nB s n x) k) (nt p) (nt s) x (nt m) (nt k)) (mu := fun k => K - k) (G := fun o => o = some (nt K, fm (mK v p nS (g3 t nB s n x) K))) (P := fun k => k ≤ K) ?_ N 0 (Nat.zero_le _) (by omega)
    intro fu k hk
    show BB_X13_spans_55 (B_X13_spans_55 fu) _ _ _ _ _ _ = _ ∨ ∃ a', BB_X13_spans_55 (B_X13_spans_55 fu) _ _ _ _ _ _ = _ ∧ _
    have f := mK_f (p := p) (nS := nS) (g := g3 t nB s n x) (t := v) k
    have hLk := Ilen_f f hL1
    have hBk := Ibody_f f (by decide) hB1
    have hthk : isTh (mK v p nS (g3 t nB s n x) k) s n := by rw [isTh_f f (by decide)]; exact hth1
    have hle : nS + k ≤ 600 := (hb k hk).1.2.2.2.2.2.1.1
    by_cases e : k = m
    · left
      have eK : k = K := by omega
      subst eK
      unfold BB_X13_spans_55
      rw [igE (by omega) (by omega), if_pos (by omega)]
      unfold B_X13_spans_263
      rw [(show tL _ 3315 0 = 150 from hLk 3315 rfl), gd_nt _ (by omega) (by omega), nt_cl (by omega), nxt_e, hfm]
      show _ = some (nt k, if k = m then _ else _)
      rw [if_pos e, e]
      rfl
    by_cases e6 : nS + k = 600
    · left
      have eK : k = K := by
        by_cases e2 : k = K
        · exact e2
        · exact absurd e6 (hg k (by omega)).1
      subst eK
      unfold BB_X13_spans_55
      rw [igE (by omega) (by omega), if_neg (by omega), h16 k hk, e6, if_neg (fun q => q rfl), hfm]
      show _ = some (nt k, if k = m then _ else if nS + k = 600 then _ else _)
      rw [if_neg e, if_pos e6]
    have hnm : ¬ nt m ≤ nt k := by
      rw [ge_nt (by omega) (by omega)]
      omega
    rw [bsp_eq _ hLk hBk (h16 k hk) (by omega) hs hthk (by omega) (hx0 k hk) _ hnm, g3_f f (by decide), hg1]
    by_cases eK : k = K
    · left
      subst eK
      have en : g3 t nB s n x k = none := by
        rcases hK3 with q | ⟨-, q⟩ | ⟨-, -, q⟩
        · exact absurd q e
        · exact absurd q e6
        · exact q
      rw [en, sel_n, hfm]
      unfold B_X13_spans_234
      rw [(show tL _ 3315 0 = 150 from hLk 3315 rfl), gd_nt _ (by omega) (by omega), nt_cl (by omega), nxt_e]
      show _ = some (nt k, if k = m then _ else if nS + k = 600 then _ else _)
      rw [if_neg e, if_neg e6]
      rfl
    · right
      obtain ⟨q1, c, a, b, q2, -⟩ := hg k (by omega)
      refine ⟨k + 1, ?_, by omega, by omega⟩
      rw [q2, sel_s]
      have e2 : mK v p nS (g3 t nB s n x) (k + 1) = mS (mK v p nS (g3 t nB s n x) k) p c (nS + k) 0 a b := by
        show sel (g3 t nB s n x k) _ _ = _
        rw [q2, sel_s]
      rw [e2]
  · obtain ⟨q1, q2⟩ := hb K (Nat.le_refl _)
    rw [bK_eq K] at q1 q2
    have key : (∃ nS', Iall nB nS' nM (fm (mK (fl (cK t p nS (g3 t nB s n x) K)) p nS (g3 t nB s n x) K))) ∧ frm (ks [108, 3315]) (mK (cK t p nS (g3 t nB s n x) K) p nS (g3 t nB s n x) K) (fm (mK (fl (cK t p nS (g3 t nB s n x) K)) p nS (g3 t nB s n x) K)) := by
      rw [hfl, hfm]
      show (∃ nS', Iall nB nS' nM (if K = m then uA (mK (if K = m then uI _ 108 p 0 else if nS + K = 600 then _ else uI _ 108 p 1) p nS (g3 t nB s n x) K) 3315 0 p 0 else if nS + K = 600 then mK (if K = m then uI _ 108 p 0 else if nS + K = 600 then _ else uI _ 108 p 1) p nS (g3 t nB s n x) K else uA (mK (if K = m then uI _ 108 p 0 else if nS + K = 600 then _ else uI _ 108 p 1) p nS (g3 t nB s n x) K) 3315 0 p 1)) ∧ frm _ _ (if K = m then uA (mK (if K = m then uI _ 108 p 0 else if nS + K = 600 then _ else uI _ 108 p 1) p nS (g3 t nB s n x) K) 3315 0 p 0 else if nS + K = 600 then mK (if K = m then uI _ 108 p 0 else if nS + K = 600 then _ else uI _ 108 p 1) p nS (g3 t nB s n x) K else uA (mK (if K = m then uI _ 108 p 0 else if nS + K = 600 then _ else uI _ 108 p 1) p nS (g3 t nB s n x) K) 3315 0 p 1)
      by_cases e : K = m
      · simp only [if_pos e]
        rw [mK_uI]
        exact ⟨⟨nS + K, Iall_flag q1 hp (Or.inl rfl)⟩, frm_tr (frm_uI rfl) (frm_uA rfl)⟩
      · simp only [if_neg e]
        by_cases e6 : nS + K = 600
        · simp only [if_pos e6]
          exact ⟨⟨nS + K, q1⟩, frm_rf⟩
        · simp only [if_neg e6]
          rw [mK_uI]
          exact ⟨⟨nS + K, Iall_flag q1 hp (Or.inr rfl)⟩, frm_tr (frm_uI rfl) (frm_uA rfl)⟩
    exact ⟨key.1, frm_tr (kSpl_s q2) (frm_sb key.2 (fun k hk => by
      unfold kSpl k2 at hk
      simp only [Bool.or_eq_false_iff] at hk
      exact ks_sb rfl k hk.2))⟩
theorem ifP {α : Type} {a b : Prop} [Decidable a] [Decidable b] {A B : α} (h : a = b) : (if a then A else B) = if b then A else B := ite_congr h (fun _ => rfl) (fun _ => rfl)
theorem m_spans (x1 x2 x3 x4 : Int32) (hL : Ilen t) (hA : Iall nB nS nM t) (hI : Ishelf nB t) : Eqm (F_X12_spans t x1 x2 x3 x4) (fun t => F_X13_spans t x1 x2 x3 x4) (fun t2 => (∃ nS', Iall nB nS' nM t2) ∧ frm kSpl t t2) := by
  have hB := hA.1
  have h150 := hB.1
  have hbad : ∀ r, F_X12_spans t x1 x2 x3 x4 = some (r, t) → F_X13_spans t x1 x2 x3 x4 = some (r, t) → Eqm (F_X12_spans t x1 x2 x3 x4) (fun t => F_X13_spans t x1 x2 x3 x4) (fun t2 => (∃ nS', Iall nB nS' nM t2) ∧ frm kSpl t t2) := fun r h1 h2 => ⟨r, t, t, h1, h2, ⟨nS, hA⟩, frm_rf⟩
  cases hx : six isPl t nB x1 with
  | none =>
    cases hy : ix 6 x2 with
    | none => exact hbad (-1) (by simp only [F_X12_spans, playerAt_eq hL hB, shelfAt_eq hL hI, hx, hy, nxt_e, oc_s, oc_n, ob_s, ob2_s, gb_b1, gb_0, gb_1, gw0, gw1, Bool.false_eq_true, Bool.true_eq_false, if_true, if_false, not_true_eq_false, not_false_eq_true]) (by simp only [F_X13_spans, isPlayer_eq hL hB, hx, isS_n, nxt_e, oc_s, oc_n, ob_s, ob2_s, gb_b1, gb_0, gb_1, gw0, gw1, Bool.false_eq_true, Bool.true_eq_false, if_true, if_false, not_true_eq_false, not_false_eq_true])
    | some s => exact hbad (-1) (by simp only [F_X12_spans, playerAt_eq hL hB, shelfAt_eq hL hI, hx, hy, nxt_e, oc_s, oc_n, ob_s, ob2_s, gb_b1, gb_0, gb_1, gw0, gw1, Bool.false_eq_true, Bool.true_eq_false, if_true, if_false, not_true_eq_false, not_false_eq_true]) (by simp only [F_X13_spans, isPlayer_eq hL hB, hx, isS_n, nxt_e, oc_s, oc_n, ob_s, ob2_s, gb_b1, gb_0, gb_1, gw0, gw1, Bool.false_eq_true, Bool.true_eq_false, if_true, if_false, not_true_eq_false, not_false_eq_true])
  | some p =>
  obtain ⟨hp, rfl, hpp⟩ := six_some hx
  cases hy : ix 6 x2 with
  | none => exact hbad (-1) (by simp only [F_X12_spans, playerAt_eq hL hB, shelfAt_eq hL hI, hx, hy, nxt_e, oc_s, oc_n, ob_s, ob2_s, gb_b1, gb_0, gb_1, gw0, gw1, Bool.false_eq_true, Bool.true_eq_false, if_true, if_false, not_true_eq_false, not_false_eq_true]) (by simp only [F_X13_spans, isPlayer_eq hL hB, isShelf_eq, hx, hy, isS_s, isS_n, nxt_e, oc_s, oc_n, ob_s, ob2_s, gb_b1, gb_0, gb_1, gw0, gw1, Bool.false_eq_true, Bool.true_eq_false, if_true, if_false, not_true_eq_false, not_false_eq_true])
  | some s =>
  obtain ⟨hs, rfl⟩ := ix_some hy
  by_cases h2 : 1 ≤ x4 ∧ x4 ≤ 20
  case neg => exact hbad (-1) (by simp only [F_X12_spans, playerAt_eq hL hB, shelfAt_eq hL hI, hx, hy, win_eq, decide_eq_false h2, nxt_e, oc_s, oc_n, ob_s, ob2_s, gb_b1, gb_0, gb_1, gw0, gw1, Bool.false_eq_true, Bool.true_eq_false, if_true, if_false, not_true_eq_false, not_false_eq_true]) (by simp only [F_X13_spans, isPlayer_eq hL hB, isShelf_eq, hx, hy, isS_s, in_eq, decide_eq_false h2, nxt_e, oc_s, oc_n, ob_s, ob2_s, gb_b1, gb_0, gb_1, gw0, gw1, Bool.false_eq_true, Bool.true_eq_false, if_true, if_false, not_true_eq_false, not_false_eq_true])
  obtain ⟨m, hm, rfl⟩ := nt_exb (b := 20) (Int32.le_trans (by decide) h2.1) (by omega) h2.2
  have hcl : F_X12_spans t (nt p) (nt s) x3 (nt m) = if tI t 1000 s = 0 then B_X12_spans_57 t x3 (nt m) p s else Option.bind (F_X10_isRowOf t s 1) (fun r26 => if ¬ r26 = 0 then B_X12_spans_57 t x3 (nt m) p s else some (-12, t)) := by
    simp only [F_X12_spans, playerAt_eq hL hB, shelfAt_eq hL hI, hx, hy, win_eq, decide_eq_true h2, nxt_e, oc_s, oc_n, ob_s, ob2_s, gb_b1, gb_0, gb_1, gw0, gw1, Bool.false_eq_true, Bool.true_eq_false, if_true, if_false, not_true_eq_false, not_false_eq_true]
  have hmo : ∀ v : TS, Ilen v → Ibody nB v → tA v 3308 = tA t 3308 → F_X13_spans v (nt p) (nt s) x3 (nt m) = if tA v 3393 0 s = -1 then B_X13_spans_52 v (nt p) (nt s) x3 (nt m) else if tA v 3393 0 s = -3 then B_X13_spans_52 v (nt p) (nt s) x3 (nt m) else some (-12, v) := by
    intro v hv hBv e8
    have hx1 : six isPl v nB (nt p) = some p := by unfold six; rw [e8]; exact hx
    simp (disch := omega) only [F_X13_spans, isPlayer_eq hv hBv, isShelf_eq, hx1, hy, isS_s, in_eq, decide_eq_true h2, nxt_e, oc_s, oc_n, ob_s, ob2_s, gb_b1, gb_0, gb_1, gw0, gw1, Bool.false_eq_true, Bool.true_eq_false, if_true, if_false, not_true_eq_false, not_false_eq_true, (show tL _ 3393 0 = 6 from hv 3393 rfl), gd_nt, nt_cl]
  have hgo : ∀ n, isTh t s n → (tI t 1000 s = 0 ∨ F_X10_isRowOf t s 1 = some 1) → (tA t 3393 0 s = -1 ∨ tA t 3393 0 s = -3) → Eqm (F_X12_spans t (nt p) (nt s) x3 (nt m)) (fun t => F_X13_spans t (nt p) (nt s) x3 (nt m)) (fun t2 => (∃ nS', Iall nB nS' nM t2) ∧ frm kSpl t t2) := by
    intro n hth g1 g2
    obtain ⟨r, t1, t2, q1, q2, q3, q4, q5, q6⟩ := spans_go (x := x3) (m := m) hL hA hp hpp hs (hI s hs).2.1 hth hm
    refine ⟨r, t1, t2, ?_, ?_, q5, q6⟩
    · rw [hcl]
      rcases g1 with g1 | g1
      · rw [if_pos g1]; exact q1
      · by_cases e : tI t 1000 s = 0
        · rw [if_pos e]; exact q1
        · rw [if_neg e, g1, ob_s, if_pos (by decide)]; exact q1
    · show F_X13_spans t1 (nt p) (nt s) x3 (nt m) = _
      rw [hmo t1 q2 (Ibody_f q3 (by decide) hB) (q3.1 3308 rfl).2.2.2.2.1, (q3.1 3393 rfl).2.2.2.2.1]
      rcases g2 with g2 | g2
      · rw [if_pos g2]; exact q4
      · rw [g2, if_neg (by decide), if_pos rfl]; exact q4
  have hir : F_X10_isRowOf t s 1 = some (b1 (decide (tI t 1000 s = 2 ∧ tI t 1002 s = 1))) := by
    unfold F_X10_isRowOf
    by_cases e1 : tI t 1000 s = 2
    · by_cases e2 : tI t 1002 s = 1
      · simp [e1, e2, b1]
      · simp [e1, e2, b1]
    · simp [e1, b1]
  rcases (hI s hs).2.2 with ⟨g1, g2, g3_⟩ | ⟨b, hb, g1, g2, g3_⟩ | ⟨so, n, hso, hn, g⟩
  · exact hgo 0 (Or.inl ⟨rfl, g1, g3_⟩) (Or.inl g1) (Or.inl g3_)
  · refine hbad (-12) ?_ ?_
    · rw [hcl, g1, if_neg (by decide), hir, ob_s, g1, decide_eq_false (fun q => absurd q.1 (by decide)), gw1, if_neg (by decide)]
    · rw [hmo t hL hB rfl, g3_, if_neg (nneg (by omega)), if_neg (fun q => by
        have := nt_nn (a := b) (by omega)
        rw [q] at this
        exact absurd this (by decide))]
  · have hr : isRow t s so n := ⟨hso, hn, g⟩
    obtain ⟨g1, g2, g3_, g4, g5, g6, g7⟩ := g
    by_cases e : so = 1
    · subst e
      exact hgo n (Or.inr hr) (Or.inr (by rw [hir, g1, g3_]; rfl)) (Or.inr (by rw [g5]; rfl))
    · refine hbad (-12) ?_ ?_
      · rw [hcl, g1, if_neg (by decide), hir, ob_s, g1, g3_, decide_eq_false (fun q => by
          have := q.2
          rw [show (1 : Int32) = nt 1 from rfl, eq_nt (by omega) (by omega)] at this
          exact e this), gw1, if_neg (by decide)]
      · obtain ⟨n1, n2, n3, n4⟩ := sneg so hso
        rw [hmo t hL hB rfl, g5, if_neg n2, if_neg (fun q => by
          rw [q] at n3
          have e3 : (-2 : Int32) - (-3) = nt 1 := by decide
          rw [e3, eq_nt (by omega) (by omega)] at n3
          exact e n3.symm)]
end
