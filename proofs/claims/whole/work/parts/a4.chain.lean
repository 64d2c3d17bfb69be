/-! PART a4: chains of deals: the sellers, the method. -/
section
variable {t : TS} {nB nS nM n : Nat}
/-- the club that owns the player of deal i -/
def owD (t : TS) (nS : Nat) (d : Int32) (pl : Nat → Nat) (i : Nat) : Option Nat := oel (own t nS (pl i) d) none (fun s => some (tA t 3318 0 s).toNatClampNeg)
theorem sellers (hL : Ilen t) (hB : nB ≤ 150) (hS : Ispan nB nS nM t) (hn : n ≤ 6) (h405 : tI t 405 0 = nt n) {pl : Nat → Nat} (hp : ∀ i, i < n → tQ t 2400 0 i = some (pl i) ∧ pl i < nB) (d : Int32) : ∃ u, F_X4_takeGreatest t d = B_X4_takeGreatest_45 u ∧ frm (ks [2401]) t u ∧ ∀ i, i < n → tQ u 2401 0 i = owD t nS d pl i := by
  unfold F_X4_takeGreatest
  obtain ⟨N, hN⟩ : ∃ N : Nat, N = 10000 := ⟨_, rfl⟩
  rw [← hN]
  refine loop_wh (B := fun fu (x : Nat × TS) => B_X4_takeGreatest_2 fu x.2 d (nt x.1)) (mu := fun x => n - x.1) (G := fun o => ∃ u, o = B_X4_takeGreatest_45 u ∧ frm (ks [2401]) t u ∧ ∀ i, i < n → tQ u 2401 0 i = owD t nS d pl i) (P := fun x => x.1 ≤ n ∧ frm (ks [2401]) t x.2 ∧ ∀ i, i < x.1 → tQ x.2 2401 0 i = owD t nS d pl i) ?_ N (0, t) ⟨Nat.zero_le _, frm_rf, fun i hi => absurd hi (Nat.not_lt_zero i)⟩ (by show n - 0 < N; omega)
  intro fu x hx
  obtain ⟨k, u⟩ := x
  have hk : k ≤ n := hx.1
  have h : frm (ks [2401]) t u := hx.2.1
  have hz : ∀ i, i < k → tQ u 2401 0 i = owD t nS d pl i := hx.2.2
  show (∃ u', BB_X4_takeGreatest_2 (B_X4_takeGreatest_2 fu) u d (nt k) = _ ∧ _) ∨ ∃ a', BB_X4_takeGreatest_2 (B_X4_takeGreatest_2 fu) u d (nt k) = _ ∧ _
  have hLu := Ilen_f h hL
  have hSu := Ispan_f h (by decide) hS
  have e405 : tI u 405 0 = nt n := by rw [(h.1 405 rfl).2.1, h405]
  unfold BB_X4_takeGreatest_2
  rw [e405, igE (by omega) (by omega)]
  by_cases e : k = n
  · left
    rw [if_pos (by omega)]
    rw [e] at hz
    exact ⟨u, rfl, h, hz⟩
  right
  obtain ⟨p1, p2⟩ := hp k (by omega)
  have eQ : tQ u 2400 0 k = some (pl k) := by rw [(h.1 2400 rfl).2.2.2.2.2.2]; exact p1
  have e38 : ∀ o, B_X4_takeGreatest_38 (B_X4_takeGreatest_2 fu) u d (nt k) o (nt k) = B_X4_takeGreatest_2 fu (uQ u 2401 0 k o) d (nt (k + 1)) := by
    intro o
    unfold B_X4_takeGreatest_38
    rw [(show tL _ 2401 0 = 6 from hLu 2401 rfl), gd_nt _ (by omega) (by omega), nxt_e, nt_cl (by omega), nt_succ]
  have hnew : ∀ o, o = owD t nS d pl k → ∀ i, i < k + 1 → tQ (uQ u 2401 0 k o) 2401 0 i = owD t nS d pl i := by
    intro o ho i hi
    rw [Q_uQ, m1_s]
    by_cases c : i = k
    · subst c; rw [m1_s, ho]
    · rw [m1_n c]; exact hz i (by omega)
  rw [if_neg (by omega)]
  simp (disch := omega) only [(show tL _ 2400 0 = 6 from hLu 2400 rfl), gd_nt, nt_cl, eQ, nxt_e, oc_s, X1_owning_eq hSu p2, ob_s, e38]
  rw [own_f h (by decide)]
  cases ho : own t nS (pl k) d with
  | none =>
    rw [oc_n]
    exact ⟨(k + 1, _), rfl, ⟨by show k + 1 ≤ n; omega, frm_tr h (frm_uQ rfl), hnew none (by unfold owD; rw [ho, oel_n])⟩, by show n - (k + 1) < n - k; omega⟩
  | some s =>
    rw [oc_s]
    obtain ⟨c, hc, -, hc2, hc3⟩ := sp_club hB hS (own_lt ho).1
    have e1101 : tR u 1101 s = some c := by rw [(h.1 1101 rfl).2.2.1]; exact hc2
    rw [e1101]
    exact ⟨(k + 1, _), rfl, ⟨by show k + 1 ≤ n; omega, frm_tr h (frm_uQ rfl), hnew (some c) (by unfold owD; rw [ho, oel_s, hc3, nt_cl (by omega)])⟩, by show n - (k + 1) < n - k; omega⟩
def kChain : List Nat := [405, 1370, 2401]
theorem m_chain (hL : Ilen t) (hT : Itime t) (hA : Iall nB nS nM t) (hI : Ideal nB t) (hbd : ∀ c, c < nB → -2000000000 ≤ (tA t 3310 0 c).toInt ∧ (tA t 3310 0 c).toInt ≤ 2000000000) : Eqm (F_X12_chain t) (fun t => F_X13_chain t) (fun t2 => Ideal nB t2 ∧ frm (ks kChain) t t2) := by
  obtain ⟨dd, mi, hdd, hmi, t1_, t2_, t3_, t4_⟩ := hT
  have h150 := hA.1.1
  have hS := hA.2.2.2.2.2.1
  have hI0 := hI
  obtain ⟨n, hn, n1, n2, n3⟩ := hI
  by_cases h0 : n = 0
  · refine ⟨-1, t, t, ?_, ?_, hI0, frm_rf⟩
    · unfold F_X12_chain
      rw [n1, h0, if_neg (fun q => q rfl)]
    · show F_X13_chain t = _
      unfold F_X13_chain
      rw [n2, h0, if_neg (fun q => q rfl)]
  have hn0 : ¬ nt n = 0 := fun q => h0 ((nt_inj (b := 0) (by omega) (by omega)).mp q)
  obtain ⟨pl, hpl⟩ : ∃ pl : Nat → Nat, pl = fun i => (tA t 3371 0 i).toNatClampNeg := ⟨_, rfl⟩
  obtain ⟨cl, hcl⟩ : ∃ cl : Nat → Nat, cl = fun i => (tA t 3372 0 i).toNatClampNeg := ⟨_, rfl⟩
  obtain ⟨fe, hfe⟩ : ∃ fe : Nat → Nat, fe = fun i => (tA t 3373 0 i).toNatClampNeg := ⟨_, rfl⟩
  have hq : ∀ i, i < n → (pl i < nB ∧ tQ t 2400 0 i = some (pl i) ∧ tA t 3371 0 i = nt (pl i)) ∧ (cl i < nB ∧ tQ t 2402 0 i = some (cl i) ∧ tA t 3372 0 i = nt (cl i)) ∧ (fe i ≤ 999999 ∧ tA t 2403 0 i = nt (fe i) ∧ tA t 3373 0 i = nt (fe i)) ∧ tA t 2404 0 i = tA t 3374 0 i := by
    intro i hi
    obtain ⟨⟨p, p1, p2, p3, p4⟩, ⟨c, c1, c2, c3, c4⟩, ⟨f, f1, f2, f3⟩, o1, -⟩ := n3 i hi
    have ep : pl i = p := by
      rw [hpl]
      show (tA t 3371 0 i).toNatClampNeg = p
      rw [p4, nt_cl (by omega)]
    have ec : cl i = c := by
      rw [hcl]
      show (tA t 3372 0 i).toNatClampNeg = c
      rw [c4, nt_cl (by omega)]
    have ef : fe i = f := by
      rw [hfe]
      show (tA t 3373 0 i).toNatClampNeg = f
      rw [f3, nt_cl (by omega)]
    rw [ep, ec, ef]
    exact ⟨⟨p1, p3, p4⟩, ⟨c1, c3, c4⟩, ⟨f1, f2, f3⟩, o1⟩
  obtain ⟨u, a1, a2, a3⟩ := sellers hL h150 hS hn n1 (fun i hi => ⟨(hq i hi).1.2.1, (hq i hi).1.1⟩) (nt dd)
  have hcoin := hA.2.1.1
  have hD : hdC u n pl cl fe (owD t nS (nt dd) pl) (fun i => tA t 3374 0 i) (fun i => tA t 3310 0 (cl i)) := by
    refine ⟨hn, by rw [(a2.1 405 rfl).2.1]; exact n1, fun i hi => ?_⟩
    obtain ⟨⟨q1, q2, q3⟩, ⟨q4, q5, q6⟩, ⟨q7, q8, q9⟩, q10⟩ := hq i hi
    rw [(a2.1 2400 rfl).2.2.2.2.2.2, (a2.1 2402 rfl).2.2.2.2.2.2, (a2.1 2403 rfl).2.2.2.2.1, (a2.1 2404 rfl).2.2.2.2.1, (a2.1 103 rfl).2.1]
    exact ⟨q2, q5, q8, q7, q10, a3 i hi, hcoin (cl i) q4, (hbd (cl i) q4).1, (hbd (cl i) q4).2⟩
  obtain ⟨t1, ht1⟩ : ∃ t1, t1 = uI u 405 0 0 := ⟨_, rfl⟩
  have hf : frm (ks [405, 2401]) t t1 := by
    rw [ht1]
    exact frm_tr (frm_sb a2 (ks_sb rfl)) (frm_uI rfl)
  have hL1 := Ilen_f hf hL
  have hM : hdM t1 n pl cl fe (owD t nS (nt dd) pl) (fun i => tA t 3374 0 i) (fun i => tA t 3310 0 (cl i)) := by
    refine ⟨hn, by rw [(hf.1 1370 rfl).2.1]; exact n2, fun i hi => ?_⟩
    obtain ⟨⟨q1, q2, q3⟩, ⟨q4, q5, q6⟩, ⟨q7, q8, q9⟩, q10⟩ := hq i hi
    rw [(hf.1 3371 rfl).2.2.2.2.1, (hf.1 3372 rfl).2.2.2.2.1, (hf.1 3373 rfl).2.2.2.2.1, (hf.1 3374 rfl).2.2.2.2.1, (hf.1 3310 rfl).2.2.2.2.1, (hf.1 1301 rfl).2.1, t2_, ownerOn_eqM hL1 (Mspan_f hf (by decide) (IsM hS)), own_f hf (by decide), (hf.1 3318 rfl).2.2.2.2.1]
    refine ⟨q3, by omega, q6, by omega, q9, q7, rfl, ?_, fun c hc => ?_, rfl, (hbd (cl i) q4).1, (hbd (cl i) q4).2⟩
    · unfold owD
      cases ho : own t nS (pl i) (nt dd) with
      | none => rfl
      | some s =>
        obtain ⟨c, hc, -, -, hc3⟩ := sp_club h150 hS (own_lt ho).1
        rw [oel_s, oel_s, oel_s, hc3, nt_cl (by omega)]
    · unfold owD at hc
      cases ho : own t nS (pl i) (nt dd) with
      | none => rw [ho, oel_n] at hc; cases hc
      | some s =>
        obtain ⟨c', hc', -, -, hc3⟩ := sp_club h150 hS (own_lt ho).1
        rw [ho, oel_s, hc3, nt_cl (by omega)] at hc
        have := Option.some.inj hc
        omega
  have hp := pow_le n (by omega)
  have h1p : 0 < 2 ^ n := Nat.pow_pos (by omega)
  obtain ⟨N, hN⟩ : ∃ N : Nat, N = 10000 := ⟨_, rfl⟩
  obtain ⟨r, r1, r2⟩ := chain_lock (Ilen_f a2 hL) hL1 hD hM (2 ^ n - 1) 1 N N 0 0 (by omega) (by omega) (by omega) (by omega)
  refine ⟨r, t1, uI t1 1370 0 0, ?_, ?_, ⟨0, by omega, ?_, ?_, fun i hi => absurd hi (Nat.not_lt_zero i)⟩, frm_tr (frm_sb hf (ks_sb rfl)) (frm_uI rfl)⟩
  · unfold F_X12_chain
    rw [n1, if_pos hn0, t1_, a1]
    unfold B_X4_takeGreatest_45
    rw [← hN]
    show ob2 (B_X4_takeGreatest_52 N u (nt 0) 0 (nt 1)) _ = _
    rw [r1, ob2_s, ht1]
  · show F_X13_chain t1 = _
    unfold F_X13_chain
    rw [hM.2.1, if_pos hn0, ← hN]
    exact r2
  · rw [I_uI_n (by decide), ht1, I_uI, m1_s]; rfl
  · rw [I_uI, m1_s]; rfl
end
