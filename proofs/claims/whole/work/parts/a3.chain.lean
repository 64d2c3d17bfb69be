/-! PART a3: chains of deals: the method. -/
section
variable {t : TS} {n v : Nat} {pl cl fe : Nat → Nat} {ow : Nat → Option Nat} {oth co : Nat → Int32}
theorem pc_cmp : ∀ a, a ≤ 10 → ∀ b, b ≤ 10 → (0 < nt a - nt b ↔ b < a) ∧ (nt a - nt b = 0 ↔ a = b) := by decide +kernel
theorem feesOf_eq (hL : Ilen t) (hv : v < 1024) (hn : n ≤ 6) (h : tI t 405 0 = nt n) : F_X4_feesOf t (nt v) = some (sb (tA t 2403 0) v n) := by
  unfold F_X4_feesOf
  obtain ⟨N, hN⟩ : ∃ N : Nat, N = 10000 := ⟨_, rfl⟩
  rw [← hN]
  refine loop_wh (B := fun fu (i : Nat) => B_X4_feesOf_4 fu t (nt v) (sb (tA t 2403 0) v i) (nt i)) (mu := fun i => n - i) (G := fun o => o = some (sb (tA t 2403 0) v n)) (P := fun i => i ≤ n) ?_ N 0 (Nat.zero_le _) (by omega)
  intro fu i hi
  show BB_X4_feesOf_4 (B_X4_feesOf_4 fu) t _ _ _ = _ ∨ ∃ a', BB_X4_feesOf_4 (B_X4_feesOf_4 fu) t _ _ _ = _ ∧ _
  unfold BB_X4_feesOf_4
  rw [h, igE (by omega) (by omega)]
  by_cases e : i = n
  · left
    subst e
    rw [if_pos (Nat.le_refl _)]
  · right
    refine ⟨i + 1, ?_, by omega, by omega⟩
    rw [if_neg (by omega), (show tL _ 2403 0 = 6 from hL 2403 rfl), gd_nt _ (by omega) (by omega), bit_bb hv (by omega), nt_cl (by omega), b1_mul, nt_succ]
    rfl
def tkC (pl cl fe : Nat → Nat) (ow : Nat → Option Nat) (oth co : Nat → Int32) (n v b : Nat) (fs bf : Int32) : Prop := (pcB b < pcB v ∨ (pcB v = pcB b ∧ fs < bf)) ∧ allC pl cl fe ow oth co n v
theorem cchain_t (k : TS → Int32 → Int32 → Int32 → Option (Int32 × TS)) (hL : Ilen t) (hD : hdC t n pl cl fe ow oth co) (hv : v < 2 ^ n) {b : Nat} (hb : b < 1024) (bf : Int32) : (tkC pl cl fe ow oth co n v b (sb (tA t 2403 0) v n) bf → BB_X4_takeGreatest_52 k t (nt b) bf (nt v) = k t (nt v) (sb (tA t 2403 0) v n) (nt (v + 1))) ∧ (¬ tkC pl cl fe ow oth co n v b (sb (tA t 2403 0) v n) bf → BB_X4_takeGreatest_52 k t (nt b) bf (nt v) = k t (nt b) bf (nt (v + 1))) := by
  have hn := hD.1
  have h405 := hD.2.1
  have hp := pow_le n (by omega)
  have hv2 : v < 1024 := by omega
  have h1 : pcB v ≤ 10 := cntP_le 10
  have h2 : pcB b ≤ 10 := cntP_le 10
  obtain ⟨p1, p2⟩ := pc_cmp _ h1 _ h2
  obtain ⟨r, r1, r2⟩ := ccan_eq hL hD hv2
  unfold BB_X4_takeGreatest_52
  rw [h405, pow_b n (by omega), igE (by omega) (by omega), if_neg (by omega), bcJ hv2, ob_s, bcJ hb, ob_s, feesOf_eq hL hv2 hn h405, ob_s]
  unfold B_X4_takeGreatest_99 B_X4_takeGreatest_114 tkC
  rw [r1, ob_s, nt_succ, ifP (propext p1), ifP (congrArg Not (propext p2))]
  have fin : (allC pl cl fe ow oth co n v → (if r = 0 then k t (nt b) bf (nt (v + 1)) else k t (nt v) (sb (tA t 2403 0) v n) (nt (v + 1))) = k t (nt v) (sb (tA t 2403 0) v n) (nt (v + 1))) ∧ (¬ allC pl cl fe ow oth co n v → (if r = 0 then k t (nt b) bf (nt (v + 1)) else k t (nt v) (sb (tA t 2403 0) v n) (nt (v + 1))) = k t (nt b) bf (nt (v + 1))) := by
    refine ⟨fun q => if_neg (fun q2 => r2.mp q2 q), fun q => if_pos (r2.mpr q)⟩
  by_cases c1 : pcB b < pcB v
  · rw [if_pos c1]
    exact ⟨fun q => fin.1 q.2, fun q => fin.2 (fun q2 => q ⟨Or.inl c1, q2⟩)⟩
  rw [if_neg c1]
  by_cases c2 : pcB v = pcB b
  case neg =>
    rw [if_pos c2]
    exact ⟨fun q => absurd q.1 (fun q2 => q2.elim c1 (fun q3 => c2 q3.1)), fun _ => rfl⟩
  rw [if_neg (fun q => q c2)]
  by_cases c3 : sb (tA t 2403 0) v n < bf
  · rw [if_neg (Int32.not_le.mpr c3)]
    exact ⟨fun q => fin.1 q.2, fun q => fin.2 (fun q2 => q ⟨Or.inr ⟨c2, c3⟩, q2⟩)⟩
  · rw [if_pos (Int32.not_lt.mp c3)]
    exact ⟨fun q => absurd q.1 (fun q2 => q2.elim c1 (fun q3 => c3 q3.2)), fun _ => rfl⟩
theorem mchain_t (k : TS → Int32 → Int32 → Int32 → Option (Int32 × TS)) (hL : Ilen t) (hD : hdM t n pl cl fe ow oth co) (hv : v < 2 ^ n) {b : Nat} (hb : b < 1024) (bf : Int32) : (tkC pl cl fe ow oth co n v b (sb (tA t 3373 0) v n) bf → BB_X13_chain_15 k t (nt b) bf (nt v) = k t (nt v) (sb (tA t 3373 0) v n) (nt (v + 1))) ∧ (¬ tkC pl cl fe ow oth co n v b (sb (tA t 3373 0) v n) bf → BB_X13_chain_15 k t (nt b) bf (nt v) = k t (nt b) bf (nt (v + 1))) := by
  have hn := hD.1
  have h370 := hD.2.1
  have hp := pow_le n (by omega)
  have hv2 : v < 1024 := by omega
  have h1 : pcB v ≤ 10 := cntP_le 10
  have h2 : pcB b ≤ 10 := cntP_le 10
  obtain ⟨r, r1, r2⟩ := mcan_eq hL hD hv2
  have h31 : B_X13_chain_31 k 10000 t (nt b) bf (nt v) 0 0 = B_X13_chain_72 k t (nt b) bf (nt v) (sb (tA t 3373 0) v n) := by
    obtain ⟨N, hN⟩ : ∃ N : Nat, N = 10000 := ⟨_, rfl⟩
    rw [← hN]
    refine loop_wh (B := fun fu (i : Nat) => B_X13_chain_31 k fu t (nt b) bf (nt v) (sb (tA t 3373 0) v i) (nt i)) (mu := fun i => n - i) (G := fun o => o = B_X13_chain_72 k t (nt b) bf (nt v) (sb (tA t 3373 0) v n)) (P := fun i => i ≤ n) ?_ N 0 (Nat.zero_le _) (by omega)
    intro fu i hi
    show BB_X13_chain_31 k (B_X13_chain_31 k fu) t _ _ _ _ _ = _ ∨ ∃ a', BB_X13_chain_31 k (B_X13_chain_31 k fu) t _ _ _ _ _ = _ ∧ _
    unfold BB_X13_chain_31 B_X13_chain_63
    rw [h370, igE (by omega) (by omega)]
    by_cases e : i = n
    · left
      subst e
      rw [if_pos (Nat.le_refl _)]
    · right
      refine ⟨i + 1, ?_, by omega, by omega⟩
      rw [if_neg (by omega), bit_bb hv2 (by omega), nt_succ]
      show _ = B_X13_chain_31 k fu t (nt b) bf (nt v) (sb (tA t 3373 0) v i + if v.testBit i then tA t 3373 0 i else 0) (nt (i + 1))
      cases g : v.testBit i with
      | false =>
        rw [if_pos (by decide)]
        simp only [Bool.false_eq_true, if_false]
      | true =>
        rw [if_neg (by decide), (show tL _ 3373 0 = 6 from hL 3373 rfl), gd_nt _ (by omega) (by omega), nt_cl (by omega)]
        simp only [if_true]
  unfold BB_X13_chain_15
  rw [h370, pow_b n (by omega), igE (by omega) (by omega), if_neg (by omega), h31]
  unfold B_X13_chain_72 B_X13_chain_100 B_X13_chain_116 tkC
  rw [bitsOf_eq hv2, ob_s, bitsOf_eq hb, ob_s, ob_s, ob_s, r1, ob_s, nt_succ, ilT (by omega) (by omega)]
  have c0 : (¬ nt (pcB v) = nt (pcB b)) = ¬ pcB v = pcB b := congrArg Not (eq_nt (by omega) (by omega))
  rw [ifP c0]
  have fin : (allC pl cl fe ow oth co n v → (if ¬ r = 0 then k t (nt v) (sb (tA t 3373 0) v n) (nt (v + 1)) else k t (nt b) bf (nt (v + 1))) = k t (nt v) (sb (tA t 3373 0) v n) (nt (v + 1))) ∧ (¬ allC pl cl fe ow oth co n v → (if ¬ r = 0 then k t (nt v) (sb (tA t 3373 0) v n) (nt (v + 1)) else k t (nt b) bf (nt (v + 1))) = k t (nt b) bf (nt (v + 1))) := by
    refine ⟨fun q => if_pos (fun q2 => r2.mp q2 q), fun q => if_neg (fun q2 => q2 (r2.mpr q))⟩
  by_cases c1 : pcB v < pcB b
  · rw [if_pos c1]
    exact ⟨fun q => absurd q.1 (fun q2 => by omega), fun _ => rfl⟩
  rw [if_neg c1]
  by_cases c2 : pcB v = pcB b
  case neg =>
    rw [if_pos c2]
    exact ⟨fun q => fin.1 q.2, fun q => fin.2 (fun q2 => q ⟨Or.inl (by omega), q2⟩)⟩
  rw [if_neg (fun q => q c2)]
  by_cases c3 : sb (tA t 3373 0) v n < bf
  · rw [if_neg (Int32.not_le.mpr c3)]
    exact ⟨fun q => fin.1 q.2, fun q => fin.2 (fun q2 => q ⟨Or.inr ⟨c2, c3⟩, q2⟩)⟩
  · rw [if_pos (Int32.not_lt.mp c3)]
    exact ⟨fun q => absurd q.1 (fun q2 => q2.elim (fun q3 => by omega) (fun q3 => c3 q3.2)), fun _ => rfl⟩
theorem chain_lock {u : TS} (hL : Ilen t) (hLu : Ilen u) (hD : hdC t n pl cl fe ow oth co) (hM : hdM u n pl cl fe ow oth co) : ∀ m v f1 f2 b bf, v + m = 2 ^ n → m < f1 → m < f2 → b < 1024 → ∃ r, B_X4_takeGreatest_52 f1 t (nt b) bf (nt v) = some (r, uI t 405 0 0) ∧ B_X13_chain_15 f2 u (nt b) bf (nt v) = some (r, uI u 1370 0 0) := by
  have hn := hD.1
  have hp := pow_le n (by omega)
  have hfe : ∀ v, sb (tA t 2403 0) v n = sb (tA u 3373 0) v n := fun v => sb_cong n (fun k hk => by
    rw [(hD.2.2 k hk).2.2.1, (hM.2.2 k hk).2.2.2.2.1])
  intro m
  induction m with
  | zero =>
    intro v f1 f2 b bf hv h1 h2 hb
    obtain ⟨f1, rfl⟩ : ∃ k, f1 = k + 1 := ⟨f1 - 1, by omega⟩
    obtain ⟨f2, rfl⟩ : ∃ k, f2 = k + 1 := ⟨f2 - 1, by omega⟩
    refine ⟨nt b, ?_, ?_⟩
    · show BB_X4_takeGreatest_52 (B_X4_takeGreatest_52 f1) t _ _ _ = _
      unfold BB_X4_takeGreatest_52
      rw [hD.2.1, pow_b n (by omega), igE (by omega) (by omega), if_pos (by omega)]
      rfl
    · show BB_X13_chain_15 (B_X13_chain_15 f2) u _ _ _ = _
      unfold BB_X13_chain_15
      rw [hM.2.1, pow_b n (by omega), igE (by omega) (by omega), if_pos (by omega)]
      rfl
  | succ m ih =>
    intro v f1 f2 b bf hv h1 h2 hb
    obtain ⟨f1, rfl⟩ : ∃ k, f1 = k + 1 := ⟨f1 - 1, by omega⟩
    obtain ⟨f2, rfl⟩ : ∃ k, f2 = k + 1 := ⟨f2 - 1, by omega⟩
    have ct := cchain_t (B_X4_takeGreatest_52 f1) hL hD (v := v) (by omega) hb bf
    have mt := mchain_t (B_X13_chain_15 f2) hLu hM (v := v) (by omega) hb bf
    rw [hfe v] at ct
    show ∃ r, BB_X4_takeGreatest_52 (B_X4_takeGreatest_52 f1) t _ _ _ = _ ∧ BB_X13_chain_15 (B_X13_chain_15 f2) u _ _ _ = _
    by_cases c : tkC pl cl fe ow oth co n v b (sb (tA u 3373 0) v n) bf
    · rw [ct.1 c, mt.1 c]
      exact ih (v + 1) f1 f2 v _ (by omega) (by omega) (by omega) (by omega)
    · rw [ct.2 c, mt.2 c]
      exact ih (v + 1) f1 f2 b bf (by omega) (by omega) (by omega) hb
end
