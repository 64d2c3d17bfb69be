/-! PART 95: the class parts by weights, whole. -/
section
variable {t : TS} {kw iw kp ip n W : Nat} {q : Nat → Nat}
theorem ap_out (hk : ¬ kw = kp) (hlw : n ≤ tL t kw iw) (hlp : n ≤ tL t kp ip) (hn : n ≤ 200) (hW : W ≤ 10000000) (hq : ∀ i, i < n → tA t kw iw i = nt (q i) ∧ q i ≤ 10000000) (hS : 0 < sN q n) : ∃ u, B_X12_addParts_85 t (nt W) (kw, iw) (nt n) (kp, ip) (jn (sN q n)) (jn (W - sN (fun i => W * q i / sN q n) n)) = some u ∧ oA kp ip t u ∧ ∀ j, tA u kp ip j = if j < n then tA t kp ip j + (if mkM n (fun i => W * q i % sN q n) (W - sN (fun i => W * q i / sN q n) n) j then 1 else 0) else tA t kp ip j := by
  have hSb : sN q n ≤ 10000000 * n := sN_bd n (fun i hi => (hq i hi).2)
  have hSb2 : sN q n ≤ 2000000000 := by
    have : 10000000 * n ≤ 10000000 * 200 := Nat.mul_le_mul_left _ hn
    omega
  have hLn := left_lt (W := W) hS
  have hex : ∀ j, j < W - sN (fun i => W * q i / sN q n) n → ∃ i, i < n ∧ mkM n (fun i => W * q i % sN q n) j i = false ∧ 0 < W * q i % sN q n := fun j hj => mk_ex hS hj
  obtain ⟨S, hSd⟩ : ∃ S, S = sN q n := ⟨_, rfl⟩
  rw [← hSd] at hS hSb2 hLn hex ⊢
  obtain ⟨L, hLd⟩ : ∃ L, L = W - sN (fun i => W * q i / S) n := ⟨_, rfl⟩
  rw [← hLd] at hLn hex ⊢
  obtain ⟨rs, hrs⟩ : ∃ rs : Nat → Nat, rs = fun i => W * q i % S := ⟨_, rfl⟩
  have hrS : ∀ i, rs i < S := fun i => by rw [hrs]; exact Nat.mod_lt _ hS
  rw [← hrs] at hex ⊢
  unfold B_X12_addParts_85
  obtain ⟨N, hN⟩ : ∃ N : Nat, N = 10000 := ⟨_, rfl⟩
  rw [← hN]
  refine loop_wh (B := fun fu (x : Nat × TS × Nat × Nat) => B_X12_addParts_95 fu x.2.1 (nt W) (kw, iw) (nt n) (kp, ip) (jn S) (jn L) (jn x.2.2.1) (nt x.2.2.2 - 1) (nt x.1)) (mu := fun x => L - x.1) (G := fun o => ∃ u, o = some u ∧ oA kp ip t u ∧ ∀ j, tA u kp ip j = if j < n then tA t kp ip j + (if mkM n rs L j then 1 else 0) else tA t kp ip j) (P := fun x => x.1 ≤ L ∧ oA kp ip t x.2.1 ∧ x.2.2.1 ≤ S ∧ x.2.2.2 ≤ n ∧ (∀ i, i < n → (mkM n rs x.1 i = true ↔ ¬ (rs i < x.2.2.1 ∨ (rs i = x.2.2.1 ∧ x.2.2.2 ≤ i)))) ∧ ∀ j, tA x.2.1 kp ip j = if j < n then tA t kp ip j + (if mkM n rs x.1 j then 1 else 0) else tA t kp ip j) ?_ N (0, t, S, 0) ⟨Nat.zero_le _, oA_rf, Nat.le_refl _, Nat.zero_le _, fun i _ => ?_, fun j => ?_⟩ (by show L - 0 < N; omega)
  · intro fu x hx
    obtain ⟨j, u, lr, la⟩ := x
    have hj : j ≤ L := hx.1
    have h : oA kp ip t u := hx.2.1
    have hlr : lr ≤ S := hx.2.2.1
    have hla : la ≤ n := hx.2.2.2.1
    have hm : ∀ i, i < n → (mkM n rs j i = true ↔ ¬ (rs i < lr ∨ (rs i = lr ∧ la ≤ i))) := hx.2.2.2.2.1
    have hz : ∀ i, tA u kp ip i = if i < n then tA t kp ip i + (if mkM n rs j i then 1 else 0) else tA t kp ip i := hx.2.2.2.2.2
    show (∃ u', BB_X12_addParts_95 (B_X12_addParts_95 fu) u (nt W) (kw, iw) (nt n) (kp, ip) (jn S) (jn L) (jn lr) (nt la - 1) (nt j) = _ ∧ _) ∨ ∃ a', BB_X12_addParts_95 (B_X12_addParts_95 fu) u (nt W) (kw, iw) (nt n) (kp, ip) (jn S) (jn L) (jn lr) (nt la - 1) (nt j) = _ ∧ _
    have hlw' : tL u kw iw = tL t kw iw := by rw [h.2.2.2.1]
    have hlp' : tL u kp ip = tL t kp ip := by rw [h.2.2.2.1]
    have hqu : tA u kw = tA t kw := h.2.2.2.2.2.2.1 kw hk
    have c0 : (0 ≤ lg_cmp (nt j).toInt64 (jn L)) = (L ≤ j) := by
      rw [nt_jn (by omega)]
      exact lj_ge (by omega) (by omega)
    unfold BB_X12_addParts_95
    rw [ifP c0]
    by_cases e : j = L
    · left
      subst e
      rw [if_pos (Nat.le_refl _)]
      exact ⟨u, rfl, h, hz⟩
    right
    have hjL : j < L := by omega
    obtain ⟨i0, e1, e2, e3⟩ := hex j hjL
    rw [if_neg (by omega), igE (by omega) (by omega), if_neg (by omega), ap_in (q := q) (m := mkM n rs j) (S := S) _ (by omega) hn hW (fun i hi => by rw [hqu]; exact hq i hi) hS hSb2 (jn L) (nt j) hlr hla (fun i hi => by have := hm i hi; rw [show rs i = W * q i % S by rw [hrs]] at this; exact this), show (fun i => W * q i % S) = rs from hrs.symm]
    cases g : bsF rs (mkM n rs j) n with
    | none => exact absurd (bsF_n n g i0 e1) (by rw [e2]; decide)
    | some b =>
    obtain ⟨b1_, b2, b3, b4⟩ := bsF_s n b g
    have hmk : ∀ i, mkM n rs (j + 1) i = (mkM n rs j i || decide (b = i)) := by
      intro i
      show (mkM n rs j i || decide (bsF rs (mkM n rs j) n = some i)) = _
      rw [g]
      congr 1
      exact decide_eq_decide.mpr ⟨fun q => Option.some.inj q, fun q => by rw [q]⟩
    have hbb := hm b b1_
    have hbb2 : rs b < lr ∨ (rs b = lr ∧ la ≤ b) := by
      by_cases c : rs b < lr ∨ (rs b = lr ∧ la ≤ b)
      · exact c
      · rw [hbb.mpr c] at b2; cases b2
    refine ⟨(j + 1, uA u kp ip b (tA u kp ip b + 1), rs b, b + 1), ?_, ⟨hjL, oA_uA h, Nat.le_of_lt (hrS b), b1_, fun i hi => ?_, fun i => ?_⟩, by show L - (j + 1) < L - j; omega⟩
    · rw [oel_s, oel_s]
      unfold B_X12_addParts_197
      rw [if_pos (nt_nn (by omega))]
      show gd (nt b) (tL u kp ip) (gd (nt b) (tL u kp ip) (nxt (uA u kp ip (nt b).toNatClampNeg (tA u kp ip (nt b).toNatClampNeg + 1)) _)) = _
      rw [gd_nt _ (by omega) (by omega), gd_nt _ (by omega) (by omega), nxt_e, nt_cl (by omega), nt_succ]
      show _ = B_X12_addParts_95 fu _ _ _ _ _ _ _ (jn (rs b)) (nt (b + 1) - 1) (nt (j + 1))
      rw [nt_pred, hrs]
    · show mkM n rs (j + 1) i = true ↔ ¬ (rs i < rs b ∨ (rs i = rs b ∧ b + 1 ≤ i))
      rw [hmk i, Bool.or_eq_true, decide_eq_true_eq]
      have hmi := hm i hi
      constructor
      · rintro (q | q)
        · have := hmi.mp q; omega
        · subst q; omega
      · intro q
        by_cases c : mkM n rs j i = true
        · exact Or.inl c
        · right
          have cf : mkM n rs j i = false := by simpa using c
          have h3 := b3 i hi cf
          by_cases c2 : i < b
          · have := b4 i c2 cf; omega
          · omega
    · show tA (uA u kp ip b (tA u kp ip b + 1)) kp ip i = if i < n then tA t kp ip i + (if mkM n rs (j + 1) i then 1 else 0) else tA t kp ip i
      rw [A_uA, m1_s, hmk i]
      by_cases c : i = b
      · subst c
        rw [m1_s, hz i, if_pos b1_, if_pos b1_, b2, Bool.false_or, decide_eq_true rfl, if_pos rfl, if_neg (by decide), Int32.add_zero]
      · rw [m1_n c, hz i, decide_eq_false (fun q => c q.symm), Bool.or_false]
  · show mkM n rs 0 i = true ↔ ¬ (rs i < S ∨ (rs i = S ∧ 0 ≤ i))
    exact ⟨fun q => absurd (show false = true from q) (by decide), fun q => absurd (Or.inl (hrS i)) q⟩
  · show tA t kp ip j = if j < n then tA t kp ip j + (if mkM n rs 0 j then 1 else 0) else tA t kp ip j
    have : (if mkM n rs 0 j = true then (1 : Int32) else 0) = 0 := if_neg (fun q => absurd (show false = true from q) (by decide))
    rw [this, Int32.add_zero, ite_self]
theorem addParts_eq (hk : ¬ kw = kp) (hlw : n ≤ tL t kw iw) (hlp : n ≤ tL t kp ip) (hn : n ≤ 200) (hW : W ≤ 10000000) (hq : ∀ i, i < n → tA t kw iw i = nt (q i) ∧ q i ≤ 10000000) (hS : 0 < sN q n) : ∃ u, F_X12_addParts t (nt W) (kw, iw) (nt n) (kp, ip) = some u ∧ oA kp ip t u ∧ ∀ j, tA u kp ip j = if j < n then tA t kp ip j + nt (prN n W q j) else tA t kp ip j := by
  have hSb : sN q n ≤ 10000000 * n := sN_bd n (fun i hi => (hq i hi).2)
  have hSb2 : sN q n ≤ 2000000000 := by
    have : 10000000 * n ≤ 10000000 * 200 := Nat.mul_le_mul_left _ hn
    omega
  obtain ⟨u1, a1, a2, a3⟩ := ap_base hk hlw hlp hn hW hq hS
  have hlw' : tL u1 kw iw = tL t kw iw := by rw [a2.2.2.2.1]
  have hlp' : tL u1 kp ip = tL t kp ip := by rw [a2.2.2.2.1]
  have hqu : tA u1 kw = tA t kw := a2.2.2.2.2.2.2.1 kw hk
  obtain ⟨u2, b1_, b2, b3⟩ := ap_out (t := u1) (iw := iw) (ip := ip) hk (by omega) (by omega) hn hW (fun i hi => by rw [hqu]; exact hq i hi) hS
  refine ⟨u2, ?_, oA_tr a2 b2, fun j => ?_⟩
  · rw [ap_sum hlw hn hq]
    unfold B_X12_addParts_28
    have c0 : (0 < lg_cmp (jn (sN q n)) 0) = (0 < sN q n) := lj_gt (b := 0) (by omega) (by omega)
    rw [ifP c0, if_pos hS, a1, b1_]
  · rw [b3 j, a3 j]
    by_cases e : j < n
    · rw [if_pos e, if_pos e, if_pos e]
      unfold prN
      cases mkM n (fun i => W * q i % sN q n) (W - sN (fun i => W * q i / sN q n) n) j with
      | true => rw [if_pos rfl, if_pos rfl, Int32.add_assoc, nt_succ]
      | false => rw [if_neg (by decide), if_neg (by decide), Int32.add_zero, Nat.add_zero]
    · rw [if_neg e, if_neg e, if_neg e]
theorem addParts_0 (hlw : n ≤ tL t kw iw) (hn : n ≤ 200) (hq : ∀ i, i < n → tA t kw iw i = nt (q i) ∧ q i ≤ 10000000) (hS : sN q n = 0) (W' : Int32) : F_X12_addParts t W' (kw, iw) (nt n) (kp, ip) = some t := by
  rw [ap_sum hlw hn hq, hS]
  unfold B_X12_addParts_28
  rw [if_neg (by decide)]
end
