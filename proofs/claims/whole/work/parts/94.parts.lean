/-! PART 94: the class parts by weights. -/
def oA (kp ip : Nat) (t u : TS) : Prop := tE u = tE t ∧ tI u = tI t ∧ tR u = tR t ∧ tL u = tL t ∧ tJ u = tJ t ∧ tQ u = tQ t ∧ (∀ k, ¬ k = kp → tA u k = tA t k) ∧ ∀ i, ¬ i = ip → tA u kp i = tA t kp i
theorem oA_rf {kp ip : Nat} {t : TS} : oA kp ip t t := ⟨rfl, rfl, rfl, rfl, rfl, rfl, fun _ _ => rfl, fun _ _ => rfl⟩
theorem oA_uA {kp ip j : Nat} {v : Int32} {t u : TS} (h : oA kp ip t u) : oA kp ip t (uA u kp ip j v) := by
  obtain ⟨h1, h2, h3, h4, h5, h6, h7, h8⟩ := h
  exact ⟨h1, h2, h3, h4, h5, h6, fun k hk => by rw [A_uA_n hk]; exact h7 k hk, fun i hi => by rw [A_uA, m1_n hi]; exact h8 i hi⟩
theorem oA_tr {kp ip : Nat} {t u v : TS} (h : oA kp ip t u) (h' : oA kp ip u v) : oA kp ip t v := by
  obtain ⟨h1, h2, h3, h4, h5, h6, h7, h8⟩ := h
  obtain ⟨g1, g2, g3, g4, g5, g6, g7, g8⟩ := h'
  exact ⟨g1.trans h1, g2.trans h2, g3.trans h3, g4.trans h4, g5.trans h5, g6.trans h6, fun k hk => (g7 k hk).trans (h7 k hk), fun i hi => (g8 i hi).trans (h8 i hi)⟩
theorem oA_f {D : Nat → Bool} {kp ip : Nat} {t u : TS} (h : oA kp ip t u) (hD : D kp = true) : frm D t u := by
  obtain ⟨h1, h2, h3, h4, h5, h6, h7, h8⟩ := h
  exact ⟨fun k hk => ⟨by rw [h1], by rw [h2], by rw [h3], by rw [h4], h7 k (kne hD hk), by rw [h5], by rw [h6]⟩, fun k _ => by rw [h4]⟩
theorem nm_le {i m : Nat} (hi : i < 100000) (hm : m < 100000) : (nt i ≤ nt m - 1) = (i < m) := by
  have h1 : (1 : Int32).toInt = 1 := rfl
  have hs : (nt m - 1).toInt = (m : Int) - 1 := by rw [ni_sub (by rw [nt_int (by omega), h1]; omega) (by rw [nt_int (by omega), h1]; omega), nt_int (by omega), h1]
  rw [ni_le, nt_int (by omega), hs]
  exact propext ⟨fun q => by omega, fun q => by omega⟩
section
variable {t : TS} {kw iw kp ip n W : Nat} {q : Nat → Nat}
theorem ap_sum (hlw : n ≤ tL t kw iw) (hn : n ≤ 200) (hq : ∀ i, i < n → tA t kw iw i = nt (q i) ∧ q i ≤ 10000000) (W' : Int32) : F_X12_addParts t W' (kw, iw) (nt n) (kp, ip) = B_X12_addParts_28 t W' (kw, iw) (nt n) (kp, ip) (jn (sN q n)) := by
  unfold F_X12_addParts
  obtain ⟨N, hN⟩ : ∃ N : Nat, N = 10000 := ⟨_, rfl⟩
  rw [← hN]
  refine loop_wh (B := fun fu (i : Nat) => B_X12_addParts_6 fu t W' (kw, iw) (nt n) (kp, ip) (jn (sN q i)) (nt i)) (mu := fun i => n - i) (G := fun o => o = B_X12_addParts_28 t W' (kw, iw) (nt n) (kp, ip) (jn (sN q n))) (P := fun i => i ≤ n) ?_ N 0 (Nat.zero_le _) (by omega)
  intro fu i hi
  show BB_X12_addParts_6 (B_X12_addParts_6 fu) t _ _ _ _ _ _ = _ ∨ ∃ a', BB_X12_addParts_6 (B_X12_addParts_6 fu) t _ _ _ _ _ _ = _ ∧ _
  unfold BB_X12_addParts_6
  rw [igE (by omega) (by omega)]
  by_cases e : i = n
  · left
    subst e
    rw [if_pos (Nat.le_refl _)]
  · right
    refine ⟨i + 1, ?_, by omega, by omega⟩
    rw [if_neg (by omega)]
    show gd (nt i) (tL t kw iw) _ = _
    rw [gd_nt _ (by omega) (by omega), nt_cl (by omega), (hq i (by omega)).1, nt_jn (by have := (hq i (by omega)).2; omega), jn_add, nt_succ]
    rfl
theorem ap_base (hk : ¬ kw = kp) (hlw : n ≤ tL t kw iw) (hlp : n ≤ tL t kp ip) (hn : n ≤ 200) (hW : W ≤ 10000000) (hq : ∀ i, i < n → tA t kw iw i = nt (q i) ∧ q i ≤ 10000000) (hS : 0 < sN q n) : ∃ u, B_X12_addParts_43 10000 t (nt W) (kw, iw) (nt n) (kp, ip) (jn (sN q n)) ((nt W).toInt64) 0 = B_X12_addParts_85 u (nt W) (kw, iw) (nt n) (kp, ip) (jn (sN q n)) (jn (W - sN (fun i => W * q i / sN q n) n)) ∧ oA kp ip t u ∧ ∀ j, tA u kp ip j = if j < n then tA t kp ip j + nt (W * q j / sN q n) else tA t kp ip j := by
  have hSb : sN q n ≤ 10000000 * n := sN_bd n (fun i hi => (hq i hi).2)
  have hSb2 : sN q n ≤ 2000000000 := by
    have : 10000000 * n ≤ 10000000 * 200 := Nat.mul_le_mul_left _ hn
    omega
  have hB := base_le (W := W) hS
  obtain ⟨S, hSd⟩ : ∃ S, S = sN q n := ⟨_, rfl⟩
  rw [← hSd] at hS hSb2 hB ⊢
  have hWq : ∀ i, i < n → W * q i ≤ 100000000000000 := fun i hi => by
    have := Nat.mul_le_mul hW (hq i hi).2
    omega
  obtain ⟨N, hN⟩ : ∃ N : Nat, N = 10000 := ⟨_, rfl⟩
  rw [← hN, nt_jn (by omega)]
  have hb : ∀ i, i ≤ n → sN (fun i => W * q i / S) i ≤ sN (fun i => W * q i / S) n := by
    intro i hi
    have : ∀ d, sN (fun i => W * q i / S) i ≤ sN (fun i => W * q i / S) (i + d) := by
      intro d
      induction d with
      | zero => exact Nat.le_refl _
      | succ d ih =>
        exact Nat.le_trans ih (Nat.le_add_right _ _)
    have h2 := this (n - i)
    rw [show i + (n - i) = n by omega] at h2
    exact h2
  refine loop_wh (B := fun fu (x : Nat × TS) => B_X12_addParts_43 fu x.2 (nt W) (kw, iw) (nt n) (kp, ip) (jn S) (jn (W - sN (fun i => W * q i / S) x.1)) (nt x.1)) (mu := fun x => n - x.1) (G := fun o => ∃ u, o = B_X12_addParts_85 u (nt W) (kw, iw) (nt n) (kp, ip) (jn S) (jn (W - sN (fun i => W * q i / S) n)) ∧ oA kp ip t u ∧ ∀ j, tA u kp ip j = if j < n then tA t kp ip j + nt (W * q j / S) else tA t kp ip j) (P := fun x => x.1 ≤ n ∧ oA kp ip t x.2 ∧ ∀ j, tA x.2 kp ip j = if j < x.1 then tA t kp ip j + nt (W * q j / S) else tA t kp ip j) ?_ N (0, t) ⟨Nat.zero_le _, oA_rf, fun j => (if_neg (Nat.not_lt_zero j)).symm⟩ (by show n - 0 < N; omega)
  intro fu x hx
  obtain ⟨i, u⟩ := x
  have hi : i ≤ n := hx.1
  have h : oA kp ip t u := hx.2.1
  have hz : ∀ j, tA u kp ip j = if j < i then tA t kp ip j + nt (W * q j / S) else tA t kp ip j := hx.2.2
  show (∃ u', BB_X12_addParts_43 (B_X12_addParts_43 fu) u (nt W) (kw, iw) (nt n) (kp, ip) (jn S) (jn (W - sN (fun i => W * q i / S) i)) (nt i) = _ ∧ _) ∨ ∃ a', BB_X12_addParts_43 (B_X12_addParts_43 fu) u (nt W) (kw, iw) (nt n) (kp, ip) (jn S) (jn (W - sN (fun i => W * q i / S) i)) (nt i) = _ ∧ _
  have hlw' : tL u kw iw = tL t kw iw := by rw [h.2.2.2.1]
  have hlp' : tL u kp ip = tL t kp ip := by rw [h.2.2.2.1]
  have hqu : tA u kw = tA t kw := h.2.2.2.2.2.2.1 kw hk
  unfold BB_X12_addParts_43
  rw [igE (by omega) (by omega)]
  by_cases e : i = n
  · left
    subst e
    rw [if_pos (Nat.le_refl _)]
    exact ⟨u, rfl, h, hz⟩
  · right
    have hi2 : i < n := by omega
    have h1 := hWq i hi2
    have h2 := hb (i + 1) (by omega)
    have h3 : sN (fun i => W * q i / S) (i + 1) = sN (fun i => W * q i / S) i + W * q i / S := rfl
    refine ⟨(i + 1, uA u kp ip i (tA u kp ip i + nt (W * q i / S))), ?_, ⟨hi2, oA_uA h, fun j => ?_⟩, by show n - (i + 1) < n - i; omega⟩
    · rw [if_neg (by omega)]
      show gd (nt i) (tL u kw iw) (gzJ (jn S) (gd (nt i) (tL u kp ip) (gd (nt i) (tL u kp ip) (nxt (uA u kp ip (nt i).toNatClampNeg (tA u kp ip (nt i).toNatClampNeg + (((nt W).toInt64 * (tA u kw iw (nt i).toNatClampNeg).toInt64) / jn S).toInt32)) _)))) = _
      rw [hlw', hlp', gd_nt _ (by omega) (by omega), gzJ_jn (by omega) (by omega), gd_nt _ (by omega) (by omega), gd_nt _ (by omega) (by omega), nxt_e, nt_cl (by omega), hqu, (hq i hi2).1, nt_jn (a := W) (by omega), nt_jn (by have := (hq i hi2).2; omega), jn_mul, jn_div (by omega) (by omega), jn_nt, jn_sub (by omega), nt_succ, h3, Nat.sub_add_eq]
    · show tA (uA u kp ip i (tA u kp ip i + nt (W * q i / S))) kp ip j = if j < i + 1 then _ else _
      rw [A_uA, m1_s]
      by_cases e2 : j = i
      · subst e2
        rw [m1_s, hz j, if_neg (Nat.lt_irrefl j), if_pos (Nat.lt_succ_self j)]
      · rw [m1_n e2, hz j]
        by_cases e3 : j < i
        · rw [if_pos e3, if_pos (by omega)]
        · rw [if_neg e3, if_neg (by omega)]
/-- the inner loop: who is next -/
theorem ap_in (k95 : TS → Int32 → (Nat × Nat) → Int32 → (Nat × Nat) → Int64 → Int64 → Int64 → Int32 → Int32 → Option TS) (hlw : n ≤ tL t kw iw) (hn : n ≤ 200) (hW : W ≤ 10000000) (hq : ∀ i, i < n → tA t kw iw i = nt (q i) ∧ q i ≤ 10000000) {S : Nat} (hS : 0 < S) (hSb : S ≤ 2000000000) (L : Int64) (v11 : Int32) {lr la : Nat} (hlr : lr ≤ S) (hla : la ≤ n) {m : Nat → Bool} (hm : ∀ i, i < n → (m i = true ↔ ¬ (W * q i % S < lr ∨ (W * q i % S = lr ∧ la ≤ i)))) : B_X12_addParts_121 k95 10000 t (nt W) (kw, iw) (nt n) (kp, ip) (jn S) L (jn lr) (nt la - 1) v11 (-1) (-1) 0 = B_X12_addParts_197 k95 t (nt W) (kw, iw) (nt n) (kp, ip) (jn S) L v11 (oel (bsF (fun i => W * q i % S) m n) (-1) nt) (oel (bsF (fun i => W * q i % S) m n) (-1) (fun b => jn (W * q b % S))) := by
  obtain ⟨N, hN⟩ : ∃ N : Nat, N = 10000 := ⟨_, rfl⟩
  rw [← hN]
  have hWq : ∀ i, i < n → W * q i ≤ 100000000000000 := fun i hi => by
    have := Nat.mul_le_mul hW (hq i hi).2
    omega
  refine loop_wh (B := fun fu (i : Nat) => B_X12_addParts_121 k95 fu t (nt W) (kw, iw) (nt n) (kp, ip) (jn S) L (jn lr) (nt la - 1) v11 (oel (bsF (fun i => W * q i % S) m i) (-1) nt) (oel (bsF (fun i => W * q i % S) m i) (-1) (fun b => jn (W * q b % S))) (nt i)) (mu := fun i => n - i) (G := fun o => o = B_X12_addParts_197 k95 t (nt W) (kw, iw) (nt n) (kp, ip) (jn S) L v11 (oel (bsF (fun i => W * q i % S) m n) (-1) nt) (oel (bsF (fun i => W * q i % S) m n) (-1) (fun b => jn (W * q b % S)))) (P := fun i => i ≤ n) ?_ N 0 (Nat.zero_le _) (by omega)
  intro fu i hi
  show BB_X12_addParts_121 k95 (B_X12_addParts_121 k95 fu) t _ _ _ _ _ _ _ _ _ _ _ _ = _ ∨ ∃ a', BB_X12_addParts_121 k95 (B_X12_addParts_121 k95 fu) t _ _ _ _ _ _ _ _ _ _ _ _ = _ ∧ _
  unfold BB_X12_addParts_121
  rw [igE (by omega) (by omega)]
  by_cases e : i = n
  · left
    subst e
    rw [if_pos (Nat.le_refl _)]
  right
  have hi2 : i < n := by omega
  have h1 := hWq i hi2
  have hrS : W * q i % S < S := Nat.mod_lt _ hS
  refine ⟨i + 1, ?_, by omega, by omega⟩
  rw [if_neg (by omega)]
  show gd (nt i) (tL t kw iw) (gzJ (jn S) (if lg_cmp (jrm ((nt W).toInt64 * (tA t kw iw (nt i).toNatClampNeg).toInt64) (jn S)) (jn lr) < 0 then _ else _)) = _
  rw [gd_nt _ (by omega) (by omega), gzJ_jn (by omega) (by omega), nt_cl (by omega), (hq i hi2).1, nt_jn (by omega), nt_jn (by have := (hq i hi2).2; omega), jn_mul, jn_jrm (by omega) (by omega), ifP (lj_lt (by omega) (by omega)), ifP (congrArg Not (lj_eq (by omega) (by omega))), ifP (nm_le (by omega) (by omega))]
  unfold B_X12_addParts_163 B_X12_addParts_167 B_X12_addParts_168 B_X12_addParts_191
  have n10 : ¬ (1 : Int32) = 0 := by decide
  have z0 : (0 : Int32) = 0 := rfl
  rw [if_neg n10, if_pos z0, nt_succ]
  have hbs : bsF (fun i => W * q i % S) m (i + 1) = if m i then bsF (fun i => W * q i % S) m i else oel (bsF (fun i => W * q i % S) m i) (some i) (fun b => if W * q b % S < W * q i % S then some i else some b) := rfl
  have hmi := hm i hi2
  have hbeh : m i = false → (if lg_cmp (jn (W * q i % S)) (oel (bsF (fun i => W * q i % S) m i) (-1) (fun b => jn (W * q b % S))) ≤ 0 then B_X12_addParts_121 k95 fu t (nt W) (kw, iw) (nt n) (kp, ip) (jn S) L (jn lr) (nt la - 1) v11 (oel (bsF (fun i => W * q i % S) m i) (-1) nt) (oel (bsF (fun i => W * q i % S) m i) (-1) (fun b => jn (W * q b % S))) (nt (i + 1)) else B_X12_addParts_121 k95 fu t (nt W) (kw, iw) (nt n) (kp, ip) (jn S) L (jn lr) (nt la - 1) v11 (nt i) (jn (W * q i % S)) (nt (i + 1))) = B_X12_addParts_121 k95 fu t (nt W) (kw, iw) (nt n) (kp, ip) (jn S) L (jn lr) (nt la - 1) v11 (oel (bsF (fun i => W * q i % S) m (i + 1)) (-1) nt) (oel (bsF (fun i => W * q i % S) m (i + 1)) (-1) (fun b => jn (W * q b % S))) (nt (i + 1)) := by
    intro hf
    rw [hbs, if_neg (show ¬ m i = true by rw [hf]; decide)]
    cases g : bsF (fun i => W * q i % S) m i with
    | none =>
      have hneg : ¬ lg_cmp (jn (W * q i % S)) (oel (none : Option Nat) (-1) (fun b => jn (W * q b % S))) ≤ 0 := by
        rw [oel_n, lc_le, jn_int (by omega), show (-1 : Int64).toInt = -1 from rfl]
        omega
      rw [if_neg hneg, oel_n, oel_s, oel_s]
    | some b =>
      have hb : W * q b % S < S := Nat.mod_lt _ hS
      have hiff : (lg_cmp (jn (W * q i % S)) (oel (some b) (-1) (fun b => jn (W * q b % S))) ≤ 0) = (W * q i % S ≤ W * q b % S) := by
        rw [oel_s]
        exact lj_le (by omega) (by omega)
      rw [ifP hiff, oel_s (i := b) (b := fun b => if W * q b % S < W * q i % S then some i else some b)]
      by_cases e2 : W * q b % S < W * q i % S
      · rw [if_neg (show ¬ W * q i % S ≤ W * q b % S by omega), if_pos e2, oel_s, oel_s]
      · rw [if_pos (show W * q i % S ≤ W * q b % S by omega), if_neg e2]
  by_cases c1 : W * q i % S < lr
  · have hf : m i = false := by
      cases g : m i with
      | false => rfl
      | true => exact absurd (Or.inl c1) (hmi.mp g)
    rw [if_pos c1]
    exact hbeh hf
  rw [if_neg c1]
  by_cases c2 : W * q i % S = lr
  case neg =>
    have ht : m i = true := hmi.mpr (fun q => q.elim c1 (fun q2 => c2 q2.1))
    rw [if_pos c2, hbs, if_pos ht]
  rw [if_neg (fun q => q c2)]
  by_cases c3 : i < la
  · have ht : m i = true := hmi.mpr (fun q => q.elim c1 (fun q2 => by omega))
    rw [if_pos c3, hbs, if_pos ht]
  · have hf : m i = false := by
      cases g : m i with
      | false => rfl
      | true => exact absurd (Or.inr ⟨c2, by omega⟩) (hmi.mp g)
    rw [if_neg c3]
    exact hbeh hf
end
