/-! PART e9: the model's shares: the picks. -/
section
variable {t : TS} {n m co : Nat} {q : Nat → Nat}
theorem ps_in (k169 : TS → Int32 → Int64 → Int32 → Int32 → Option TS) (hL : Ilen t) (hn : n ≤ 150) (hm : m < 200) (hco : co < n) (h07 : tI t 1307 0 = nt n) (h29 : tA t 3329 0 m = nt co) (h25 : ∀ i, i < n → tA t 3325 0 i = nt (q i)) (hq : ∀ i, i < n → q i ≤ 4000) (v6 : Int32) {W S : Nat} (hW : W ≤ 10000000) (hS : 0 < S) (hSb : S ≤ 12000000) {mk : Nat → Bool} (hbW : ∀ i, i < n → W * wq co q i / S ≤ W) (hmk : ∀ i, i < n → tA t 3347 0 (150 * m + i) = nt (W * wq co q i / S + (if mk i then 1 else 0))) : B_X13_payShares_180 k169 10000 t (nt m) (jn S) (nt W) v6 (-1) 0 = B_X13_payShares_294 k169 t (nt m) (jn S) (nt W) v6 (oel (bsF (fun i => W * wq co q i % S) (fun i => mk i || !elq co q i) n) (-1) nt) := by
  obtain ⟨N, hN⟩ : ∃ N : Nat, N = 10000 := ⟨_, rfl⟩
  rw [← hN]
  obtain ⟨m', hm'⟩ : ∃ m' : Nat → Bool, m' = fun i => mk i || !elq co q i := ⟨_, rfl⟩
  obtain ⟨rs, hrs⟩ : ∃ rs : Nat → Nat, rs = fun i => W * wq co q i % S := ⟨_, rfl⟩
  rw [← hm', ← hrs]
  have hWq : ∀ i, i < n → W * q i ≤ 100000000000000 := fun i hi => by
    have := Nat.mul_le_mul hW (hq i hi)
    omega
  refine loop_wh (B := fun fu (i : Nat) => B_X13_payShares_180 k169 fu t (nt m) (jn S) (nt W) v6 (oel (bsF rs m' i) (-1) nt) (nt i)) (mu := fun i => n - i) (G := fun o => o = B_X13_payShares_294 k169 t (nt m) (jn S) (nt W) v6 (oel (bsF rs m' n) (-1) nt)) (P := fun i => i ≤ n) ?_ N 0 (Nat.zero_le _) (by omega)
  intro fu i hi
  show BB_X13_payShares_180 k169 (B_X13_payShares_180 k169 fu) t _ _ _ _ _ _ = _ ∨ ∃ a', BB_X13_payShares_180 k169 (B_X13_payShares_180 k169 fu) t _ _ _ _ _ _ = _ ∧ _
  unfold BB_X13_payShares_180
  rw [h07, igE (by omega) (by omega)]
  by_cases e : i = n
  · left
    subst e
    rw [if_pos (Nat.le_refl _)]
  right
  have hi2 : i < n := by omega
  have hqi := hq i hi2
  have h1 := hWq i hi2
  have hbs : bsF rs m' (i + 1) = if m' i then bsF rs m' i else oel (bsF rs m' i) (some i) (fun b => if rs b < rs i then some i else some b) := rfl
  refine ⟨i + 1, ?_, by omega, by omega⟩
  unfold B_X13_payShares_284 B_X13_payShares_288
  rw [if_neg (by omega), (show tL _ 3329 0 = 200 from hL 3329 rfl), (show tL _ 3325 0 = 150 from hL 3325 rfl), (show tL _ 3347 0 = 30000 from hL 3347 rfl), gd_nt _ (by omega) (by omega), gd_nt _ (by omega) (by omega), nt_cl (by omega), nt_cl (by omega), h29, h25 i hi2, j150, nt_succ]
  have hskip : elq co q i = false → m' i = true := fun g => by
    rw [hm']
    show (mk i || !elq co q i) = true
    rw [g]; simp
  by_cases c : i = co
  · rw [if_pos (by rw [c]), hbs, if_pos (hskip (decide_eq_false (fun g => g.1 c)))]
  rw [if_neg (by rw [eq_nt (by omega) (by omega)]; exact c)]
  by_cases c2 : q i = 0
  · rw [if_pos (by rw [c2]; rfl), hbs, if_pos (hskip (decide_eq_false (fun g => g.2 c2)))]
  rw [if_neg (by rw [show (0 : Int32) = nt 0 from rfl, eq_nt (by omega) (by omega)]; exact c2)]
  have hel : elq co q i = true := decide_eq_true ⟨c, c2⟩
  have hw := (wq_el hel).2.2
  have hmi := hmk i hi2
  rw [hw] at hmi
  have hdl : W * q i / S ≤ W * q i := Nat.div_le_self _ _
  have hmt : m' i = mk i := by
    rw [hm']
    show (mk i || !elq co q i) = mk i
    rw [hel]; simp
  have hrsi : rs i = W * q i % S := by
    rw [hrs]
    show W * wq co q i % S = _
    rw [hw]
  have hk1 : (if mk i = true then 1 else 0) ≤ 1 := by split <;> omega
  have hdd := hbW i hi2
  rw [hw] at hdd
  have hrS : ∀ b, rs b < S := fun b => by rw [hrs]; exact Nat.mod_lt _ hS
  have c0 : (lg_cmp (nt (W * q i / S + (if mk i then 1 else 0))).toInt64 ((nt W).toInt64 * (nt (q i)).toInt64 / jn S) ≤ 0) = (mk i = false) := by
    rw [nt_jn (by omega), nt_jn (by omega), nt_jn (by omega), jn_mul, jn_div (by omega) (by omega), lj_le (by omega) (by omega)]
    cases mk i with
    | true => exact propext ⟨fun g => by rw [if_pos rfl] at g; omega, fun g => by cases g⟩
    | false => exact propext ⟨fun _ => rfl, fun _ => by rw [if_neg (by decide)]; omega⟩
  rw [gd_nt _ (by omega) (by omega), gd_nt _ (by omega) (by omega), gzJ_jn (by omega) (by omega), nt_cl (by omega), hmi, ifP c0]
  by_cases cm : mk i = false
  case neg =>
    rw [if_neg cm, hbs, if_pos (by rw [hmt]; simpa using cm)]
  have cm' : ¬ m' i = true := by rw [hmt, cm]; decide
  rw [if_pos cm, hbs, if_neg cm']
  cases g : bsF rs m' i with
  | none =>
    have hneg : (oel (none : Option Nat) (-1) nt) < 0 := by rw [oel_n]; decide
    rw [if_pos hneg, oel_n, oel_s]
  | some b =>
    obtain ⟨a1, a2, a3, a4⟩ := bsF_s i b g
    have hb2 : b < n := by omega
    have hqb := hq b hb2
    have helb : elq co q b = true := by
      rw [hm'] at a2
      have a2' : (mk b || !elq co q b) = false := a2
      simp only [Bool.or_eq_false_iff, Bool.not_eq_false'] at a2'
      exact a2'.2
    have hwb := (wq_el helb).2.2
    have hrsb : rs b = W * q b % S := by
      rw [hrs]
      show W * wq co q b % S = _
      rw [hwb]
    have h1b := hWq b hb2
    have hnn : ¬ (oel (some b) (-1) nt) < 0 := by rw [oel_s]; exact nt_neg (by omega)
    have hS1 := hrS i
    have hS2 := hrS b
    have c1 : (lg_cmp (jrm (jn W * jn (q i)) (jn S)) (jrm (jn W * jn (q b)) (jn S)) ≤ 0) = (rs i ≤ rs b) := by
      rw [jn_mul, jn_mul, jn_jrm (by omega) (by omega), jn_jrm (by omega) (by omega), ← hrsi, ← hrsb]
      exact lj_le (by omega) (by omega)
    have hr : ∀ a b : Nat, F_X13_rest t (jn W) (jn a) (jn b) = gzJ (jn b) (some (jrm (jn W * jn a) (jn b))) := fun _ _ => rfl
    rw [if_neg hnn, oel_s, nt_cl (show b < 2147483648 by omega), h25 b hb2, nt_jn (a := W) (by omega), nt_jn (a := q i) (by omega), nt_jn (a := q b) (by omega), hr, hr, gzJ_jn (by omega) (by omega), ob_s, gd_nt _ (by omega) (by omega), gzJ_jn (by omega) (by omega), ob_s, gd_nt _ (by omega) (by omega), ifP c1, oel_s (i := b) (b := fun b => if rs b < rs i then some i else some b)]
    by_cases e2 : rs b < rs i
    · rw [if_neg (show ¬ rs i ≤ rs b by omega), if_pos e2, oel_s]
    · rw [if_pos (show rs i ≤ rs b by omega), if_neg e2, oel_s]
theorem ps_out (hL : Ilen t) (hn : n ≤ 150) (hm : m < 200) (hco : co < n) (h07 : tI t 1307 0 = nt n) (h29 : tA t 3329 0 m = nt co) (h25 : ∀ i, i < n → tA t 3325 0 i = nt (q i)) (hq : ∀ i, i < n → q i ≤ 4000) {W S L : Nat} (hW : W ≤ 10000000) (hS : 0 < sN (wq co q) n) (hSd : S = sN (wq co q) n) (hLd : L = W - sN (fun i => W * wq co q i / S) n) (hbase : ∀ i, i < n → tA t 3347 0 (150 * m + i) = nt (W * wq co q i / S)) : ∃ u, B_X13_payShares_169 10000 t (nt m) (jn S) (nt W) (nt L) = B_X13_payShares_317 u (nt m) (nt W) ∧ oA 3347 0 t u ∧ ∀ j, tA u 3347 0 j = if 150 * m ≤ j ∧ j < 150 * m + n then nt (prN n W (wq co q) (j - 150 * m)) else tA t 3347 0 j := by
  have hSb2 := wq_sum (co := co) hn hq
  have hB := base_le (W := W) hS
  have hLn := left_lt (W := W) hS
  have hbW : ∀ i, i < n → W * wq co q i / S ≤ W := by
    intro i hi
    have h1 := sN_one (f := fun i => W * wq co q i / S) n i hi
    have h2 : W * wq co q i / S ≤ sN (fun i => W * wq co q i / S) n := h1
    rw [← hSd] at hB
    exact Nat.le_trans h2 hB
  have hex : ∀ j, j < L → ∃ i, i < n ∧ mkM n (fun i => W * wq co q i % S) j i = false ∧ 0 < W * wq co q i % S := fun j hj => by
    rw [hSd]
    exact mk_ex hS (by rw [← hSd, ← hLd]; exact hj)
  have hLn2 : L ≤ n := by rw [hLd, hSd]; exact hLn
  have hpr : ∀ j, prN n W (wq co q) j = W * wq co q j / S + (if mkM n (fun i => W * wq co q i % S) L j then 1 else 0) := by
    intro j
    unfold prN
    rw [← hSd, ← hLd]
  obtain ⟨rs, hrs⟩ : ∃ rs : Nat → Nat, rs = fun i => W * wq co q i % S := ⟨_, rfl⟩
  have hz0 : ∀ i, i < n → elq co q i = false → rs i = 0 := by
    intro i _ hc
    rw [hrs]
    show W * wq co q i % S = 0
    rw [wq_no hc, Nat.mul_zero, Nat.zero_mod]
  rw [← hSd] at hS hSb2
  obtain ⟨N, hN⟩ : ∃ N : Nat, N = 10000 := ⟨_, rfl⟩
  rw [← hN]
  refine loop_wh (B := fun fu (x : Nat × TS) => B_X13_payShares_169 fu x.2 (nt m) (jn S) (nt W) (nt (L - x.1))) (mu := fun x => L - x.1) (G := fun o => ∃ u, o = B_X13_payShares_317 u (nt m) (nt W) ∧ oA 3347 0 t u ∧ ∀ j, tA u 3347 0 j = if 150 * m ≤ j ∧ j < 150 * m + n then nt (prN n W (wq co q) (j - 150 * m)) else tA t 3347 0 j) (P := fun x => x.1 ≤ L ∧ oA 3347 0 t x.2 ∧ ∀ i, tA x.2 3347 0 i = if 150 * m ≤ i ∧ i < 150 * m + n then nt (W * wq co q (i - 150 * m) / S + (if mkM n rs x.1 (i - 150 * m) then 1 else 0)) else tA t 3347 0 i) ?_ N (0, t) ⟨Nat.zero_le _, oA_rf, fun i => ?_⟩ (by show L - 0 < N; omega)
  · intro fu x hx
    obtain ⟨j, u⟩ := x
    have hj : j ≤ L := hx.1
    have h : oA 3347 0 t u := hx.2.1
    have hz : ∀ i, tA u 3347 0 i = if 150 * m ≤ i ∧ i < 150 * m + n then nt (W * wq co q (i - 150 * m) / S + (if mkM n rs j (i - 150 * m) then 1 else 0)) else tA t 3347 0 i := hx.2.2
    show (∃ u', BB_X13_payShares_169 (B_X13_payShares_169 fu) u (nt m) (jn S) (nt W) (nt (L - j)) = _ ∧ _) ∨ ∃ a', BB_X13_payShares_169 (B_X13_payShares_169 fu) u (nt m) (jn S) (nt W) (nt (L - j)) = _ ∧ _
    have hLu : Ilen u := Ilen_f (oA_f (D := ks [3347]) h rfl) hL
    have h29u : tA u 3329 = tA t 3329 := h.2.2.2.2.2.2.1 3329 (by decide)
    have h25u : tA u 3325 = tA t 3325 := h.2.2.2.2.2.2.1 3325 (by decide)
    have h07u : tI u 1307 0 = nt n := by rw [h.2.1]; exact h07
    have c0 : (nt (L - j) ≤ 0) = (L - j ≤ 0) := ge_nt (n := L - j) (k := 0) (by omega) (by omega)
    unfold BB_X13_payShares_169
    rw [ifP c0]
    by_cases e : j = L
    · left
      rw [if_pos (by omega)]
      refine ⟨u, rfl, h, fun i => ?_⟩
      rw [hz i]
      by_cases c : 150 * m ≤ i ∧ i < 150 * m + n
      · rw [if_pos c, if_pos c, hpr, e, hrs]
      · rw [if_neg c, if_neg c]
    right
    have hjL : j < L := by omega
    have hx0 : ∃ i, i < n ∧ mkM n rs j i = false ∧ 0 < rs i := by
      rw [hrs]
      exact hex j hjL
    obtain ⟨b, g1, g2, g3, g4⟩ := bsF_el (el := elq co q) hz0 hx0
    rw [if_neg (by omega), ps_in (mk := mkM n rs j) _ hLu hn hm hco h07u (by rw [h29u]; exact h29) (fun i hi => by rw [h25u]; exact h25 i hi) hq (nt (L - j)) hW hS (by omega) hbW (fun i hi => by rw [hz, if_pos (by omega), show 150 * m + i - 150 * m = i by omega]), ← hrs, g1, oel_s]
    obtain ⟨b1_, b2, b3, b4⟩ := g4
    have hmk : ∀ i, mkM n rs (j + 1) i = (mkM n rs j i || decide (b = i)) := by
      intro i
      show (mkM n rs j i || decide (bsF rs (mkM n rs j) n = some i)) = _
      rw [g2]
      congr 1
      exact decide_eq_decide.mpr ⟨fun g => Option.some.inj g, fun g => by rw [g]⟩
    refine ⟨(j + 1, uA u 3347 0 (150 * m + b) (tA u 3347 0 (150 * m + b) + 1)), ?_, ⟨hjL, oA_uA h, fun i => ?_⟩, by show L - (j + 1) < L - j; omega⟩
    · unfold B_X13_payShares_294
      rw [j150, (show tL _ 3347 0 = 30000 from hLu 3347 rfl), gd_nt _ (by omega) (by omega), gd_nt _ (by omega) (by omega), nxt_e, nt_cl (by omega), show L - j = (L - (j + 1)) + 1 by omega, nt_predm]
    · show tA (uA u 3347 0 (150 * m + b) (tA u 3347 0 (150 * m + b) + 1)) 3347 0 i = if 150 * m ≤ i ∧ i < 150 * m + n then nt (W * wq co q (i - 150 * m) / S + (if mkM n rs (j + 1) (i - 150 * m) then 1 else 0)) else tA t 3347 0 i
      rw [A_uA, m1_s]
      by_cases c : i = 150 * m + b
      · subst c
        have ff : ¬ false = true := by decide
        have tt : true = true := rfl
        have hcb : 150 * m ≤ 150 * m + b ∧ 150 * m + b < 150 * m + n := by omega
        rw [m1_s, hz, if_pos hcb, if_pos hcb, show 150 * m + b - 150 * m = b by omega, hmk b, b2, Bool.false_or, decide_eq_true (show b = b from rfl), if_neg ff, if_pos tt, nt_succ, Nat.add_zero]
      · rw [m1_n c, hz i]
        by_cases c3 : 150 * m ≤ i ∧ i < 150 * m + n
        · rw [if_pos c3, if_pos c3, hmk, decide_eq_false (fun g => c (by omega)), Bool.or_false]
        · rw [if_neg c3, if_neg c3]
  · show tA t 3347 0 i = if 150 * m ≤ i ∧ i < 150 * m + n then nt (W * wq co q (i - 150 * m) / S + (if mkM n rs 0 (i - 150 * m) then 1 else 0)) else tA t 3347 0 i
    by_cases c : 150 * m ≤ i ∧ i < 150 * m + n
    · rw [if_pos c]
      have hb := hbase (i - 150 * m) (by omega)
      rw [show 150 * m + (i - 150 * m) = i by omega] at hb
      rw [hb]
      rfl
    · rw [if_neg c]
end
