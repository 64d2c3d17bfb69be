/-! PART 97: part, the model's picks. -/
section
variable {t : TS} {n : Nat} {rk cf : Nat → Nat}
theorem mp_in (k26 : TS → Int32 → Int64 → Int32 → Option (Int32 × TS)) (k179 : TS → Int32 → Int64 → Int32 → Int64 → Int64 → Int64 → Option (Int32 × TS)) (hL : Ilen t) (hn : n ≤ 12) (h86 : tI t 1386 0 = nt n) (hq : ∀ i, i < n → tA t 3387 0 i = nt (rk i) ∧ rk i < 4 ∧ tA t 3388 0 i = nt (cf i) ∧ 1 ≤ cf i ∧ cf i ≤ 999999) (x1 : Int32) (l v9 : Int64) {r W S : Nat} (hr : r < 4) (hW : W ≤ 10000000) (hS : 0 < S) (hSb : S ≤ 12000000) {m : Nat → Bool} (hbW : ∀ i, i < n → rk i = r → W * cf i / S ≤ W) (hm : ∀ i, i < n → rk i = r → tA t 3389 0 i = nt (W * cf i / S + (if m i then 1 else 0))) : B_X13_part_192 k26 k179 10000 t x1 l (nt r) (jn S) (jn W) v9 (-1) 0 = B_X13_part_289 k26 k179 t x1 l (nt r) (jn S) (jn W) v9 (oel (bsF (fun i => W * qR rk cf r i % S) (fun i => m i || !decide (rk i = r)) n) (-1) nt) := by
  obtain ⟨N, hN⟩ : ∃ N : Nat, N = 10000 := ⟨_, rfl⟩
  rw [← hN]
  obtain ⟨m', hm'⟩ : ∃ m' : Nat → Bool, m' = fun i => m i || !decide (rk i = r) := ⟨_, rfl⟩
  obtain ⟨rs, hrs⟩ : ∃ rs : Nat → Nat, rs = fun i => W * qR rk cf r i % S := ⟨_, rfl⟩
  rw [← hm', ← hrs]
  have hWq : ∀ i, i < n → W * cf i ≤ 100000000000000 := fun i hi => by
    have := Nat.mul_le_mul hW (hq i hi).2.2.2.2
    omega
  refine loop_wh (B := fun fu (i : Nat) => B_X13_part_192 k26 k179 fu t x1 l (nt r) (jn S) (jn W) v9 (oel (bsF rs m' i) (-1) nt) (nt i)) (mu := fun i => n - i) (G := fun o => o = B_X13_part_289 k26 k179 t x1 l (nt r) (jn S) (jn W) v9 (oel (bsF rs m' n) (-1) nt)) (P := fun i => i ≤ n) ?_ N 0 (Nat.zero_le _) (by omega)
  intro fu i hi
  show BB_X13_part_192 k26 k179 (B_X13_part_192 k26 k179 fu) t _ _ _ _ _ _ _ _ = _ ∨ ∃ a', BB_X13_part_192 k26 k179 (B_X13_part_192 k26 k179 fu) t _ _ _ _ _ _ _ _ = _ ∧ _
  unfold BB_X13_part_192
  rw [h86, igE (by omega) (by omega)]
  by_cases e : i = n
  · left
    subst e
    rw [if_pos (Nat.le_refl _)]
  right
  have hi2 : i < n := by omega
  obtain ⟨q1, q2, q3, q4, q5⟩ := hq i hi2
  have h1 := hWq i hi2
  have hbs : bsF rs m' (i + 1) = if m' i then bsF rs m' i else oel (bsF rs m' i) (some i) (fun b => if rs b < rs i then some i else some b) := rfl
  refine ⟨i + 1, ?_, by omega, by omega⟩
  unfold B_X13_part_279 B_X13_part_283
  rw [if_neg (by omega), (show tL _ 3387 0 = 12 from hL 3387 rfl), (show tL _ 3388 0 = 12 from hL 3388 rfl), (show tL _ 3389 0 = 12 from hL 3389 rfl), gd_nt _ (by omega) (by omega), gd_nt _ (by omega) (by omega), nt_cl (by omega), q1, q3, nt_succ]
  by_cases c : rk i = r
  case neg =>
    have ht : m' i = true := by
      rw [hm']
      show (m i || !decide (rk i = r)) = true
      rw [decide_eq_false c]; simp
    rw [if_pos (by rw [eq_nt (by omega) (by omega)]; exact c), hbs, if_pos ht]
  have hmi := hm i hi2 c
  have hdl : W * cf i / S ≤ W * cf i := Nat.div_le_self _ _
  have hmt : m' i = m i := by
    rw [hm']
    show (m i || !decide (rk i = r)) = m i
    rw [decide_eq_true c]; simp
  have hrsi : rs i = W * cf i % S := by
    rw [hrs]
    show W * (if rk i = r then cf i else 0) % S = _
    rw [if_pos c]
  have hk1 : (if m i = true then 1 else 0) ≤ 1 := by split <;> omega
  have hdd := hbW i hi2 c
  have hrS : ∀ b, rs b < S := fun b => by rw [hrs]; exact Nat.mod_lt _ hS
  have c0 : (lg_cmp (nt (W * cf i / S + (if m i then 1 else 0))).toInt64 (jn W * (nt (cf i)).toInt64 / jn S) ≤ 0) = (m i = false) := by
    rw [nt_jn (by omega), nt_jn (by omega), jn_mul, jn_div (by omega) (by omega), lj_le (by omega) (by omega)]
    cases m i with
    | true => exact propext ⟨fun q => by rw [if_pos rfl] at q; omega, fun q => by cases q⟩
    | false => exact propext ⟨fun _ => rfl, fun _ => by rw [if_neg (by decide)]; omega⟩
  rw [if_neg (fun q => q (by rw [c])), gd_nt _ (by omega) (by omega), gzJ_jn (by omega) (by omega), hmi, ifP c0]
  by_cases cm : m i = false
  case neg =>
    rw [if_neg cm, hbs, if_pos (by rw [hmt]; simpa using cm)]
  have cm' : ¬ m' i = true := by rw [hmt, cm]; decide
  rw [if_pos cm, hbs, if_neg cm']
  cases g : bsF rs m' i with
  | none =>
    have hneg : (oel (none : Option Nat) (-1) nt) < 0 := by rw [oel_n]; decide
    rw [if_pos hneg, oel_n, oel_s]
  | some b =>
    obtain ⟨a1, a2, a3, a4⟩ := bsF_s i b g
    have hb2 : b < n := by omega
    obtain ⟨p1, p2, p3, p4, p5⟩ := hq b hb2
    have hel : rk b = r := by
      rw [hm'] at a2
      have a2' : (m b || !decide (rk b = r)) = false := a2
      simp only [Bool.or_eq_false_iff, Bool.not_eq_false', decide_eq_true_eq] at a2'
      exact a2'.2
    have hrsb : rs b = W * cf b % S := by
      rw [hrs]
      show W * (if rk b = r then cf b else 0) % S = _
      rw [if_pos hel]
    have h1b := hWq b hb2
    have hnn : ¬ (oel (some b) (-1) nt) < 0 := by rw [oel_s]; exact nt_neg (by omega)
    have hS1 := hrS i
    have hS2 := hrS b
    have c1 : (lg_cmp (jrm (jn W * (nt (cf i)).toInt64) (jn S)) (jrm (jn W * (nt (cf b)).toInt64) (jn S)) ≤ 0) = (rs i ≤ rs b) := by
      rw [nt_jn (by omega), nt_jn (by omega), jn_mul, jn_mul, jn_jrm (by omega) (by omega), jn_jrm (by omega) (by omega), ← hrsi, ← hrsb]
      exact lj_le (by omega) (by omega)
    rw [if_neg hnn]
    show gd (nt i) 12 (gzJ (jn S) (gd (nt b) 12 (gzJ (jn S) (if lg_cmp (jrm (jn W * (nt (cf i)).toInt64) (jn S)) (jrm (jn W * (tA t 3388 0 (nt b).toNatClampNeg).toInt64) (jn S)) ≤ 0 then _ else _)))) = _
    rw [gd_nt _ (by omega) (by omega), gzJ_jn (by omega) (by omega), gd_nt _ (by omega) (by omega), gzJ_jn (by omega) (by omega), nt_cl (by omega), p3, ifP c1, oel_s (i := b) (b := fun b => if rs b < rs i then some i else some b)]
    by_cases e2 : rs b < rs i
    · rw [if_neg (show ¬ rs i ≤ rs b by omega), if_pos e2, oel_s]
    · rw [if_pos (show rs i ≤ rs b by omega), if_neg e2, oel_s]
theorem mp_out (k26 : TS → Int32 → Int64 → Int32 → Option (Int32 × TS)) (hL : Ilen t) (hn : n ≤ 12) (h86 : tI t 1386 0 = nt n) (hq : ∀ i, i < n → tA t 3387 0 i = nt (rk i) ∧ rk i < 4 ∧ tA t 3388 0 i = nt (cf i) ∧ 1 ≤ cf i ∧ cf i ≤ 999999) (x1 : Int32) (l : Int64) {r W S L : Nat} (hr : r < 4) (hW : W ≤ 10000000) (hS : 0 < sN (qR rk cf r) n) (hSd : S = sN (qR rk cf r) n) (hLd : L = W - sN (fun i => W * qR rk cf r i / S) n) (hbase : ∀ i, i < n → rk i = r → tA t 3389 0 i = nt (W * cf i / S)) : ∃ u, B_X13_part_179 k26 10000 t x1 l (nt r) (jn S) (jn W) (jn L) = B_X13_part_309 k26 u x1 l (nt r) (jn W) ∧ oA 3389 0 t u ∧ ∀ j, tA u 3389 0 j = if j < n ∧ rk j = r then nt (prN n W (qR rk cf r) j) else tA t 3389 0 j := by
  have hqb : ∀ i, i < n → qR rk cf r i ≤ 999999 := fun i hi => by
    unfold qR
    split
    · exact (hq i hi).2.2.2.2
    · exact Nat.zero_le _
  have hSb : sN (qR rk cf r) n ≤ 999999 * n := sN_bd n hqb
  have hSb2 : S ≤ 12000000 := by
    have : 999999 * n ≤ 999999 * 12 := Nat.mul_le_mul_left _ hn
    omega
  have hB := base_le (W := W) hS
  have hLn := left_lt (W := W) hS
  have hbW : ∀ i, i < n → rk i = r → W * cf i / S ≤ W := by
    intro i hi hc
    have h1 := sN_one (f := fun i => W * qR rk cf r i / S) n i hi
    have e4 : qR rk cf r i = cf i := if_pos hc
    have h2 : W * qR rk cf r i / S ≤ sN (fun i => W * qR rk cf r i / S) n := h1
    rw [e4] at h2
    rw [← hSd] at hB
    exact Nat.le_trans h2 hB
  have hex : ∀ j, j < L → ∃ i, i < n ∧ mkM n (fun i => W * qR rk cf r i % S) j i = false ∧ 0 < W * qR rk cf r i % S := fun j hj => by
    rw [hSd]
    exact mk_ex hS (by rw [← hSd, ← hLd]; exact hj)
  have hLn2 : L ≤ n := by rw [hLd, hSd]; exact hLn
  have hpr : ∀ j, j < n → rk j = r → prN n W (qR rk cf r) j = W * cf j / S + (if mkM n (fun i => W * qR rk cf r i % S) L j then 1 else 0) := by
    intro j _ hc
    unfold prN
    rw [← hSd, ← hLd, show qR rk cf r j = cf j from if_pos hc]
  obtain ⟨rs, hrs⟩ : ∃ rs : Nat → Nat, rs = fun i => W * qR rk cf r i % S := ⟨_, rfl⟩
  have hz0 : ∀ i, i < n → decide (rk i = r) = false → rs i = 0 := by
    intro i _ hc
    rw [hrs]
    show W * (if rk i = r then cf i else 0) % S = 0
    rw [if_neg (of_decide_eq_false hc), Nat.mul_zero, Nat.zero_mod]
  rw [← hSd] at hS
  obtain ⟨N, hN⟩ : ∃ N : Nat, N = 10000 := ⟨_, rfl⟩
  rw [← hN]
  refine loop_wh (B := fun fu (x : Nat × TS) => B_X13_part_179 k26 fu x.2 x1 l (nt r) (jn S) (jn W) (jn (L - x.1))) (mu := fun x => L - x.1) (G := fun o => ∃ u, o = B_X13_part_309 k26 u x1 l (nt r) (jn W) ∧ oA 3389 0 t u ∧ ∀ j, tA u 3389 0 j = if j < n ∧ rk j = r then nt (prN n W (qR rk cf r) j) else tA t 3389 0 j) (P := fun x => x.1 ≤ L ∧ oA 3389 0 t x.2 ∧ ∀ i, tA x.2 3389 0 i = if i < n ∧ rk i = r then nt (W * cf i / S + (if mkM n rs x.1 i then 1 else 0)) else tA t 3389 0 i) ?_ N (0, t) ⟨Nat.zero_le _, oA_rf, fun i => ?_⟩ (by show L - 0 < N; omega)
  · intro fu x hx
    obtain ⟨j, u⟩ := x
    have hj : j ≤ L := hx.1
    have h : oA 3389 0 t u := hx.2.1
    have hz : ∀ i, tA u 3389 0 i = if i < n ∧ rk i = r then nt (W * cf i / S + (if mkM n rs j i then 1 else 0)) else tA t 3389 0 i := hx.2.2
    show (∃ u', BB_X13_part_179 k26 (B_X13_part_179 k26 fu) u x1 l (nt r) (jn S) (jn W) (jn (L - j)) = _ ∧ _) ∨ ∃ a', BB_X13_part_179 k26 (B_X13_part_179 k26 fu) u x1 l (nt r) (jn S) (jn W) (jn (L - j)) = _ ∧ _
    have hLu : Ilen u := Ilen_f (oA_f (D := ks [3389]) h rfl) hL
    have h87 : tA u 3387 = tA t 3387 := h.2.2.2.2.2.2.1 3387 (by decide)
    have h88 : tA u 3388 = tA t 3388 := h.2.2.2.2.2.2.1 3388 (by decide)
    have h86u : tI u 1386 0 = nt n := by rw [h.2.1]; exact h86
    have c0 : (lg_cmp (jn (L - j)) 0 ≤ 0) = (L - j ≤ 0) := lj_le (b := 0) (by omega) (by omega)
    unfold BB_X13_part_179
    rw [ifP c0]
    by_cases e : j = L
    · left
      rw [if_pos (by omega)]
      refine ⟨u, rfl, h, fun i => ?_⟩
      rw [hz i]
      by_cases c : i < n ∧ rk i = r
      · rw [if_pos c, if_pos c, hpr i c.1 c.2, e, hrs]
      · rw [if_neg c, if_neg c]
    right
    have hjL : j < L := by omega
    have hx0 : ∃ i, i < n ∧ mkM n rs j i = false ∧ 0 < rs i := by
      rw [hrs]
      exact hex j hjL
    obtain ⟨b, g1, g2, g3, g4⟩ := bsF_el (el := fun i => decide (rk i = r)) hz0 hx0
    rw [if_neg (by omega), mp_in (m := mkM n rs j) k26 _ hLu hn h86u (fun i hi => by rw [h87, h88]; exact hq i hi) x1 l (jn (L - j)) hr hW hS hSb2 hbW (fun i hi hc => by rw [hz i, if_pos ⟨hi, hc⟩]), ← hrs, g1, oel_s]
    obtain ⟨b1_, b2, b3, b4⟩ := g4
    have hel : rk b = r := of_decide_eq_true g3
    have hmk : ∀ i, mkM n rs (j + 1) i = (mkM n rs j i || decide (b = i)) := by
      intro i
      show (mkM n rs j i || decide (bsF rs (mkM n rs j) n = some i)) = _
      rw [g2]
      congr 1
      exact decide_eq_decide.mpr ⟨fun q => Option.some.inj q, fun q => by rw [q]⟩
    refine ⟨(j + 1, uA u 3389 0 b (tA u 3389 0 b + 1)), ?_, ⟨hjL, oA_uA h, fun i => ?_⟩, by show L - (j + 1) < L - j; omega⟩
    · unfold B_X13_part_289
      rw [(show tL _ 3389 0 = 12 from hLu 3389 rfl), gd_nt _ (by omega) (by omega), gd_nt _ (by omega) (by omega), nxt_e, nt_cl (by omega), show (1 : Int64) = jn 1 from rfl, jn_sub (by omega), Nat.sub_sub]
    · show tA (uA u 3389 0 b (tA u 3389 0 b + 1)) 3389 0 i = if i < n ∧ rk i = r then nt (W * cf i / S + (if mkM n rs (j + 1) i then 1 else 0)) else tA t 3389 0 i
      rw [A_uA, m1_s, hmk i]
      by_cases c : i = b
      · subst c
        have hc : i < n ∧ rk i = r := ⟨b1_, hel⟩
        have ff : ¬ false = true := by decide
        have tt : true = true := rfl
        rw [m1_s, hz i, if_pos hc, if_pos hc, b2, Bool.false_or, decide_eq_true (show i = i from rfl), if_neg ff, if_pos tt, nt_succ, Nat.add_zero]
      · rw [m1_n c, hz i, decide_eq_false (fun q => c q.symm), Bool.or_false]
  · show tA t 3389 0 i = if i < n ∧ rk i = r then nt (W * cf i / S + (if mkM n rs 0 i then 1 else 0)) else tA t 3389 0 i
    by_cases c : i < n ∧ rk i = r
    · rw [if_pos c, hbase i c.1 c.2]
      rfl
    · rw [if_neg c]
end
