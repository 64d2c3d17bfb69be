/-! PART 92: rings, the method. -/
section
variable {t : TS} {n : Nat} {w : Nat → Nat}
theorem tm_in (k20 : TS → Int32 → Option (Int32 × TS)) (hL : Ilen t) (hn : n ≤ 8) (h801 : tI t 801 0 = nt n) (hw0 : ∀ i, i < n → tA t 2800 0 i = nt (w i) ∧ w i < 256) {g : Nat} (hg : g < 2 ^ n - 1) (hT : ∀ g', g < g' → g' < 2 ^ n → tA t 2804 0 g' = tbR w n g') : ∃ u, B_X8_takeMost_39 k20 10000 (uA t 2804 0 g (-1)) (nt g) (nt (pcB g)) 0 = k20 u (nt g + (-1)) ∧ frm (ks [2804]) t u ∧ ∀ g', g ≤ g' → g' < 2 ^ n → tA u 2804 0 g' = tbR w n g' := by
  have h8 := pow_8 n hn
  have hk := (pc_full n hn).2 g hg
  obtain ⟨d, hd⟩ : ∃ d, n - pcB g = d + 1 := ⟨n - pcB g - 1, by omega⟩
  have hd2 : n - (d + 1) = pcB g := by omega
  obtain ⟨mw, hmw⟩ : ∃ mw, mw = rgM w (rgV w n d) g (pcB g) := ⟨_, rfl⟩
  have hmB : ∀ j, mw j ≤ d + 2 := fun j => by rw [hmw]; exact rgM_le (rgV_le w n d) _ _ _
  have hXB : ∀ j, rgX mw j ≤ d + 2 := by
    intro j
    induction j with
    | zero => exact Nat.zero_le _
    | succ j ih =>
      have := hmB j
      show (if rgX mw j < mw j then mw j else rgX mw j) ≤ d + 2
      split <;> omega
  obtain ⟨N, hN⟩ : ∃ N : Nat, N = 10000 := ⟨_, rfl⟩
  rw [← hN]
  have hfin : ∀ v : TS, (∀ g', ¬ g' = g → tA v 2804 0 g' = tA t 2804 0 g') → tA v 2804 0 g = nt (rgX mw n) - 1 → ∀ g', g ≤ g' → g' < 2 ^ n → tA v 2804 0 g' = tbR w n g' := by
    intro v h1 h2 g' h3 h4
    by_cases e : g' = g
    · subst e
      rw [h2]
      unfold tbR
      rw [hd]
      unfold rgV
      rw [hd2, rgW_X hk, hmw]
    · rw [h1 g' e]; exact hT g' (by omega) h4
  refine loop_wh (B := fun fu (x : Nat × TS) => B_X8_takeMost_39 k20 fu x.2 (nt g) (nt (pcB g)) (nt x.1)) (mu := fun x => n - x.1) (G := fun o => ∃ u, o = k20 u (nt g + (-1)) ∧ frm (ks [2804]) t u ∧ ∀ g', g ≤ g' → g' < 2 ^ n → tA u 2804 0 g' = tbR w n g') (P := fun x => x.1 ≤ n ∧ frm (ks [2804]) t x.2 ∧ (∀ g', ¬ g' = g → tA x.2 2804 0 g' = tA t 2804 0 g') ∧ tA x.2 2804 0 g = nt (rgX mw x.1) - 1) ?_ N (0, uA t 2804 0 g (-1)) ⟨Nat.zero_le _, frm_uA rfl, fun g' hg' => by show tA (uA t 2804 0 g (-1)) 2804 0 g' = _; rw [A_uA, m1_s, m1_n hg'], by show tA (uA t 2804 0 g (-1)) 2804 0 g = _; rw [A_uA, m1_s, m1_s]; rfl⟩ (by show n - 0 < N; omega)
  intro fu x hx
  obtain ⟨j, u⟩ := x
  have hj : j ≤ n := hx.1
  have h : frm (ks [2804]) t u := hx.2.1
  have hz : ∀ g', ¬ g' = g → tA u 2804 0 g' = tA t 2804 0 g' := hx.2.2.1
  have hy : tA u 2804 0 g = nt (rgX mw j) - 1 := hx.2.2.2
  show (∃ u', BB_X8_takeMost_39 k20 (B_X8_takeMost_39 k20 fu) u (nt g) (nt (pcB g)) (nt j) = _ ∧ _) ∨ ∃ a', BB_X8_takeMost_39 k20 (B_X8_takeMost_39 k20 fu) u (nt g) (nt (pcB g)) (nt j) = _ ∧ _
  have hL1 := Ilen_f h hL
  have e801 : tI u 801 0 = nt n := by rw [(h.1 801 rfl).2.1, h801]
  unfold BB_X8_takeMost_39
  rw [e801, igE (by omega) (by omega)]
  by_cases e : j = n
  · left
    subst e
    rw [if_pos (Nat.le_refl _)]
    exact ⟨u, rfl, h, hfin u hz hy⟩
  · right
    have hms : F_X8_mostWith u (nt g) (nt (pcB g)) (nt j) = some (nt (mw j) - 1) := by
      rw [hmw]
      refine mwith_eq hL1 hn (fun i hi => ?_) (by omega) rfl hd2 (by omega) (by omega) (fun q => ?_)
      · rw [(h.1 2800 rfl).2.2.2.2.1]; exact hw0 i hi
      · have hgt := or_gt g (by omega) j (by omega) q
        rw [hz _ (by omega)]
        exact hT _ hgt (or_ltn n hn g (by omega) j (by omega))
    have hm1 := hmB j
    have hm2 := hXB j
    refine ⟨(j + 1, uA u 2804 0 g (nt (rgX mw (j + 1)) - 1)), ?_, ⟨by show j + 1 ≤ n; omega, frm_tr h (frm_uA rfl), fun g' hg' => ?_, ?_⟩, by show n - (j + 1) < n - j; omega⟩
    · rw [if_neg (by omega), (show tL _ 2804 0 = 256 from hL1 2804 rfl), gd_nt _ (by omega) (by omega), hms, ob_s, gd_nt _ (by omega) (by omega), nt_cl (by omega), nxt_e, nt_succ, hy]
      have e3 : (if nt (rgX mw j) - 1 < nt (mw j) - 1 then nt (mw j) - 1 else nt (rgX mw j) - 1) = nt (rgX mw (j + 1)) - 1 := by
        rw [ifP (propext (ee_lt (rgX mw j) (by omega) (mw j) (by omega)))]
        show _ = nt (if rgX mw j < mw j then mw j else rgX mw j) - 1
        split <;> rfl
      rw [e3]
    · show tA (uA u 2804 0 g (nt (rgX mw (j + 1)) - 1)) 2804 0 g' = _
      rw [A_uA, m1_s, m1_n hg', hz g' hg']
    · show tA (uA u 2804 0 g (nt (rgX mw (j + 1)) - 1)) 2804 0 g = _
      rw [A_uA, m1_s, m1_s]
theorem tm_out (hL : Ilen t) (hn : n ≤ 8) (h801 : tI t 801 0 = nt n) (hw0 : ∀ i, i < n → tA t 2800 0 i = nt (w i) ∧ w i < 256) : ∃ u, F_X8_takeMost t = B_X8_takeMost_83 u ∧ frm (ks [2804]) t u ∧ ∀ g', g' < 2 ^ n → tA u 2804 0 g' = tbR w n g' := by
  have h8 := pow_8 n hn
  have h1 : 0 < 2 ^ n := Nat.pow_pos (by omega)
  have ea : (1 : Int32) <<< (nt n &&& 31) - 1 = nt (2 ^ n - 1) := by rw [pow_b n (by omega)]; exact nt_sub (b := 1) h1
  unfold F_X8_takeMost
  rw [h801, ea, (show tL _ 2804 0 = 256 from hL 2804 rfl), gd_nt _ (by omega) (by omega), nxt_e, nt_cl (by omega)]
  obtain ⟨N, hN⟩ : ∃ N : Nat, N = 10000 := ⟨_, rfl⟩
  rw [← hN]
  refine loop_wh (B := fun fu (x : Nat × TS) => B_X8_takeMost_20 fu x.2 (nt x.1 - 1)) (mu := fun x => x.1) (G := fun o => ∃ u, o = B_X8_takeMost_83 u ∧ frm (ks [2804]) t u ∧ ∀ g', g' < 2 ^ n → tA u 2804 0 g' = tbR w n g') (P := fun x => x.1 ≤ 2 ^ n - 1 ∧ frm (ks [2804]) t x.2 ∧ ∀ g', x.1 ≤ g' → g' < 2 ^ n → tA x.2 2804 0 g' = tbR w n g') ?_ N (2 ^ n - 1, uA t 2804 0 (2 ^ n - 1) 0) ⟨Nat.le_refl _, frm_uA rfl, fun g' hg1 hg2 => ?_⟩ (by show 2 ^ n - 1 < N; omega)
  · intro fu x hx
    obtain ⟨m, u⟩ := x
    have hm : m ≤ 2 ^ n - 1 := hx.1
    have h : frm (ks [2804]) t u := hx.2.1
    have hz : ∀ g', m ≤ g' → g' < 2 ^ n → tA u 2804 0 g' = tbR w n g' := hx.2.2
    show (∃ u', BB_X8_takeMost_20 (B_X8_takeMost_20 fu) u (nt m - 1) = _ ∧ _) ∨ ∃ a', BB_X8_takeMost_20 (B_X8_takeMost_20 fu) u (nt m - 1) = _ ∧ _
    have hL1 := Ilen_f h hL
    unfold BB_X8_takeMost_20
    cases m with
    | zero =>
      left
      exact ⟨u, if_pos (by decide), h, fun g' hg' => hz g' (Nat.zero_le _) hg'⟩
    | succ m =>
      right
      rw [nt_pred, if_neg (nt_neg (by omega)), bcJ (by omega), ob_s, (show tL _ 2804 0 = 256 from hL1 2804 rfl), gd_nt _ (by omega) (by omega), nxt_e, nt_cl (by omega)]
      obtain ⟨u', q1, q2, q3⟩ := tm_in (B_X8_takeMost_20 fu) (t := u) (n := n) (w := w) (g := m) hL1 hn (by rw [(h.1 801 rfl).2.1, h801]) (fun i hi => by rw [(h.1 2800 rfl).2.2.2.2.1]; exact hw0 i hi) (by omega) (fun g' q3 q4 => hz g' (by omega) q4)
      refine ⟨(m, u'), ?_, ⟨by show m ≤ 2 ^ n - 1; omega, frm_tr h q2, q3⟩, by show m < m + 1; omega⟩
      rw [q1, Int32.sub_eq_add_neg]
  · have e : g' = 2 ^ n - 1 := by
      have q : 2 ^ n - 1 ≤ g' := hg1
      omega
    subst e
    show tA (uA t 2804 0 (2 ^ n - 1) 0) 2804 0 (2 ^ n - 1) = _
    rw [A_uA, m1_s, m1_s]
    unfold tbR
    rw [(pc_full n hn).1, Nat.sub_self]
    show (0 : Int32) = nt 1 - 1
    decide
/-- the first player that brings the most -/
theorem first_eq (hL : Ilen t) (hn : n ≤ 8) (h801 : tI t 801 0 = nt n) (hw0 : ∀ i, i < n → tA t 2800 0 i = nt (w i) ∧ w i < 256) (hT : ∀ g', g' < 2 ^ n → tA t 2804 0 g' = tbR w n g') {g d : Nat} (hg : g < 2 ^ n) (hd : n - (d + 1) = pcB g) (hd1 : d + 1 ≤ n) (hv : 0 < rgV w n (d + 1) g) : F_X8_firstOf t (nt g) (nt (pcB g)) = some (nt (rgC w n d g)) ∧ rgC w n d g < n ∧ g.testBit (rgC w n d g) = false ∧ 0 < rgV w n d (g ||| 2 ^ rgC w n d g) := by
  have h8 := pow_8 n hn
  obtain ⟨mw, hmw⟩ : ∃ mw, mw = rgM w (rgV w n d) g (pcB g) := ⟨_, rfl⟩
  have hV : rgV w n (d + 1) g = (rgW mw (pcB g) n).1 := by
    show (rgW (rgM w (rgV w n d) g (n - (d + 1))) (n - (d + 1)) n).1 = _
    rw [hd, hmw]
  have hC : rgC w n d g = (rgW mw (pcB g) n).2 := by
    unfold rgC
    rw [hd, hmw]
  have hk : pcB g < n := by omega
  have hVB := rgV_le w n (d + 1) g
  have hmB : ∀ j, mw j ≤ d + 2 := fun j => by rw [hmw]; exact rgM_le (rgV_le w n d) _ _ _
  rw [hV] at hv hVB
  obtain ⟨c1, c2, c3⟩ := rgW_sp hk hv
  rw [hC]
  have hp := rgM_pos (w := w) (Vd := rgV w n d) (g := g) (k := pcB g) (fr := (rgW mw (pcB g) n).2) (by rw [← hmw, c2]; exact hv)
  refine ⟨?_, c1, hp.1, hp.2⟩
  have hms : ∀ j, j < n → F_X8_mostWith t (nt g) (nt (pcB g)) (nt j) = some (nt (mw j) - 1) := fun j hj => by
    rw [hmw]
    exact mwith_eq hL hn hw0 hg rfl hd hd1 hj (fun _ => hT _ (or_ltn n hn g hg j hj))
  have hTg : tA t 2804 0 g = nt (rgW mw (pcB g) n).1 - 1 := by
    rw [hT g hg]
    unfold tbR
    rw [show n - pcB g = d + 1 by omega, hV]
  generalize (rgW mw (pcB g) n).1 = v at *
  generalize (rgW mw (pcB g) n).2 = c at *
  unfold F_X8_firstOf
  obtain ⟨N, hN⟩ : ∃ N : Nat, N = 10000 := ⟨_, rfl⟩
  rw [← hN]
  refine loop_wh (B := fun fu (j : Nat) => B_X8_firstOf_2 fu t (nt g) (nt (pcB g)) (nt j)) (mu := fun j => n - j) (G := fun o => o = some (nt c)) (P := fun j => j ≤ n ∧ (c = pcB g ∨ j ≤ c)) ?_ N 0 ⟨Nat.zero_le _, Or.inr (Nat.zero_le _)⟩ (by omega)
  intro fu j hj
  show BB_X8_firstOf_2 (B_X8_firstOf_2 fu) t _ _ _ = _ ∨ ∃ a', BB_X8_firstOf_2 (B_X8_firstOf_2 fu) t _ _ _ = _ ∧ _
  obtain ⟨hj1, hj2⟩ := hj
  unfold BB_X8_firstOf_2 B_X8_firstOf_43
  rw [h801, igE (by omega) (by omega)]
  by_cases e : j = n
  · left
    rw [if_pos (by omega)]
    have : c = pcB g := by omega
    rw [this]
  rw [if_neg (by omega), ieQ (by omega) (by omega), nt_succ]
  by_cases e2 : j = pcB g
  · right
    rw [if_pos e2]
    refine ⟨j + 1, rfl, ⟨by omega, ?_⟩, by omega⟩
    by_cases e3 : c = pcB g
    · exact Or.inl e3
    · right
      rcases hj2 with q | q
      · exact absurd q e3
      · omega
  rw [if_neg e2, hms j (by omega), ob_s, ob_s, ifP (propext (enc_0 _ (by have := hmB j; omega))), (show tL _ 2804 0 = 256 from hL 2804 rfl), gd_nt _ (by omega) (by omega), nt_cl (by omega), hTg]
  have hne : ¬ mw j = v → ∃ a', (if mw j = 0 then B_X8_firstOf_2 fu t (nt g) (nt (pcB g)) (nt (j + 1)) else if ¬ nt (mw j) - 1 = nt v - 1 then B_X8_firstOf_2 fu t (nt g) (nt (pcB g)) (nt (j + 1)) else some (nt j)) = B_X8_firstOf_2 fu t (nt g) (nt (pcB g)) (nt a') ∧ (a' ≤ n ∧ (c = pcB g ∨ a' ≤ c)) ∧ n - a' < n - j := by
    intro q
    have e5 : ¬ nt (mw j) - 1 = nt v - 1 := fun q2 => q (enc_inj (by have := hmB j; omega) (by omega) q2)
    refine ⟨j + 1, ?_, ⟨by omega, ?_⟩, by omega⟩
    · rw [if_pos e5, ite_self]
    · by_cases e3 : c = pcB g
      · exact Or.inl e3
      · right
        rcases hj2 with q3 | q3
        · exact absurd q3 e3
        · by_cases e4 : j = c
          · rw [e4, c2] at q; exact absurd rfl q
          · omega
  by_cases e6 : mw j = v
  · left
    have hjc : j = c := by
      rcases c3 with ⟨q1, q2⟩ | ⟨q1, q2⟩
      · exact absurd e6 (q2 j (by omega) e2)
      · by_cases e7 : j < c
        · exact absurd e6 (q2 j e7 e2)
        · rcases hj2 with q3 | q3
          · exact absurd q3 q1
          · omega
    rw [e6, if_neg (by omega), if_neg (fun q => q rfl), hjc]
  · right
    exact hne e6
theorem tm_read (hL : Ilen t) (hn : n ≤ 8) (h801 : tI t 801 0 = nt n) (hw0 : ∀ i, i < n → tA t 2800 0 i = nt (w i) ∧ w i < 256) (hT : ∀ g', g' < 2 ^ n → tA t 2804 0 g' = tbR w n g') : ∃ u, B_X8_takeMost_83 t = some (nt (rgV w n n 0) - 1, uI (uI u 803 0 (nt n)) 801 0 0) ∧ frm (ks [2802]) t u ∧ ∀ i, i < n → rgP w n n 0 i = if tA u 2802 0 i = nt i then -2 else tA u 2802 0 i := by
  have h8 := pow_8 n hn
  have h1 : 0 < 2 ^ n := Nat.pow_pos (by omega)
  have hpc0 : pcB 0 = 0 := pcB_0
  unfold B_X8_takeMost_83
  obtain ⟨N, hN⟩ : ∃ N : Nat, N = 10000 := ⟨_, rfl⟩
  rw [← hN]
  refine loop_wh (B := fun fu (x : Nat × TS × Nat) => B_X8_takeMost_87 fu x.2.1 (nt x.2.2) (nt x.1)) (mu := fun x => n - x.1) (G := fun o => ∃ u, o = some (nt (rgV w n n 0) - 1, uI (uI u 803 0 (nt n)) 801 0 0) ∧ frm (ks [2802]) t u ∧ ∀ i, i < n → rgP w n n 0 i = if tA u 2802 0 i = nt i then -2 else tA u 2802 0 i) (P := fun x => x.1 ≤ n ∧ frm (ks [2802]) t x.2.1 ∧ x.2.2 < 2 ^ n ∧ pcB x.2.2 = x.1 ∧ 0 < rgV w n (n - x.1) x.2.2 ∧ (∀ i, i < x.1 → rgP w n n 0 i = if tA x.2.1 2802 0 i = nt i then -2 else tA x.2.1 2802 0 i) ∧ ∀ i, x.1 ≤ i → rgP w n n 0 i = rgP w n (n - x.1) x.2.2 i) ?_ N (0, t, 0) ⟨Nat.zero_le _, frm_rf, h1, hpc0, ?_, fun i hi => absurd hi (Nat.not_lt_zero i), fun i _ => rfl⟩ (by show n - 0 < N; omega)
  · intro fu x hx
    obtain ⟨k, u, g⟩ := x
    have hk : k ≤ n := hx.1
    have h : frm (ks [2802]) t u := hx.2.1
    have hg : g < 2 ^ n := hx.2.2.1
    have hpc : pcB g = k := hx.2.2.2.1
    have hv : 0 < rgV w n (n - k) g := hx.2.2.2.2.1
    have hz : ∀ i, i < k → rgP w n n 0 i = if tA u 2802 0 i = nt i then -2 else tA u 2802 0 i := hx.2.2.2.2.2.1
    have hr : ∀ i, k ≤ i → rgP w n n 0 i = rgP w n (n - k) g i := hx.2.2.2.2.2.2
    show (∃ u', BB_X8_takeMost_87 (B_X8_takeMost_87 fu) u (nt g) (nt k) = _ ∧ _) ∨ ∃ a', BB_X8_takeMost_87 (B_X8_takeMost_87 fu) u (nt g) (nt k) = _ ∧ _
    have hL1 := Ilen_f h hL
    have e801 : tI u 801 0 = nt n := by rw [(h.1 801 rfl).2.1, h801]
    have eT : tA u 2804 = tA t 2804 := (h.1 2804 rfl).2.2.2.2.1
    unfold BB_X8_takeMost_87
    rw [e801, igE (by omega) (by omega)]
    by_cases e : k = n
    · left
      rw [if_pos (by omega)]
      unfold B_X8_takeMost_124
      rw [e801, nxt_e, nxt_e, show tL (uI (uI u 803 0 (nt n)) 801 0 0) 2804 0 = 256 from hL1 2804 rfl]
      refine ⟨u, ?_, h, fun i hi => hz i (by omega)⟩
      show gd (nt 0) 256 (some (tA u 2804 0 0, _)) = _
      rw [gd_nt _ (by omega) (by omega), eT, hT 0 h1]
      unfold tbR
      rw [hpc0, Nat.sub_zero]
    · right
      obtain ⟨d, hd⟩ : ∃ d, n - k = d + 1 := ⟨n - k - 1, by omega⟩
      rw [hd] at hv hr
      have hd2 : n - (d + 1) = k := by omega
      obtain ⟨f1, f2, f3, f4⟩ := first_eq (t := u) (w := w) (g := g) (d := d) hL1 hn e801 (fun i hi => by rw [(h.1 2800 rfl).2.2.2.2.1]; exact hw0 i hi) (fun g' hg' => by rw [eT]; exact hT g' hg') hg (by omega) (by omega) hv
      rw [hpc] at f1
      have hPk : ∀ i, k ≤ i → rgP w n n 0 i = rgp k (rgC w n d g) (rgP w n d (g ||| 2 ^ rgC w n d g)) i := fun i hi => by
        rw [hr i hi]
        show rgp (n - (d + 1)) _ _ i = _
        rw [hd2]
      generalize rgC w n d g = c at f1 f2 f3 f4 hPk
      have ex : ∀ i, tA (uA u 2802 0 k (nt c)) 2802 0 i = if i = k then nt c else tA u 2802 0 i := by
        intro i
        rw [A_uA, m1_s]
        by_cases e2 : i = k
        · rw [if_pos e2, e2, m1_s]
        · rw [if_neg e2, m1_n e2]
      refine ⟨(k + 1, uA u 2802 0 k (nt c), g ||| 2 ^ c), ?_, ⟨by show k + 1 ≤ n; omega, frm_tr h (frm_uA rfl), or_ltn n hn g hg c f2, ?_, ?_, fun i hi => ?_, fun i hi => ?_⟩, by show n - (k + 1) < n - k; omega⟩
      · have e3 : tA (uA u 2802 0 k (nt c)) 2802 0 k = nt c := by rw [ex k, if_pos rfl]
        rw [if_neg (by omega), f1, ob_s, (show tL _ 2802 0 = 8 from hL1 2802 rfl), gd_nt _ (by omega) (by omega), nxt_e, nt_cl (by omega), show tL (uA u 2802 0 k (nt c)) 2802 0 = 8 from hL1 2802 rfl, gd_nt _ (by omega) (by omega), e3, or_pow (by omega), nt_succ]
      · show pcB (g ||| 2 ^ c) = k + 1
        rw [pc_or g (by omega) c (by omega) f3, hpc]
      · show 0 < rgV w n (n - (k + 1)) (g ||| 2 ^ c)
        rw [show n - (k + 1) = d by omega]
        exact f4
      · show rgP w n n 0 i = if tA (uA u 2802 0 k (nt c)) 2802 0 i = nt i then -2 else tA (uA u 2802 0 k (nt c)) 2802 0 i
        have hi' : i < k + 1 := hi
        rw [ex i]
        by_cases e2 : i = k
        · rw [if_pos e2, hPk i (by omega), e2]
          unfold rgp
          rw [if_pos rfl, ieQ (by omega) (by omega)]
        · rw [if_neg e2]
          exact hz i (by omega)
      · show rgP w n n 0 i = rgP w n (n - (k + 1)) (g ||| 2 ^ c) i
        have hi' : k + 1 ≤ i := hi
        rw [hPk i (by omega), show n - (k + 1) = d by omega]
        unfold rgp
        rw [if_neg (by omega)]
  · have := rgV_id (w := w) hn n (Nat.le_refl _)
    rw [Nat.sub_self] at this
    exact this
def kRing2 : List Nat := [801, 803, 1375, 1379, 1380, 2800, 2802, 2804, 3376, 3377, 3378]
theorem m_rings (hL : Ilen t) (hI : Iring t) : Eqm (F_X12_rings t) (fun t => F_X13_rings t) (fun t2 => Iring t2 ∧ frm (ks kRing2) t t2) := by
  have hI2 := hI
  obtain ⟨⟨n, hn, e1, e2, e3⟩, hg⟩ := hI2
  by_cases h0 : n = 0
  · refine ⟨-1, t, t, ?_, ?_, hI, frm_rf⟩
    · unfold F_X12_rings
      rw [e1, h0, if_neg (fun q => q rfl)]
    · show F_X13_rings t = _
      unfold F_X13_rings
      rw [e2, h0, if_neg (fun q => q rfl)]
  have hn0 : ¬ nt n = 0 := fun q => h0 ((nt_inj (b := 0) (by omega) (by omega)).mp q)
  obtain ⟨w, hw⟩ : ∃ w : Nat → Nat, w = fun i => (tA t 3376 0 i).toNatClampNeg := ⟨_, rfl⟩
  have hwi : ∀ i, i < n → tA t 3376 0 i = nt (w i) ∧ w i < 256 ∧ (w i).testBit i = false := by
    intro i hi
    obtain ⟨-, q2, z, hz, q3⟩ := e3 i hi
    have e4 : w i = z := by
      rw [hw]
      show (tA t 3376 0 i).toNatClampNeg = z
      rw [q3, nt_cl (by omega)]
    rw [e4]
    refine ⟨q3, hz, ?_⟩
    rw [q3, bit_b z (by omega) i (by omega), b1_0] at q2
    exact q2
  have hw0 : ∀ i, i < n → tA t 2800 0 i = nt (w i) ∧ w i < 256 := fun i hi => ⟨by rw [(e3 i hi).1]; exact (hwi i hi).1, (hwi i hi).2.1⟩
  obtain ⟨u1, a1, a2, a3⟩ := tm_out hL hn e1 hw0
  obtain ⟨u2, b1_, b2, b3⟩ := tm_read (Ilen_f a2 hL) hn (by rw [(a2.1 801 rfl).2.1, e1]) (fun i hi => by rw [(a2.1 2800 rfl).2.2.2.2.1]; exact hw0 i hi) a3
  have hf : frm (ks [801, 803, 2802, 2804]) t (uI (uI u2 803 0 (nt n)) 801 0 0) := frm_tr (frm_sb a2 (ks_sb rfl)) (frm_tr (frm_sb b2 (ks_sb rfl)) (frm_tr (frm_uI rfl) (frm_uI rfl)))
  have e02 : tA (uI (uI u2 803 0 (nt n)) 801 0 0) 2802 = tA u2 2802 := rfl
  have e03 : tI (uI (uI u2 803 0 (nt n)) 801 0 0) 803 0 = nt n := by simp (disch := omega) only [I_uI, I_uI_n, R_uR, R_uR_n, A_uA, A_uA_n, J_uJ, J_uJ_n, Q_uQ, Q_uQ_n, E_uO, E_uO_n, I_uO, I_uO_n, R_uO, R_uO_n, E_uN, E_uN_n, L_uN, L_uN_n, A_uN, A_uN_n, J_uN, J_uN_n, Q_uN, Q_uN_n, A_uCA, A_uCA_n, J_uCJ, J_uCJ_n, E_uI, R_uI, L_uI, A_uI, J_uI, Q_uI, E_uR, I_uR, L_uR, A_uR, J_uR, Q_uR, E_uA, I_uA, R_uA, L_uA, J_uA, Q_uA, E_uJ, I_uJ, R_uJ, L_uJ, A_uJ, Q_uJ, E_uQ, I_uQ, R_uQ, L_uQ, A_uQ, J_uQ, L_uO, A_uO, J_uO, Q_uO, I_uN, R_uN, E_uCA, I_uCA, R_uCA, L_uCA, J_uCA, Q_uCA, E_uCJ, I_uCJ, R_uCJ, L_uCJ, A_uCJ, Q_uCJ, m1_s]
  have e04 : tI (uI (uI u2 803 0 (nt n)) 801 0 0) 801 0 = 0 := by simp (disch := omega) only [I_uI, I_uI_n, R_uR, R_uR_n, A_uA, A_uA_n, J_uJ, J_uJ_n, Q_uQ, Q_uQ_n, E_uO, E_uO_n, I_uO, I_uO_n, R_uO, R_uO_n, E_uN, E_uN_n, L_uN, L_uN_n, A_uN, A_uN_n, J_uN, J_uN_n, Q_uN, Q_uN_n, A_uCA, A_uCA_n, J_uCJ, J_uCJ_n, E_uI, R_uI, L_uI, A_uI, J_uI, Q_uI, E_uR, I_uR, L_uR, A_uR, J_uR, Q_uR, E_uA, I_uA, R_uA, L_uA, J_uA, Q_uA, E_uJ, I_uJ, R_uJ, L_uJ, A_uJ, Q_uJ, E_uQ, I_uQ, R_uQ, L_uQ, A_uQ, J_uQ, L_uO, A_uO, J_uO, Q_uO, I_uN, R_uN, E_uCA, I_uCA, R_uCA, L_uCA, J_uCA, Q_uCA, E_uCJ, I_uCJ, R_uCJ, L_uCJ, A_uCJ, Q_uCJ, m1_s]
  obtain ⟨t1, ht1⟩ : ∃ t1, t1 = uI (uI u2 803 0 (nt n)) 801 0 0 := ⟨_, rfl⟩
  rw [← ht1] at hf b1_ e02 e03 e04
  have hL1 := Ilen_f hf hL
  have hf2 : frm (ks [1380]) t1 (uI t1 1380 0 (-1)) := frm_uI rfl
  have hV := rgV_id (w := w) hn n (Nat.le_refl _)
  rw [Nat.sub_self] at hV
  obtain ⟨u3, c1, c2, -, c4⟩ := ring_eq (w := w) hn (fun k hk => ⟨(hwi k hk).2.2, (hwi k hk).2.1⟩) n (Nat.le_refl _) 100 (by omega) (uI t1 1380 0 (-1)) 0 0 0 0 (Ilen_f hf2 hL1) (by rw [(hf2.1 1375 rfl).2.1, (hf.1 1375 rfl).2.1, e2]) (fun i hi => by rw [(hf2.1 3376 rfl).2.2.2.2.1, (hf.1 3376 rfl).2.2.2.2.1]; exact (hwi i hi).1) (by omega) (by omega) (fun i q => by rw [Nat.zero_testBit] at q; cases q.1) (fun i _ => Nat.zero_testBit i) pcB_0 (Nat.zero_le _) (by omega) (by rw [I_uI, m1_s]; decide)
  rw [Nat.sub_self] at c1 c4
  have hor : (0 : Nat) ||| 0 = 0 := rfl
  rw [hor] at c4
  have hV2 : 0 < rgV w n n 0 := hV
  obtain ⟨d1, d2⟩ : tI u3 1380 0 = nt (rgV w n n 0) - 1 ∧ ∀ i, i < n → tA u3 3378 0 i = rgP w n n 0 i := by
    rcases c4 with ⟨q1, -, -⟩ | ⟨q1, q2, q3⟩
    · omega
    · rw [Nat.zero_add] at q2
      exact ⟨q2, fun i hi => by rw [q3 i hi, if_neg (Nat.not_lt_zero i)]⟩
  have e375 : tI u3 1375 0 = nt n := by rw [(c2.1 1375 rfl).2.1, (hf2.1 1375 rfl).2.1, (hf.1 1375 rfl).2.1, e2]
  refine ⟨nt (rgV w n n 0) - 1, t1, uI (uI u3 1379 0 (nt n)) 1375 0 0, ?_, ?_, ⟨⟨0, by omega, ?_, ?_, fun i hi => absurd hi (Nat.not_lt_zero i)⟩, n, hn, Or.inl ?_, ?_, fun i hi => ?_⟩, ?_⟩
  · unfold F_X12_rings
    rw [e1, if_pos hn0, a1, b1_, ob2_s]
  · show F_X13_rings t1 = _
    unfold F_X13_rings F_X13_ring
    have e75 : tI t1 1375 0 = nt n := by rw [(hf.1 1375 rfl).2.1, e2]
    rw [e75, if_pos hn0, nxt_e]
    show Option.bind (G_X13_ring 100 0 (uI t1 1380 0 (-1)) (nt 0) (nt 0) (nt 0) (nt 0)) _ = _
    rw [c1, ob_s, nxt_e, nxt_e, e375]
    simp (disch := omega) only [I_uI, I_uI_n, R_uR, R_uR_n, A_uA, A_uA_n, J_uJ, J_uJ_n, Q_uQ, Q_uQ_n, E_uO, E_uO_n, I_uO, I_uO_n, R_uO, R_uO_n, E_uN, E_uN_n, L_uN, L_uN_n, A_uN, A_uN_n, J_uN, J_uN_n, Q_uN, Q_uN_n, A_uCA, A_uCA_n, J_uCJ, J_uCJ_n, E_uI, R_uI, L_uI, A_uI, J_uI, Q_uI, E_uR, I_uR, L_uR, A_uR, J_uR, Q_uR, E_uA, I_uA, R_uA, L_uA, J_uA, Q_uA, E_uJ, I_uJ, R_uJ, L_uJ, A_uJ, Q_uJ, E_uQ, I_uQ, R_uQ, L_uQ, A_uQ, J_uQ, L_uO, A_uO, J_uO, Q_uO, I_uN, R_uN, E_uCA, I_uCA, R_uCA, L_uCA, J_uCA, Q_uCA, E_uCJ, I_uCJ, R_uCJ, L_uCJ, A_uCJ, Q_uCJ, m1_s, d1]
  · simp (disch := omega) only [I_uI, I_uI_n, R_uR, R_uR_n, A_uA, A_uA_n, J_uJ, J_uJ_n, Q_uQ, Q_uQ_n, E_uO, E_uO_n, I_uO, I_uO_n, R_uO, R_uO_n, E_uN, E_uN_n, L_uN, L_uN_n, A_uN, A_uN_n, J_uN, J_uN_n, Q_uN, Q_uN_n, A_uCA, A_uCA_n, J_uCJ, J_uCJ_n, E_uI, R_uI, L_uI, A_uI, J_uI, Q_uI, E_uR, I_uR, L_uR, A_uR, J_uR, Q_uR, E_uA, I_uA, R_uA, L_uA, J_uA, Q_uA, E_uJ, I_uJ, R_uJ, L_uJ, A_uJ, Q_uJ, E_uQ, I_uQ, R_uQ, L_uQ, A_uQ, J_uQ, L_uO, A_uO, J_uO, Q_uO, I_uN, R_uN, E_uCA, I_uCA, R_uCA, L_uCA, J_uCA, Q_uCA, E_uCJ, I_uCJ, R_uCJ, L_uCJ, A_uCJ, Q_uCJ, m1_s]
    rw [(c2.1 801 rfl).2.1, (hf2.1 801 rfl).2.1, e04]; rfl
  · simp (disch := omega) only [I_uI, I_uI_n, R_uR, R_uR_n, A_uA, A_uA_n, J_uJ, J_uJ_n, Q_uQ, Q_uQ_n, E_uO, E_uO_n, I_uO, I_uO_n, R_uO, R_uO_n, E_uN, E_uN_n, L_uN, L_uN_n, A_uN, A_uN_n, J_uN, J_uN_n, Q_uN, Q_uN_n, A_uCA, A_uCA_n, J_uCJ, J_uCJ_n, E_uI, R_uI, L_uI, A_uI, J_uI, Q_uI, E_uR, I_uR, L_uR, A_uR, J_uR, Q_uR, E_uA, I_uA, R_uA, L_uA, J_uA, Q_uA, E_uJ, I_uJ, R_uJ, L_uJ, A_uJ, Q_uJ, E_uQ, I_uQ, R_uQ, L_uQ, A_uQ, J_uQ, L_uO, A_uO, J_uO, Q_uO, I_uN, R_uN, E_uCA, I_uCA, R_uCA, L_uCA, J_uCA, Q_uCA, E_uCJ, I_uCJ, R_uCJ, L_uCJ, A_uCJ, Q_uCJ, m1_s]; rfl
  · simp (disch := omega) only [I_uI, I_uI_n, R_uR, R_uR_n, A_uA, A_uA_n, J_uJ, J_uJ_n, Q_uQ, Q_uQ_n, E_uO, E_uO_n, I_uO, I_uO_n, R_uO, R_uO_n, E_uN, E_uN_n, L_uN, L_uN_n, A_uN, A_uN_n, J_uN, J_uN_n, Q_uN, Q_uN_n, A_uCA, A_uCA_n, J_uCJ, J_uCJ_n, E_uI, R_uI, L_uI, A_uI, J_uI, Q_uI, E_uR, I_uR, L_uR, A_uR, J_uR, Q_uR, E_uA, I_uA, R_uA, L_uA, J_uA, Q_uA, E_uJ, I_uJ, R_uJ, L_uJ, A_uJ, Q_uJ, E_uQ, I_uQ, R_uQ, L_uQ, A_uQ, J_uQ, L_uO, A_uO, J_uO, Q_uO, I_uN, R_uN, E_uCA, I_uCA, R_uCA, L_uCA, J_uCA, Q_uCA, E_uCJ, I_uCJ, R_uCJ, L_uCJ, A_uCJ, Q_uCJ, m1_s]
  · simp (disch := omega) only [I_uI, I_uI_n, R_uR, R_uR_n, A_uA, A_uA_n, J_uJ, J_uJ_n, Q_uQ, Q_uQ_n, E_uO, E_uO_n, I_uO, I_uO_n, R_uO, R_uO_n, E_uN, E_uN_n, L_uN, L_uN_n, A_uN, A_uN_n, J_uN, J_uN_n, Q_uN, Q_uN_n, A_uCA, A_uCA_n, J_uCJ, J_uCJ_n, E_uI, R_uI, L_uI, A_uI, J_uI, Q_uI, E_uR, I_uR, L_uR, A_uR, J_uR, Q_uR, E_uA, I_uA, R_uA, L_uA, J_uA, Q_uA, E_uJ, I_uJ, R_uJ, L_uJ, A_uJ, Q_uJ, E_uQ, I_uQ, R_uQ, L_uQ, A_uQ, J_uQ, L_uO, A_uO, J_uO, Q_uO, I_uN, R_uN, E_uCA, I_uCA, R_uCA, L_uCA, J_uCA, Q_uCA, E_uCJ, I_uCJ, R_uCJ, L_uCJ, A_uCJ, Q_uCJ, m1_s]
    rw [(c2.1 803 rfl).2.1, (hf2.1 803 rfl).2.1, e03]
  · show tA u3 3378 0 i = if tA u3 2802 0 i = nt i then -2 else tA u3 2802 0 i
    rw [d2 i hi, (c2.1 2802 rfl).2.2.2.2.1, (hf2.1 2802 rfl).2.2.2.2.1, e02]
    exact b3 i hi
  · exact frm_tr (frm_sb hf (ks_sb rfl)) (frm_tr (frm_sb hf2 (ks_sb rfl)) (frm_tr (frm_sb c2 (ks_sb rfl)) (frm_tr (frm_uI rfl) (frm_uI rfl))))
end
