/-! PART c6: rule, both. -/
section
variable {t : TS} {nR : Nat}
theorem m_rule (x1 x2 : Int32) (hL : Ilen t) (hT : Itime t) (hI : Itape t) (hY : Ibyt t) (hH : Irh nR t) (hU : Irule nR t) : Eqm (F_X12_rule t x1 x2) (fun t => F_X13_rule t x1 x2) (fun t2 => ∃ nR', Irh nR' t2 ∧ Irule nR' t2 ∧ Itape t2 ∧ frm kRul t t2) := by
  have hbad : ∀ r, F_X12_rule t x1 x2 = some (r, t) → F_X13_rule t x1 x2 = some (r, t) → Eqm (F_X12_rule t x1 x2) (fun t => F_X13_rule t x1 x2) (fun t2 => ∃ nR', Irh nR' t2 ∧ Irule nR' t2 ∧ Itape t2 ∧ frm kRul t t2) := fun r h1 h2 => ⟨r, t, t, h1, h2, nR, hH, hU, hI, frm_rf⟩
  obtain ⟨d, mi, hd, hmi, t1_, t2_, -, -⟩ := hT
  obtain ⟨n, hn, i1, i2, i3⟩ := hI
  obtain ⟨h16, r1, r2, r3⟩ := hH
  by_cases h1 : 0 ≤ x1 ∧ x1 ≤ 32
  case neg => exact hbad (-1) (by simp only [F_X12_rule, lau_eq, decide_eq_false h1, Bool.false_and, nxt_e, oc_s, oc_n, ob_s, ob2_s, gb_b1, gb_0, gb_1, gw0, gw1, Bool.false_eq_true, Bool.true_eq_false, if_true, if_false, not_true_eq_false, not_false_eq_true]) (by simp only [F_X13_rule, in_eq, decide_eq_false h1, nxt_e, oc_s, oc_n, ob_s, ob2_s, gb_b1, gb_0, gb_1, gw0, gw1, Bool.false_eq_true, Bool.true_eq_false, if_true, if_false, not_true_eq_false, not_false_eq_true])
  by_cases h2 : irm x1 10 ≤ 2
  case neg => exact hbad (-1) (by simp only [F_X12_rule, lau_eq, decide_eq_true h1, decide_eq_false h2, Bool.and_false, nxt_e, oc_s, oc_n, ob_s, ob2_s, gb_b1, gb_0, gb_1, gw0, gw1, Bool.false_eq_true, Bool.true_eq_false, if_true, if_false, not_true_eq_false, not_false_eq_true]) (by
    have c : (2 : Int32) < irm x1 10 := Int32.not_le.mp h2
    simp only [F_X13_rule, in_eq, decide_eq_true h1, nxt_e, oc_s, oc_n, ob_s, ob2_s, gb_b1, gb_0, gb_1, gw0, gw1, Bool.false_eq_true, Bool.true_eq_false, if_true, if_false, not_true_eq_false, not_false_eq_true, c])
  have c2 : ¬ (2 : Int32) < irm x1 10 := Int32.not_lt.mpr h2
  by_cases h3 : 0 ≤ x2 ∧ x2 ≤ 2999
  case neg => exact hbad (-1) (by simp only [F_X12_rule, lau_eq, decide_eq_true h1, decide_eq_true h2, Bool.and_true, win_eq, decide_eq_false h3, nxt_e, oc_s, oc_n, ob_s, ob2_s, gb_b1, gb_0, gb_1, gw0, gw1, Bool.false_eq_true, Bool.true_eq_false, if_true, if_false, not_true_eq_false, not_false_eq_true]) (by simp only [F_X13_rule, F_X13_isDay, in_eq, decide_eq_true h1, decide_eq_false h3, nxt_e, oc_s, oc_n, ob_s, ob2_s, gb_b1, gb_0, gb_1, gw0, gw1, Bool.false_eq_true, Bool.true_eq_false, if_true, if_false, not_true_eq_false, not_false_eq_true, c2])
  by_cases hr16 : nR = 16
  · have c1 : (nt nR < (16 : Int32)) = False := eq_false (by rw [hr16]; decide)
    have c3 : (nt nR = (16 : Int32)) = True := eq_true (by rw [hr16]; rfl)
    exact hbad (-3) (by simp only [F_X12_rule, lau_eq, decide_eq_true h1, decide_eq_true h2, Bool.and_true, win_eq, decide_eq_true h3, nxt_e, oc_s, oc_n, ob_s, ob2_s, gb_b1, gb_0, gb_1, gw0, gw1, Bool.false_eq_true, Bool.true_eq_false, if_true, if_false, not_true_eq_false, not_false_eq_true, r1, c1]) (by simp only [F_X13_rule, F_X13_isDay, in_eq, decide_eq_true h1, decide_eq_true h3, nxt_e, oc_s, oc_n, ob_s, ob2_s, gb_b1, gb_0, gb_1, gw0, gw1, Bool.false_eq_true, Bool.true_eq_false, if_true, if_false, not_true_eq_false, not_false_eq_true, c2, r2, c3])
  have hlt : nR < 16 := by omega
  have c16 : nt nR < (16 : Int32) := by rw [show ((nt nR : Int32) < 16) = (nR < 16) from lt_nt (n := 16) (by omega) (by omega)]; exact hlt
  -- the text
  obtain ⟨T, hTd⟩ : ∃ T : Nat → Nat, ∀ i, i < 160 → tA t 3353 0 i = bt (T i) ∧ T i < 256 := by
    refine ⟨fun i => if h : i < 160 then (hY i h).choose else 0, fun i hi => ?_⟩
    show tA t 3353 0 i = bt (if h : i < 160 then (hY i h).choose else 0) ∧ (if h : i < 160 then (hY i h).choose else 0) < 256
    rw [dif_pos hi]
    exact ⟨(hY i hi).choose_spec.2, (hY i hi).choose_spec.1⟩
  have hbm : ∀ i, i < n → tA t 3353 0 i = bt (T i) ∧ T i < 256 := fun i hi => hTd i (by omega)
  have hbc : ∀ i, i < n → tA t 2700 0 i = bt (T i) ∧ T i < 256 := fun i hi => by rw [i3 i hi]; exact hbm i hi
  obtain ⟨u, f1, hu⟩ := fot_eq hL hn i1 hbc
  have hcl : F_X12_rule t x1 x2 = ob2 (F_X7_faultOfTape t) (fun x24 t25 => (if x24 < 0 then (gE (tE t25 9 ((tI t25 1212 0).toNatClampNeg)) (nxt (uO t25 9 ((tI t25 1212 0).toNatClampNeg)) (fun t26 => (ob2 (F_X7_tapeText t26) (fun o28 t29 => (Option.bind (F_X9_init t29 ((tI t25 1212 0).toNatClampNeg) x1 (tI t26 1200 0) x2 o28 (tI t29 703 0)) (fun r30 => (gd (tI t25 1212 0) (tL r30 3211 0) (nxt (uQ r30 3211 0 (tI t25 1212 0).toNatClampNeg (some ((tI t25 1212 0).toNatClampNeg))) (fun t31 => (nxt (uI t31 701 0 0) (fun t32 => (nxt (uI t32 1212 0 ((tI t32 1212 0) + 1)) (fun t33 => (some (((tI t33 1212 0) - 1), t33)))))))))))))))) else (nxt (uI t25 701 0 0) (fun t34 => (some (((-100) - x24), t34)))))) := by
    simp only [F_X12_rule, lau_eq, decide_eq_true h1, decide_eq_true h2, Bool.and_true, win_eq, decide_eq_true h3, nxt_e, oc_s, oc_n, ob_s, ob2_s, gb_b1, gb_0, gb_1, gw0, gw1, Bool.false_eq_true, Bool.true_eq_false, if_true, if_false, not_true_eq_false, not_false_eq_true, r1, c16]
  have hLu := Ilen_f f1 hL
  rcases hu with ⟨p1, p2, p3⟩ | ⟨p1, p2, p3⟩
  case inr =>
    -- a fault
    obtain ⟨q, hq⟩ : ∃ q, q = (pRu (chA T n) 200 0 []).2.1 := ⟨_, rfl⟩
    rw [← hq] at p2 p3
    obtain ⟨t1, ht1⟩ : ∃ t1, t1 = uI u 701 0 0 := ⟨_, rfl⟩
    have ft1 : frm (ks [701, 703, 704, 705, 706, 707]) t t1 := by rw [ht1]; exact frm_tr (frm_sb f1 (ks_sb rfl)) (frm_uI rfl)
    have hL1 := Ilen_f ft1 hL
    obtain ⟨w, a1, a2, a3, a4⟩ := mrule_go (t := t1) (nR := nR) hL1 hn (by rw [(ft1.1 1354 rfl).2.1]; exact i2) (by rw [(ft1.1 1355 rfl).2.1]; exact r2) hlt (T := T) (fun i hi => by rw [(ft1.1 3353 rfl).2.2.2.2.1]; exact hbm i hi) x1 x2 h1 h2 h3
    rcases a4 with ⟨z, -, -⟩ | ⟨-, z⟩
    · rw [p1] at z; cases z
    rw [← hq] at z
    have e64 : tI (uI w 1354 0 0) 1364 0 = nt q := by rw [I_uI_n (by decide)]; exact z
    have fA : frm kRul t (uI w 1354 0 0) := frm_tr (kRul_s ft1 rfl) (frm_tr (kRul_s a2 rfl) (kRul_s (frm_uI rfl : frm (ks [1354]) w _) rfl))
    refine ⟨-100 - nt q, t1, uI w 1354 0 0, ?_, ?_, nR, ⟨h16, ?_, ?_, fun r hr => ?_⟩, ⟨fun r hr => ?_, fun r hr => ?_⟩, ⟨0, by omega, ?_, ?_, fun i hi => absurd hi (Nat.not_lt_zero i)⟩, fA⟩
    · rw [hcl, p2, ob2_s, if_neg (nt_neg (by omega)), nxt_e, ht1]
    · show F_X13_rule t1 x1 x2 = _
      rw [a1]
      unfold B_X13_rule_136
      rw [nxt_e, e64, if_neg (nt_neg (by omega))]
    · rw [I_uI_n (by decide), (a2.1 1212 rfl).2.1, (ft1.1 1212 rfl).2.1]; exact r1
    · rw [I_uI_n (by decide), (a2.1 1355 rfl).2.1, (ft1.1 1355 rfl).2.1]; exact r2
    · obtain ⟨y1, y2, y3, y4⟩ := r3 r hr
      refine ⟨?_, ?_, ?_, ?_⟩
      · show tQ w 3211 0 r = _
        rw [(a2.1 3211 rfl).2.2.2.2.2.2, (ft1.1 3211 rfl).2.2.2.2.2.2]; exact y1
      · rw [I_uI_n (by decide), (a2.1 900 rfl).2.1, (ft1.1 900 rfl).2.1]
        show _ = tA w 3356 0 r
        rw [(a2.1 3356 rfl).2.2.2.2.1, (ft1.1 3356 rfl).2.2.2.2.1]; exact y2
      · rw [I_uI_n (by decide), (a2.1 901 rfl).2.1, (ft1.1 901 rfl).2.1]
        show _ = tA w 3357 0 r
        rw [(a2.1 3357 rfl).2.2.2.2.1, (ft1.1 3357 rfl).2.2.2.2.1]; exact y3
      · rw [I_uI_n (by decide), (a2.1 902 rfl).2.1, (ft1.1 902 rfl).2.1]
        show _ = tA w 3358 0 r
        rw [(a2.1 3358 rfl).2.2.2.2.1, (ft1.1 3358 rfl).2.2.2.2.1]; exact y4
    · refine Irule1_k ?_ ?_ ?_ ?_ ?_ (fun i hi => ?_) (fun i hi => ?_) rule_bd (hU.1 r hr)
      · show tA w 2700 (r + 1) = _
        rw [(a2.1 2700 rfl).2.2.2.2.1, (ft1.1 2700 rfl).2.2.2.2.1]
      · show tL w 2700 (r + 1) = _
        rw [(a2.1 2700 rfl).2.2.2.1, (ft1.1 2700 rfl).2.2.2.1]
      · show tR w 903 r = _
        rw [(a2.1 903 rfl).2.2.1, (ft1.1 903 rfl).2.2.1]
      · rw [I_uI_n (by decide), (a2.1 904 rfl).2.1, (ft1.1 904 rfl).2.1]
      · show tA w 3359 0 r = _
        rw [a3.1 r hr, (ft1.1 3359 rfl).2.2.2.2.1]
      · show tA w 3360 0 _ = _
        rw [a3.2.1 _ (by omega), (ft1.1 3360 rfl).2.2.2.2.1]
      · show tA w 3361 0 _ = _ ∧ tA w 3362 0 _ = _
        rw [(a3.2.2 _ (by omega)).1, (a3.2.2 _ (by omega)).2, (ft1.1 3361 rfl).2.2.2.2.1, (ft1.1 3362 rfl).2.2.2.2.1]
        exact ⟨rfl, rfl⟩
    · show tE w 9 r = false ∧ tE w 2700 (r + 1) = false
      rw [(a2.1 9 rfl).1, (a2.1 2700 rfl).1, (ft1.1 9 rfl).1, (ft1.1 2700 rfl).1]
      exact hU.2 r hr
    · rw [I_uI_n (by decide), (a2.1 701 rfl).2.1, ht1, I_uI, m1_s]; rfl
    · rw [I_uI, m1_s]; rfl
  -- no fault
  obtain ⟨M, hM⟩ : ∃ M, M = nmk 0 (pRu (chA T n) 200 0 []).2.2.flatten := ⟨_, rfl⟩
  rw [← hM] at p3
  have e1212 : tI u 1212 0 = nt nR := by rw [(f1.1 1212 rfl).2.1]; exact r1
  have hE9 : tE u 9 nR = false := by rw [(f1.1 9 rfl).1]; exact (hU.2 nR (Nat.le_refl _)).1
  have fv1 : frm (ko 9) u (uO u 9 nR) := frm_uO (fun k hk => hk)
  obtain ⟨v1, hv1⟩ : ∃ v1, v1 = uO u 9 nR := ⟨_, rfl⟩
  rw [← hv1] at fv1
  have v1A : tA v1 = tA u := by rw [hv1]; rfl
  have v1L : tL v1 = tL u := by rw [hv1]; rfl
  have v1I : ∀ k, ¬ k / 100 = 9 → tI v1 k = tI u k := fun k hk => by rw [hv1, I_uO_n hk]
  have v1R : ∀ r, ¬ r = nR → tR v1 903 r = tR u 903 r := fun r hr => by rw [hv1, R_uO (by decide), m1_n hr]
  have v1E : ∀ k, ¬ k = 9 → tE v1 k = tE u k := fun k hk => by rw [hv1, E_uO_n hk]
  have hLv1 : Ilen v1 := Ilen_f fv1 hLu
  obtain ⟨v2, b1_, b2, b3, b4, b5⟩ := ttext_eq (t := v1) (nR := nR) (T := T) hLv1 hn (by rw [v1I 701 (by decide), (f1.1 701 rfl).2.1]; exact i1) (by rw [v1I 1212 (by decide)]; exact e1212) h16 (by rw [v1E 2700 (by decide), (f1.1 2700 rfl).1]; exact (hU.2 nR (Nat.le_refl _)).2) (fun i hi => by rw [v1A, (f1.1 2700 rfl).2.2.2.2.1]; exact hbc i hi)
  obtain ⟨t1, ht1⟩ : ∃ t1, t1 = uI (uI (uQ (uI (uR (uI (uI (uI v2 900 nR x1) 901 nR (nt d)) 902 nR x2) 903 nR (some (nR + 1))) 904 nR M) 3211 0 nR (some nR)) 701 0 0) 1212 0 (nt (nR + 1)) := ⟨_, rfl⟩
  have ft2 : frm (ks [900, 901, 902, 903, 904, 3211, 701, 1212]) v2 t1 := by
    rw [ht1]
    exact frm_tr (frm_uI rfl) (frm_tr (frm_uI rfl) (frm_tr (frm_uI rfl) (frm_tr (frm_uR rfl) (frm_tr (frm_uI rfl) (frm_tr (frm_uQ rfl) (frm_tr (frm_uI rfl) (frm_uI rfl)))))))
  have hDk : ∀ k, ko 9 k = true → kRul k = true := fun k hk => by
    unfold kRul k2
    rw [hk, Bool.true_or]
  have ft : frm kRul t t1 := by
    refine frm_tr (kRul_s f1 rfl) (frm_tr (frm_sb fv1 (fun k hk => ?_)) (frm_tr (kRul_s b2 rfl) (frm_sb ft2 (fun k hk => ?_))))
    · cases e : ko 9 k with
      | false => rfl
      | true => rw [hDk k e] at hk; cases hk
    · have h9 : ko 9 k = false := by
        cases e : ko 9 k with
        | false => rfl
        | true => rw [hDk k e] at hk; cases hk
      have hk2 : (ks [701, 703, 704, 705, 706, 707, 1212, 2700, 3211, 1354, 1355, 1363, 1364, 1365, 1366, 1367, 3356, 3357, 3358, 3359, 3360, 3361, 3362]) k = false := by
        unfold kRul k2 at hk
        simp only [Bool.or_eq_false_iff] at hk
        exact hk.2
      unfold ko at h9
      simp only [Bool.or_eq_false_iff, beq_eq_false_iff_ne, ne_eq] at h9
      cases e : ks [900, 901, 902, 903, 904, 3211, 701, 1212] k with
      | false => rfl
      | true =>
        have hm : k ∈ [900, 901, 902, 903, 904, 3211, 701, 1212] := by
          unfold ks at e
          exact List.contains_iff_mem.mp e
        simp only [List.mem_cons, List.not_mem_nil, or_false] at hm
        rcases hm with rfl | rfl | rfl | rfl | rfl | rfl | rfl | rfl
        · exact absurd rfl h9.2
        · exact absurd rfl h9.2
        · exact absurd rfl h9.2
        · exact absurd rfl h9.2
        · exact absurd rfl h9.2
        · exact absurd hk2 (by decide)
        · exact absurd hk2 (by decide)
        · exact absurd hk2 (by decide)
  have hL1 := Ilen_f ft hL
  -- the model's reads of the class's result
  have t1A : tA t1 = tA v2 := by rw [ht1]; rfl
  have t1L : tL t1 = tL v2 := by rw [ht1]; rfl
  have t1E : tE t1 = tE v2 := by rw [ht1]; rfl
  have gA : ∀ k, ks [2700] k = false → ks [703, 704, 705, 706, 707] k = false → tA t1 k = tA t k := fun k k1 k2_ => by
    rw [t1A, (b2.1 k k1).2.2.2.2.1, v1A, (f1.1 k k2_).2.2.2.2.1]
  have gI : ∀ k, ks [900, 901, 902, 903, 904, 3211, 701, 1212] k = false → ks [2700] k = false → ¬ k / 100 = 9 → ks [703, 704, 705, 706, 707] k = false → tI t1 k = tI t k := fun k k0 k1 k9 k2_ => by
    rw [(ft2.1 k k0).2.1, (b2.1 k k1).2.1, v1I k k9, (f1.1 k k2_).2.1]
  have h9I : ∀ k r, k / 100 = 9 → ¬ r = nR → tI v2 k r = tI t k r := fun k r hk hr => by
    have k1 : ks [2700] k = false := by
      cases e : ks [2700] k with
      | false => rfl
      | true =>
        unfold ks at e
        have := List.contains_iff_mem.mp e
        simp only [List.mem_cons, List.not_mem_nil, or_false] at this
        omega
    have k3 : ks [703, 704, 705, 706, 707] k = false := by
      cases e : ks [703, 704, 705, 706, 707] k with
      | false => rfl
      | true =>
        unfold ks at e
        have := List.contains_iff_mem.mp e
        simp only [List.mem_cons, List.not_mem_nil, or_false] at this
        omega
    rw [(b2.1 k k1).2.1, hv1, I_uO hk, m1_n hr, (f1.1 k k3).2.1]
  obtain ⟨w, a1, a2, a3, a4⟩ := mrule_go (t := t1) (nR := nR) hL1 hn (by rw [gI 1354 rfl rfl (by decide) rfl]; exact i2) (by rw [gI 1355 rfl rfl (by decide) rfl]; exact r2) hlt (T := T) (fun i hi => by rw [gA 3353 rfl rfl]; exact hbm i hi) x1 x2 h1 h2 h3
  rcases a4 with ⟨-, z1, z2⟩ | ⟨z, -⟩
  case inr => rw [p1] at z; cases z
  have hLw := Ilen_f a2 hL1
  have w1355 : tI w 1355 0 = nt nR := by rw [(a2.1 1355 rfl).2.1, gI 1355 rfl rfl (by decide) rfl]; exact r2
  have w1301 : tI w 1301 0 = nt d := by rw [(a2.1 1301 rfl).2.1, gI 1301 rfl rfl (by decide) rfl]; exact t2_
  obtain ⟨t2, ht2⟩ : ∃ t2, t2 = uI (uA (uA (uA (uI w 1354 0 0) 3356 0 nR x1) 3357 0 nR (nt d)) 3358 0 nR x2) 1355 0 (nt (nR + 1)) := ⟨_, rfl⟩
  have ft3 : frm (ks [1354, 1355, 3356, 3357, 3358]) w t2 := by
    rw [ht2]
    exact frm_tr (frm_uI rfl) (frm_tr (frm_uA rfl) (frm_tr (frm_uA rfl) (frm_tr (frm_uA rfl) (frm_uI rfl))))
  have fall : frm kRul t t2 := frm_tr ft (frm_tr (kRul_s a2 rfl) (kRul_s ft3 rfl))
  refine ⟨nt nR, t1, t2, ?_, ?_, nR + 1, ⟨by omega, ?_, ?_, fun r hr => ?_⟩, ⟨fun r hr => ?_, fun r hr => ?_⟩, ⟨0, by omega, ?_, ?_, fun i hi => absurd hi (Nat.not_lt_zero i)⟩, fall⟩
  · have v1200 : tI v1 1200 0 = nt d := by rw [v1I 1200 (by decide), (f1.1 1200 rfl).2.1]; exact t1_
    have v2703 : tI v2 703 0 = M := by rw [(b2.1 703 rfl).2.1, v1I 703 (by decide)]; exact p3
    have hLv2 := Ilen_f b2 hLv1
    rw [hcl, p2, ob2_s, if_pos (by decide), e1212, nt_cl (by omega), gE_f _ hE9, nxt_e, ← hv1, b1_, ob2_s, v1200, v2703]
    have hini : F_X9_init v2 nR x1 (nt d) x2 (some (nR + 1)) M = some (uI (uR (uI (uI (uI v2 900 nR x1) 901 nR (nt d)) 902 nR x2) 903 nR (some (nR + 1))) 904 nR M) := rfl
    rw [hini, ob_s, show tL (uI (uR (uI (uI (uI v2 900 nR x1) 901 nR (nt d)) 902 nR x2) 903 nR (some (nR + 1))) 904 nR M) 3211 0 = 16 from hLv2 3211 rfl, gd_nt _ (by omega) (by omega), nxt_e, nxt_e, nxt_e]
    have e12 : tI (uI (uQ (uI (uR (uI (uI (uI v2 900 nR x1) 901 nR (nt d)) 902 nR x2) 903 nR (some (nR + 1))) 904 nR M) 3211 0 nR (some nR)) 701 0 0) 1212 0 = nt nR := by
      simp (disch := omega) only [I_uI, I_uI_n, R_uR, R_uR_n, A_uA, A_uA_n, J_uJ, J_uJ_n, Q_uQ, Q_uQ_n, E_uO, E_uO_n, I_uO, I_uO_n, R_uO, R_uO_n, E_uN, E_uN_n, L_uN, L_uN_n, A_uN, A_uN_n, J_uN, J_uN_n, Q_uN, Q_uN_n, A_uCA, A_uCA_n, J_uCJ, J_uCJ_n, E_uI, R_uI, L_uI, A_uI, J_uI, Q_uI, E_uR, I_uR, L_uR, A_uR, J_uR, Q_uR, E_uA, I_uA, R_uA, L_uA, J_uA, Q_uA, E_uJ, I_uJ, R_uJ, L_uJ, A_uJ, Q_uJ, E_uQ, I_uQ, R_uQ, L_uQ, A_uQ, J_uQ, L_uO, A_uO, J_uO, Q_uO, I_uN, R_uN, E_uCA, I_uCA, R_uCA, L_uCA, J_uCA, Q_uCA, E_uCJ, I_uCJ, R_uCJ, L_uCJ, A_uCJ, Q_uCJ, m1_s]
      rw [(b2.1 1212 rfl).2.1, v1I 1212 (by decide)]; exact e1212
    rw [e12, nt_succ, ht1]
    simp (disch := omega) only [I_uI, m1_s, nt_pred]
  · show F_X13_rule t1 x1 x2 = _
    rw [a1]
    unfold B_X13_rule_136
    have e64 : tI (uI w 1354 0 0) 1364 0 = -1 := by rw [I_uI_n (by decide)]; exact z1
    have e55 : tI (uI w 1354 0 0) 1355 0 = nt nR := by rw [I_uI_n (by decide)]; exact w1355
    have e01 : tI (uI w 1354 0 0) 1301 0 = nt d := by rw [I_uI_n (by decide)]; exact w1301
    have f36 : Ilen (uI w 1354 0 0) := Ilen_f (frm_uI rfl : frm (ks [1354]) w _) hLw
    rw [nxt_e, e64, if_pos (by decide)]
    have ea : ∀ k j v, tI (uA (uI w 1354 0 0) k 0 j v) = tI (uI w 1354 0 0) := fun _ _ _ => rfl
    have eb : ∀ k j v k' j' v', tI (uA (uA (uI w 1354 0 0) k 0 j v) k' 0 j' v') = tI (uI w 1354 0 0) := fun _ _ _ _ _ _ => rfl
    have ec : ∀ k j v k' j' v' k'' j'' v'', tI (uA (uA (uA (uI w 1354 0 0) k 0 j v) k' 0 j' v') k'' 0 j'' v'') = tI (uI w 1354 0 0) := fun _ _ _ _ _ _ _ _ _ => rfl
    rw [e55, show tL (uI w 1354 0 0) 3356 0 = 16 from f36 3356 rfl, gd_nt _ (by omega) (by omega), nt_cl (by omega), nxt_e, ea, e55, show tL (uA (uI w 1354 0 0) 3356 0 nR x1) 3357 0 = 16 from f36 3357 rfl, gd_nt _ (by omega) (by omega), nt_cl (by omega), nxt_e, eb, e55, e01, show tL (uA (uA (uI w 1354 0 0) 3356 0 nR x1) 3357 0 nR (nt d)) 3358 0 = 16 from f36 3358 rfl, gd_nt _ (by omega) (by omega), nt_cl (by omega), nxt_e, ec, e55, nxt_e, nt_succ, I_uI, m1_s, nt_pred, ht2]
  · rw [(ft3.1 1212 rfl).2.1, (a2.1 1212 rfl).2.1, ht1, I_uI, m1_s]
  · rw [ht2, I_uI, m1_s]
  · have k0 : ∀ k, ks [1354, 1355, 3356, 3357, 3358] k = false → ks [1363, 1364, 1365, 1366, 1367, 3359, 3360, 3361, 3362] k = false → tI t2 k = tI t1 k ∧ tQ t2 k = tQ t1 k := fun k k1 k3 => ⟨by rw [(ft3.1 k k1).2.1, (a2.1 k k3).2.1], by rw [(ft3.1 k k1).2.2.2.2.2.2, (a2.1 k k3).2.2.2.2.2.2]⟩
    have m56 : tA w 3356 = tA t 3356 := by rw [(a2.1 3356 rfl).2.2.2.2.1, gA 3356 rfl rfl]
    have m57 : tA w 3357 = tA t 3357 := by rw [(a2.1 3357 rfl).2.2.2.2.1, gA 3357 rfl rfl]
    have m58 : tA w 3358 = tA t 3358 := by rw [(a2.1 3358 rfl).2.2.2.2.1, gA 3358 rfl rfl]
    have t256 : ∀ r, tA t2 3356 0 r = if r = nR then x1 else tA t 3356 0 r := fun r => by
      rw [ht2]
      simp (disch := omega) only [I_uI, I_uI_n, R_uR, R_uR_n, A_uA, A_uA_n, J_uJ, J_uJ_n, Q_uQ, Q_uQ_n, E_uO, E_uO_n, I_uO, I_uO_n, R_uO, R_uO_n, E_uN, E_uN_n, L_uN, L_uN_n, A_uN, A_uN_n, J_uN, J_uN_n, Q_uN, Q_uN_n, A_uCA, A_uCA_n, J_uCJ, J_uCJ_n, E_uI, R_uI, L_uI, A_uI, J_uI, Q_uI, E_uR, I_uR, L_uR, A_uR, J_uR, Q_uR, E_uA, I_uA, R_uA, L_uA, J_uA, Q_uA, E_uJ, I_uJ, R_uJ, L_uJ, A_uJ, Q_uJ, E_uQ, I_uQ, R_uQ, L_uQ, A_uQ, J_uQ, L_uO, A_uO, J_uO, Q_uO, I_uN, R_uN, E_uCA, I_uCA, R_uCA, L_uCA, J_uCA, Q_uCA, E_uCJ, I_uCJ, R_uCJ, L_uCJ, A_uCJ, Q_uCJ, m1_s]
      rw [m56]
      by_cases e : r = nR
      · rw [if_pos e, e, m1_s]
      · rw [if_neg e, m1_n e]
    have t257 : ∀ r, tA t2 3357 0 r = if r = nR then nt d else tA t 3357 0 r := fun r => by
      rw [ht2]
      simp (disch := omega) only [I_uI, I_uI_n, R_uR, R_uR_n, A_uA, A_uA_n, J_uJ, J_uJ_n, Q_uQ, Q_uQ_n, E_uO, E_uO_n, I_uO, I_uO_n, R_uO, R_uO_n, E_uN, E_uN_n, L_uN, L_uN_n, A_uN, A_uN_n, J_uN, J_uN_n, Q_uN, Q_uN_n, A_uCA, A_uCA_n, J_uCJ, J_uCJ_n, E_uI, R_uI, L_uI, A_uI, J_uI, Q_uI, E_uR, I_uR, L_uR, A_uR, J_uR, Q_uR, E_uA, I_uA, R_uA, L_uA, J_uA, Q_uA, E_uJ, I_uJ, R_uJ, L_uJ, A_uJ, Q_uJ, E_uQ, I_uQ, R_uQ, L_uQ, A_uQ, J_uQ, L_uO, A_uO, J_uO, Q_uO, I_uN, R_uN, E_uCA, I_uCA, R_uCA, L_uCA, J_uCA, Q_uCA, E_uCJ, I_uCJ, R_uCJ, L_uCJ, A_uCJ, Q_uCJ, m1_s]
      rw [m57]
      by_cases e : r = nR
      · rw [if_pos e, e, m1_s]
      · rw [if_neg e, m1_n e]
    have t258 : ∀ r, tA t2 3358 0 r = if r = nR then x2 else tA t 3358 0 r := fun r => by
      rw [ht2]
      simp (disch := omega) only [I_uI, I_uI_n, R_uR, R_uR_n, A_uA, A_uA_n, J_uJ, J_uJ_n, Q_uQ, Q_uQ_n, E_uO, E_uO_n, I_uO, I_uO_n, R_uO, R_uO_n, E_uN, E_uN_n, L_uN, L_uN_n, A_uN, A_uN_n, J_uN, J_uN_n, Q_uN, Q_uN_n, A_uCA, A_uCA_n, J_uCJ, J_uCJ_n, E_uI, R_uI, L_uI, A_uI, J_uI, Q_uI, E_uR, I_uR, L_uR, A_uR, J_uR, Q_uR, E_uA, I_uA, R_uA, L_uA, J_uA, Q_uA, E_uJ, I_uJ, R_uJ, L_uJ, A_uJ, Q_uJ, E_uQ, I_uQ, R_uQ, L_uQ, A_uQ, J_uQ, L_uO, A_uO, J_uO, Q_uO, I_uN, R_uN, E_uCA, I_uCA, R_uCA, L_uCA, J_uCA, Q_uCA, E_uCJ, I_uCJ, R_uCJ, L_uCJ, A_uCJ, Q_uCJ, m1_s]
      rw [m58]
      by_cases e : r = nR
      · rw [if_pos e, e, m1_s]
      · rw [if_neg e, m1_n e]
    have c211 : tQ t1 3211 0 r = if r = nR then some nR else tQ t 3211 0 r := by
      rw [ht1]
      simp (disch := omega) only [I_uI, I_uI_n, R_uR, R_uR_n, A_uA, A_uA_n, J_uJ, J_uJ_n, Q_uQ, Q_uQ_n, E_uO, E_uO_n, I_uO, I_uO_n, R_uO, R_uO_n, E_uN, E_uN_n, L_uN, L_uN_n, A_uN, A_uN_n, J_uN, J_uN_n, Q_uN, Q_uN_n, A_uCA, A_uCA_n, J_uCJ, J_uCJ_n, E_uI, R_uI, L_uI, A_uI, J_uI, Q_uI, E_uR, I_uR, L_uR, A_uR, J_uR, Q_uR, E_uA, I_uA, R_uA, L_uA, J_uA, Q_uA, E_uJ, I_uJ, R_uJ, L_uJ, A_uJ, Q_uJ, E_uQ, I_uQ, R_uQ, L_uQ, A_uQ, J_uQ, L_uO, A_uO, J_uO, Q_uO, I_uN, R_uN, E_uCA, I_uCA, R_uCA, L_uCA, J_uCA, Q_uCA, E_uCJ, I_uCJ, R_uCJ, L_uCJ, A_uCJ, Q_uCJ, m1_s]
      rw [(b2.1 3211 rfl).2.2.2.2.2.2, show tQ v1 = tQ u by rw [hv1]; rfl, (f1.1 3211 rfl).2.2.2.2.2.2]
      by_cases e : r = nR
      · rw [if_pos e, e, m1_s]
      · rw [if_neg e, m1_n e]
    have c900 : tI t1 900 r = if r = nR then x1 else tI v2 900 r := by
      rw [ht1]
      simp (disch := omega) only [I_uI, I_uI_n, R_uR, R_uR_n, A_uA, A_uA_n, J_uJ, J_uJ_n, Q_uQ, Q_uQ_n, E_uO, E_uO_n, I_uO, I_uO_n, R_uO, R_uO_n, E_uN, E_uN_n, L_uN, L_uN_n, A_uN, A_uN_n, J_uN, J_uN_n, Q_uN, Q_uN_n, A_uCA, A_uCA_n, J_uCJ, J_uCJ_n, E_uI, R_uI, L_uI, A_uI, J_uI, Q_uI, E_uR, I_uR, L_uR, A_uR, J_uR, Q_uR, E_uA, I_uA, R_uA, L_uA, J_uA, Q_uA, E_uJ, I_uJ, R_uJ, L_uJ, A_uJ, Q_uJ, E_uQ, I_uQ, R_uQ, L_uQ, A_uQ, J_uQ, L_uO, A_uO, J_uO, Q_uO, I_uN, R_uN, E_uCA, I_uCA, R_uCA, L_uCA, J_uCA, Q_uCA, E_uCJ, I_uCJ, R_uCJ, L_uCJ, A_uCJ, Q_uCJ, m1_s]
      by_cases e : r = nR
      · rw [if_pos e, e, m1_s]
      · rw [if_neg e, m1_n e]
    have c901 : tI t1 901 r = if r = nR then nt d else tI v2 901 r := by
      rw [ht1]
      simp (disch := omega) only [I_uI, I_uI_n, R_uR, R_uR_n, A_uA, A_uA_n, J_uJ, J_uJ_n, Q_uQ, Q_uQ_n, E_uO, E_uO_n, I_uO, I_uO_n, R_uO, R_uO_n, E_uN, E_uN_n, L_uN, L_uN_n, A_uN, A_uN_n, J_uN, J_uN_n, Q_uN, Q_uN_n, A_uCA, A_uCA_n, J_uCJ, J_uCJ_n, E_uI, R_uI, L_uI, A_uI, J_uI, Q_uI, E_uR, I_uR, L_uR, A_uR, J_uR, Q_uR, E_uA, I_uA, R_uA, L_uA, J_uA, Q_uA, E_uJ, I_uJ, R_uJ, L_uJ, A_uJ, Q_uJ, E_uQ, I_uQ, R_uQ, L_uQ, A_uQ, J_uQ, L_uO, A_uO, J_uO, Q_uO, I_uN, R_uN, E_uCA, I_uCA, R_uCA, L_uCA, J_uCA, Q_uCA, E_uCJ, I_uCJ, R_uCJ, L_uCJ, A_uCJ, Q_uCJ, m1_s]
      by_cases e : r = nR
      · rw [if_pos e, e, m1_s]
      · rw [if_neg e, m1_n e]
    have c902 : tI t1 902 r = if r = nR then x2 else tI v2 902 r := by
      rw [ht1]
      simp (disch := omega) only [I_uI, I_uI_n, R_uR, R_uR_n, A_uA, A_uA_n, J_uJ, J_uJ_n, Q_uQ, Q_uQ_n, E_uO, E_uO_n, I_uO, I_uO_n, R_uO, R_uO_n, E_uN, E_uN_n, L_uN, L_uN_n, A_uN, A_uN_n, J_uN, J_uN_n, Q_uN, Q_uN_n, A_uCA, A_uCA_n, J_uCJ, J_uCJ_n, E_uI, R_uI, L_uI, A_uI, J_uI, Q_uI, E_uR, I_uR, L_uR, A_uR, J_uR, Q_uR, E_uA, I_uA, R_uA, L_uA, J_uA, Q_uA, E_uJ, I_uJ, R_uJ, L_uJ, A_uJ, Q_uJ, E_uQ, I_uQ, R_uQ, L_uQ, A_uQ, J_uQ, L_uO, A_uO, J_uO, Q_uO, I_uN, R_uN, E_uCA, I_uCA, R_uCA, L_uCA, J_uCA, Q_uCA, E_uCJ, I_uCJ, R_uCJ, L_uCJ, A_uCJ, Q_uCJ, m1_s]
      by_cases e : r = nR
      · rw [if_pos e, e, m1_s]
      · rw [if_neg e, m1_n e]
    rw [(k0 3211 rfl rfl).2, (k0 900 rfl rfl).1, (k0 901 rfl rfl).1, (k0 902 rfl rfl).1, t256, t257, t258, c211, c900, c901, c902]
    by_cases e : r = nR
    · simp only [if_pos e]
      exact ⟨by rw [e], trivial, trivial, trivial⟩
    · simp only [if_neg e]
      rw [h9I 900 r (by decide) e, h9I 901 r (by decide) e, h9I 902 r (by decide) e]
      exact r3 r (by omega)
  · -- the rules' texts
    have t2A : ∀ k, ks [1354, 1355, 3356, 3357, 3358] k = false → tA t2 k = tA w k := fun k k1 => (ft3.1 k k1).2.2.2.2.1
    have e2700 : tA t2 2700 = tA v2 2700 := by rw [t2A 2700 rfl, (a2.1 2700 rfl).2.2.2.2.1, t1A]
    have l2700 : tL t2 2700 = tL v2 2700 := by rw [(ft3.1 2700 rfl).2.2.2.1, (a2.1 2700 rfl).2.2.2.1, t1L]
    have r903 : tR t2 903 = tR t1 903 := by rw [(ft3.1 903 rfl).2.2.1, (a2.1 903 rfl).2.2.1]
    have i904 : tI t2 904 = tI t1 904 := by rw [(ft3.1 904 rfl).2.1, (a2.1 904 rfl).2.1]
    have rd : ∀ R ls, rSt w R ls → rSt t2 R ls := fun R ls h => by
      unfold rSt at h ⊢
      rw [t2A 3359 rfl, t2A 3360 rfl, t2A 3361 rfl, t2A 3362 rfl]
      exact h
    by_cases e : r = nR
    · subst e
      refine ⟨T, n, hn, fun i hi => ⟨by rw [e2700]; exact b3 i hi, (hbm i hi).2⟩, by rw [l2700]; exact b4, ?_, p1, rd _ _ z2, ?_⟩
      · rw [r903, ht1]
        simp (disch := omega) only [I_uI, I_uI_n, R_uR, R_uR_n, A_uA, A_uA_n, J_uJ, J_uJ_n, Q_uQ, Q_uQ_n, E_uO, E_uO_n, I_uO, I_uO_n, R_uO, R_uO_n, E_uN, E_uN_n, L_uN, L_uN_n, A_uN, A_uN_n, J_uN, J_uN_n, Q_uN, Q_uN_n, A_uCA, A_uCA_n, J_uCJ, J_uCJ_n, E_uI, R_uI, L_uI, A_uI, J_uI, Q_uI, E_uR, I_uR, L_uR, A_uR, J_uR, Q_uR, E_uA, I_uA, R_uA, L_uA, J_uA, Q_uA, E_uJ, I_uJ, R_uJ, L_uJ, A_uJ, Q_uJ, E_uQ, I_uQ, R_uQ, L_uQ, A_uQ, J_uQ, L_uO, A_uO, J_uO, Q_uO, I_uN, R_uN, E_uCA, I_uCA, R_uCA, L_uCA, J_uCA, Q_uCA, E_uCJ, I_uCJ, R_uCJ, L_uCJ, A_uCJ, Q_uCJ, m1_s]
      · rw [i904, ht1, ← hM]
        simp (disch := omega) only [I_uI, I_uI_n, R_uR, R_uR_n, A_uA, A_uA_n, J_uJ, J_uJ_n, Q_uQ, Q_uQ_n, E_uO, E_uO_n, I_uO, I_uO_n, R_uO, R_uO_n, E_uN, E_uN_n, L_uN, L_uN_n, A_uN, A_uN_n, J_uN, J_uN_n, Q_uN, Q_uN_n, A_uCA, A_uCA_n, J_uCJ, J_uCJ_n, E_uI, R_uI, L_uI, A_uI, J_uI, Q_uI, E_uR, I_uR, L_uR, A_uR, J_uR, Q_uR, E_uA, I_uA, R_uA, L_uA, J_uA, Q_uA, E_uJ, I_uJ, R_uJ, L_uJ, A_uJ, Q_uJ, E_uQ, I_uQ, R_uQ, L_uQ, A_uQ, J_uQ, L_uO, A_uO, J_uO, Q_uO, I_uN, R_uN, E_uCA, I_uCA, R_uCA, L_uCA, J_uCA, Q_uCA, E_uCJ, I_uCJ, R_uCJ, L_uCJ, A_uCJ, Q_uCJ, m1_s]
    · have hrl : r < nR := by omega
      refine Irule1_k ?_ ?_ ?_ ?_ ?_ (fun i hi => ?_) (fun i hi => ?_) rule_bd (hU.1 r hrl)
      · rw [e2700, (b5 (r + 1) (by omega)).1, v1A, (f1.1 2700 rfl).2.2.2.2.1]
      · rw [l2700, (b5 (r + 1) (by omega)).2.1, v1L, (f1.1 2700 rfl).2.2.2.1]
      · rw [r903, ht1]
        simp (disch := omega) only [I_uI, I_uI_n, R_uR, R_uR_n, A_uA, A_uA_n, J_uJ, J_uJ_n, Q_uQ, Q_uQ_n, E_uO, E_uO_n, I_uO, I_uO_n, R_uO, R_uO_n, E_uN, E_uN_n, L_uN, L_uN_n, A_uN, A_uN_n, J_uN, J_uN_n, Q_uN, Q_uN_n, A_uCA, A_uCA_n, J_uCJ, J_uCJ_n, E_uI, R_uI, L_uI, A_uI, J_uI, Q_uI, E_uR, I_uR, L_uR, A_uR, J_uR, Q_uR, E_uA, I_uA, R_uA, L_uA, J_uA, Q_uA, E_uJ, I_uJ, R_uJ, L_uJ, A_uJ, Q_uJ, E_uQ, I_uQ, R_uQ, L_uQ, A_uQ, J_uQ, L_uO, A_uO, J_uO, Q_uO, I_uN, R_uN, E_uCA, I_uCA, R_uCA, L_uCA, J_uCA, Q_uCA, E_uCJ, I_uCJ, R_uCJ, L_uCJ, A_uCJ, Q_uCJ, m1_s]
        rw [m1_n e, (b2.1 903 rfl).2.2.1, v1R r e, (f1.1 903 rfl).2.2.1]
      · rw [i904, ht1]
        simp (disch := omega) only [I_uI, I_uI_n, R_uR, R_uR_n, A_uA, A_uA_n, J_uJ, J_uJ_n, Q_uQ, Q_uQ_n, E_uO, E_uO_n, I_uO, I_uO_n, R_uO, R_uO_n, E_uN, E_uN_n, L_uN, L_uN_n, A_uN, A_uN_n, J_uN, J_uN_n, Q_uN, Q_uN_n, A_uCA, A_uCA_n, J_uCJ, J_uCJ_n, E_uI, R_uI, L_uI, A_uI, J_uI, Q_uI, E_uR, I_uR, L_uR, A_uR, J_uR, Q_uR, E_uA, I_uA, R_uA, L_uA, J_uA, Q_uA, E_uJ, I_uJ, R_uJ, L_uJ, A_uJ, Q_uJ, E_uQ, I_uQ, R_uQ, L_uQ, A_uQ, J_uQ, L_uO, A_uO, J_uO, Q_uO, I_uN, R_uN, E_uCA, I_uCA, R_uCA, L_uCA, J_uCA, Q_uCA, E_uCJ, I_uCJ, R_uCJ, L_uCJ, A_uCJ, Q_uCJ, m1_s]
        rw [m1_n e, h9I 904 r (by decide) e]
      · rw [t2A 3359 rfl, a3.1 r hrl, gA 3359 rfl rfl]
      · rw [t2A 3360 rfl, a3.2.1 _ (by omega), gA 3360 rfl rfl]
      · rw [t2A 3361 rfl, t2A 3362 rfl, (a3.2.2 _ (by omega)).1, (a3.2.2 _ (by omega)).2, gA 3361 rfl rfl, gA 3362 rfl rfl]
        exact ⟨rfl, rfl⟩
  · rw [(ft3.1 9 rfl).1, (ft3.1 2700 rfl).1, (a2.1 9 rfl).1, (a2.1 2700 rfl).1, t1E, (b2.1 9 rfl).1, (b5 (r + 1) (by omega)).2.2, v1E 2700 (by decide), hv1, E_uO, m1_n (by omega), (f1.1 9 rfl).1, (f1.1 2700 rfl).1]
    exact hU.2 r (by omega)
  · rw [(ft3.1 701 rfl).2.1, (a2.1 701 rfl).2.1, ht1]
    simp (disch := omega) only [I_uI, I_uI_n, R_uR, R_uR_n, A_uA, A_uA_n, J_uJ, J_uJ_n, Q_uQ, Q_uQ_n, E_uO, E_uO_n, I_uO, I_uO_n, R_uO, R_uO_n, E_uN, E_uN_n, L_uN, L_uN_n, A_uN, A_uN_n, J_uN, J_uN_n, Q_uN, Q_uN_n, A_uCA, A_uCA_n, J_uCJ, J_uCJ_n, E_uI, R_uI, L_uI, A_uI, J_uI, Q_uI, E_uR, I_uR, L_uR, A_uR, J_uR, Q_uR, E_uA, I_uA, R_uA, L_uA, J_uA, Q_uA, E_uJ, I_uJ, R_uJ, L_uJ, A_uJ, Q_uJ, E_uQ, I_uQ, R_uQ, L_uQ, A_uQ, J_uQ, L_uO, A_uO, J_uO, Q_uO, I_uN, R_uN, E_uCA, I_uCA, R_uCA, L_uCA, J_uCA, Q_uCA, E_uCJ, I_uCJ, R_uCJ, L_uCJ, A_uCJ, Q_uCJ, m1_s]
    rfl
  · rw [ht2]
    simp (disch := omega) only [I_uI, I_uI_n, R_uR, R_uR_n, A_uA, A_uA_n, J_uJ, J_uJ_n, Q_uQ, Q_uQ_n, E_uO, E_uO_n, I_uO, I_uO_n, R_uO, R_uO_n, E_uN, E_uN_n, L_uN, L_uN_n, A_uN, A_uN_n, J_uN, J_uN_n, Q_uN, Q_uN_n, A_uCA, A_uCA_n, J_uCJ, J_uCJ_n, E_uI, R_uI, L_uI, A_uI, J_uI, Q_uI, E_uR, I_uR, L_uR, A_uR, J_uR, Q_uR, E_uA, I_uA, R_uA, L_uA, J_uA, Q_uA, E_uJ, I_uJ, R_uJ, L_uJ, A_uJ, Q_uJ, E_uQ, I_uQ, R_uQ, L_uQ, A_uQ, J_uQ, L_uO, A_uO, J_uO, Q_uO, I_uN, R_uN, E_uCA, I_uCA, R_uCA, L_uCA, J_uCA, Q_uCA, E_uCJ, I_uCJ, R_uCJ, L_uCJ, A_uCJ, Q_uCJ, m1_s]
    rfl
end
