/-! PART g7: the invariant at the start; the law. -/
theorem mem2_all {P : Nat × Nat → Bool} {x y : Nat} : ∀ {l : List (Nat × Nat)}, l.all P = true → mem2 l x y = true → P (x, y) = true
  | [], _, h => by cases h
  | p :: l, h1, h2 => by
    have h3 : P p = true ∧ l.all P = true := Bool.and_eq_true_iff.mp h1
    rw [show p :: l = (p.1, p.2) :: l from rfl, mem2_c] at h2
    by_cases e1 : x = p.1
    · by_cases e2 : y = p.2
      · rw [e1, e2]; exact h3.1
      · rw [if_pos e1, if_neg e2] at h2; exact mem2_all h3.2 h2
    · rw [if_neg e1] at h2; exact mem2_all h3.2 h2
theorem mem2_no {x y : Nat} {l : List (Nat × Nat)} (h : l.all (fun p => !Nat.beq p.1 x) = true) : mem2 l x y = false := by
  cases e : mem2 l x y with
  | false => rfl
  | true =>
    have := mem2_all h e
    simp only [Nat.beq_refl, Bool.not_true] at this
    cases this
theorem mem2_n1 {x r : Nat} {l : List (Nat × Nat)} (h : l.all (fun p => !Nat.beq p.1 x || Nat.beq p.2 0) = true) : mem2 l x (r + 1) = false := by
  cases e : mem2 l x (r + 1) with
  | false => rfl
  | true =>
    have := mem2_all h e
    have h0 : Nat.beq (r + 1) 0 = false := rfl
    simp only [Nat.beq_refl, Bool.not_true, h0, Bool.or_false] at this
    cases this
def tFx (t : TS) : TS := (tE t, tI t, (fun f i => if mm_fx f = true then some i else tR t f i), tL t, tA t, tJ t, tQ t)
theorem RV_fx {z : Rm} {ad : Nat → Nat → Nat} {t : TS} {hs : Nat} {h : Hp} (hR : RV (z, fun _ => False, hp_0, fun _ => false) ad t hs h) (hfx : ∀ f i, mm_fx f = true → tE t (f / 100) i = true → tR t f i = some i) : RV (lw_W z) ad (tFx t) hs h := by
  obtain ⟨r1, r2, r3, r4, r5, r6, r7⟩ := hR
  refine ⟨r1, r2, fun f i hf hE => ?_, r4, r5, r6, fun f i hx => if_pos hx⟩
  obtain ⟨a1, a2, a3⟩ := r3 f i hf hE
  have e : tR (tFx t) f i = tR t f i := by
    show (if mm_fx f = true then some i else tR t f i) = _
    by_cases g : mm_fx f = true
    · rw [if_pos g, hfx f i g hE]
    · rw [if_neg g]
  rw [e]
  exact ⟨a1, a2, a3⟩
def t_c2 : TS := mkT e_c2 i_c2 r_c2 l_c2 a_c2 q_c2
theorem fx_lt {f : Nat} (h : mm_fx f = true) : f < 1400 := by
  unfold mm_fx at h
  rw [List.contains_iff_mem] at h
  simp only [List.mem_cons, List.not_mem_nil, or_false] at h
  omega
set_option maxRecDepth 8000 in
theorem fx_chk : (List.range 1400).all (fun f => !mm_fx f || e_c2.all (fun p => !Nat.beq (f / 100) p.1 || (lk3 r_c2 none f p.2 == some p.2))) = true := by decide +kernel
theorem fx_ok : ∀ f i, mm_fx f = true → tE t_c2 (f / 100) i = true → tR t_c2 f i = some i := fun f i hf hE => by
  have h1 := List.all_eq_true.mp fx_chk f (List.mem_range.mpr (fx_lt hf))
  rw [hf, Bool.not_true, Bool.false_or] at h1
  have h2 := mem2_all (x := f / 100) (y := i) h1 hE
  rw [Nat.beq_refl, Bool.not_true, Bool.false_or] at h2
  exact eq_of_beq h2
set_option maxRecDepth 8000 in
theorem ln_chk : (List.range 3400).all (fun k => !Nat.blt 0 (ln k) || Nat.beq (lk3 l_c2 0 k 0) (ln k)) = true := by decide +kernel
theorem ln_big {k : Nat} (h : 3400 ≤ k) : ln k = 0 := by
  unfold ln
  split <;> first | rfl | omega
def t_0 : TS := tFx t_c2
theorem t0_E {k i : Nat} (h : e_c2.all (fun p => !Nat.beq p.1 k) = true) : tE t_0 k i = false := mem2_no h
theorem t0_A {k j : Nat} (h : noK a_c2 k = true) : tA t_0 k 0 j = 0 := by
  show lk3 a_c2 0 k j = 0
  exact lk3_noK h
theorem t0_I {f i : Nat} (h : noK i_c2 f = true) : tI t_0 f i = 0 := lk3_noK h
theorem Ilen_0 : Ilen t_0 := fun k hk => by
  by_cases g : k < 3400
  · have h1 := List.all_eq_true.mp ln_chk k (List.mem_range.mpr g)
    rw [hk, Bool.not_true, Bool.false_or] at h1
    exact nbq.mp h1
  · rw [ln_big (by omega)] at hk
    cases hk
theorem Itime_0 : Itime t_0 := ⟨0, 0, by omega, by omega, rfl, rfl, rfl, rfl⟩
theorem Ileag_0 : Ileag t_0 := fun l hl => by
  rcases (show l = 0 ∨ l = 1 ∨ l = 2 ∨ l = 3 by omega) with rfl | rfl | rfl | rfl
  all_goals exact ⟨rfl, rfl, rfl, rfl, 0, by omega, rfl, rfl, fun k hk => absurd hk (Nat.not_lt_zero k)⟩
theorem Iterm_0 : Iterm t_0 := fun i hi => by
  rcases (show i = 0 ∨ i = 1 ∨ i = 2 ∨ i = 3 ∨ i = 4 ∨ i = 5 ∨ i = 6 ∨ i = 7 ∨ i = 8 by omega) with rfl | rfl | rfl | rfl | rfl | rfl | rfl | rfl | rfl
  all_goals exact ⟨rfl, by decide, by decide⟩
theorem Ibody_0 : Ibody 0 t_0 := ⟨by omega, rfl, rfl, fun i hi => absurd hi (Nat.not_lt_zero i), fun i _ => ⟨t0_E rfl, t0_A rfl, t0_A rfl, t0_A rfl⟩⟩
theorem Icoin_0 : Icoin 0 t_0 := ⟨fun i hi => absurd hi (Nat.not_lt_zero i), fun i _ => t0_A rfl⟩
theorem Iinc_0 : Iinc 0 t_0 := ⟨fun i hi => absurd hi (Nat.not_lt_zero i), fun i _ => ⟨t0_E rfl, fun y _ => t0_A rfl⟩⟩
theorem Imat_0 : Imat 0 t_0 := ⟨fun i hi => absurd hi (Nat.not_lt_zero i), fun i _ => ⟨t0_E rfl, fun y _ => t0_A rfl⟩⟩
theorem Ilack_0 : Ilack 0 t_0 := ⟨fun i hi => absurd hi (Nat.not_lt_zero i), fun i _ => t0_A rfl⟩
theorem Ispan_0 : Ispan 0 0 0 t_0 := ⟨by omega, rfl, rfl, fun i hi => absurd hi (Nat.not_lt_zero i), fun i _ => t0_E rfl, fun i hi => absurd hi (Nat.not_lt_zero i)⟩
theorem Imove_0 : Imove 0 0 0 t_0 := ⟨by omega, rfl, rfl, fun i hi => absurd hi (Nat.not_lt_zero i), fun i _ => ⟨t0_E rfl, t0_E rfl, t0_A rfl, t0_A rfl, t0_A rfl, t0_A rfl, t0_A rfl, t0_A rfl, t0_A rfl, t0_A rfl, fun c _ => t0_A rfl⟩⟩
theorem Ibuy_0 : Ibuy t_0 := ⟨0, by omega, rfl, rfl, fun i hi => absurd hi (Nat.not_lt_zero i)⟩
theorem Iclm_0 : Iclm t_0 := ⟨⟨0, by omega, rfl, rfl, fun i hi => absurd hi (Nat.not_lt_zero i)⟩, 0, by omega, rfl, Or.inr ⟨rfl, rfl⟩, fun i hi => absurd hi (Nat.not_lt_zero i)⟩
theorem Iring_0 : Iring t_0 := ⟨⟨0, by omega, rfl, rfl, fun i hi => absurd hi (Nat.not_lt_zero i)⟩, 0, by omega, Or.inr ⟨rfl, rfl⟩, rfl, fun i hi => absurd hi (Nat.not_lt_zero i)⟩
theorem Iact_0 : Iact t_0 := ⟨0, by omega, rfl, rfl, fun i hi => absurd hi (Nat.not_lt_zero i)⟩
theorem Itape_0 : Itape t_0 := ⟨0, by omega, rfl, rfl, fun i hi => absurd hi (Nat.not_lt_zero i)⟩
theorem Ibyt_0 : Ibyt t_0 := fun i _ => ⟨0, by omega, (t0_A rfl).trans rfl⟩
theorem Ishelf_0 : Ishelf 0 t_0 := fun s hs => by
  rcases (show s = 0 ∨ s = 1 ∨ s = 2 ∨ s = 3 ∨ s = 4 ∨ s = 5 by omega) with rfl | rfl | rfl | rfl | rfl | rfl
  all_goals exact ⟨rfl, rfl, Or.inl ⟨rfl, rfl, rfl⟩⟩
theorem Ideal_0 : Ideal 0 t_0 := ⟨0, by omega, rfl, rfl, fun i hi => absurd hi (Nat.not_lt_zero i)⟩
theorem Irh_0 : Irh 0 t_0 := ⟨by omega, rfl, rfl, fun i hi => absurd hi (Nat.not_lt_zero i)⟩
set_option maxRecDepth 8000 in
theorem Irule_0 : Irule 0 t_0 := ⟨fun i hi => absurd hi (Nat.not_lt_zero i), fun r _ => ⟨t0_E rfl, mem2_n1 rfl⟩⟩
theorem Inv_0 : Inv t_0 := ⟨0, 0, 0, 0, Ilen_0, Itime_0, Ileag_0, Iterm_0, ⟨Ibody_0, Icoin_0, Iinc_0, Imat_0, Ilack_0, Ispan_0, Imove_0⟩, fun i hi => absurd hi (Nat.not_lt_zero i), Ibuy_0, Iclm_0, Iring_0, Iact_0, Itape_0, Ibyt_0, Ishelf_0, Ideal_0, Irh_0, Irule_0⟩
theorem lw_ini {W : NW} {ad : Nat → Nat → Nat} {t t1 : TS} {hs d x c bc bs : Nat} {h : Hp} (hR : RV W ad t hs h) (hE : tE t c 0 = true) (hn : nC W d x [eR (some (c, 0))] t bc bs (fun r u => r = none ∧ u = t1)) : mm_C W.1 mm_mL mm_P d x [vR (some (ad c 0))] hs h bc bs (fun r hs' h' => r = none ∧ ∃ ad', RV W ad' t1 hs' h' ∧ aext ad (tE t) ad' t1) := by
  refine mm_C_mono d _ _ _ _ _ _ _ _ (fun r hs' h' g => ?_) (hn ad hs h hR (okS_cons (Or.inl hE) (fun v hv => by cases hv)))
  obtain ⟨ad', t', r', g1, g2, g3, g4, g5, g6⟩ := g
  subst g6
  subst g5
  exact ⟨g4, ad', g1, g2⟩
theorem mm_law : mm_Law := by
  intro z B b L xs hL hz
  obtain ⟨⟨f, hf, -⟩, hst, -⟩ := hz
  refine ⟨1300, by omega, ?_⟩
  have hC := mm_C_mono (z := z) (mL := mm_mL) (P := mm_P) 1300
  obtain ⟨W0, hW0⟩ : ∃ W0 : NW, W0 = (z, fun _ => False, hp_0, fun _ => false) := ⟨_, rfl⟩
  have hWx : W0.2.2.2 = fun _ => false := by rw [hW0]
  have hWz : W0.1 = z := by rw [hW0]
  have hR0 : RV W0 (fun k _ => if 5000 ≤ k then z.2 (k - 5000) else 0) (mkT [] [] [] [] [] []) B hp_0 := by
    rw [hW0]
    refine ⟨fun k i h => (by cases h), fun k i k' i' h => (by cases h), fun f i _ h => (by cases h), fun k i _ h => (by cases h), fun a h => False.elim h, ⟨fun s => ?_, hst⟩, fun f i h => (by cases h)⟩
    show (if 5000 ≤ 5000 + s then z.2 (5000 + s - 5000) else 0) = z.2 s
    rw [if_pos (by omega), show 5000 + s - 5000 = s by omega]
  -- the class's object
  refine rx_new (ci := 12) (n := 20) hC (show tL_law 0 = some (.new 7, 3, 12, 20, 0) from rfl) rfl (by omega) (by omega) ?_
  have hR1 := RV_newO (c := 12) (i := 0) hR0 (by omega) rfl (fun _ _ => by rw [hWx])
  rw [uO_mk rfl rfl] at hR1
  refine rx_dup hC (show tL_law 3 = some (.dup, 1, 0, 0, 0) from rfl) rfl (show ¬ (2 : Nat) = 1 by decide) ?_
  have k1 := lw_ini (c := 12) hR1 rfl (TF_X12_init (d := 1298) (bc := 0) (bs := 0) hWx ⟨_, x12_fin, rfl, rfl⟩)
  rw [adn_at, hWz] at k1
  have hk1 : hp_K (hp_newO hp_0 12 B) B = 13 := if_pos rfl
  refine rx_callV (as := []) (st' := [vR (some B)]) (a := B) (kd := 13) (c1 := 69) (s1 := 1838) hC (show tL_law 4 = some (.invokespecial 9, 3, 63, 1, 12) from rfl) rfl (by show 1 ≤ 2; omega) rfl rfl (Or.inl (by show 1 ≤ 4; omega)) rfl hk1 (by omega) (by omega) ?_
  refine mm_C_mono 1300 _ _ _ _ _ _ _ _ (fun r hs1 h1 g => ?_) k1
  obtain ⟨g1, ad1, hR2, ha1⟩ := g
  rw [g1]
  have hB1 : ad1 12 0 = B := (ha1 12 0 rfl).1.trans adn_at
  refine rx_st (v := vR (some B)) (i := 1) (kd := 2) (n := 1) (ls' := [some (vR (some b)), some (vR (some B)), none, none]) hC (show tL_law 7 = some (.astore_n 1, 1, 0, 0, 0) from rfl) rfl rfl (by show 1 < 4; omega) rfl ?_
  -- the model's object
  refine rx_new (ci := 13) (n := 97) hC (show tL_law 8 = some (.new 10, 3, 13, 97, 0) from rfl) rfl (by omega) (by omega) ?_
  have hR3 := RV_newO (c := 13) (i := 0) hR2 (by omega) rfl (fun _ _ => by rw [hWx])
  rw [uO_mk rfl rfl] at hR3
  refine rx_dup hC (show tL_law 11 = some (.dup, 1, 0, 0, 0) from rfl) rfl (show ¬ (2 : Nat) = 1 by decide) ?_
  have k2 := lw_ini (c := 13) hR3 rfl (TF_X13_init (d := 1299) (bc := 0) (bs := 0) hWx ⟨_, x13_fin, rfl, rfl⟩)
  rw [adn_at, hWz] at k2
  have hk2 : hp_K (hp_newO h1 13 hs1) hs1 = 14 := if_pos rfl
  refine rx_callV (as := []) (st' := [vR (some hs1)]) (a := hs1) (kd := 14) (c1 := 73) (s1 := 73812) hC (show tL_law 12 = some (.invokespecial 12, 3, 154, 1, 13) from rfl) rfl (by show 1 ≤ 2; omega) rfl rfl (Or.inl (by show 1 ≤ 4; omega)) rfl hk2 (by omega) (by omega) ?_
  refine mm_C_mono 1300 _ _ _ _ _ _ _ _ (fun r hs2 h2 g => ?_) k2
  obtain ⟨g2, ad2, hR4, ha2⟩ := g
  rw [g2]
  have hM2 : ad2 13 0 = hs1 := (ha2 13 0 rfl).1.trans adn_at
  have hB2 : ad2 12 0 = B := by
    rw [(ha2 12 0 rfl).1, adn_ne (fun q => absurd q.1 (by decide))]
    exact hB1
  refine rx_st (v := vR (some hs1)) (i := 2) (kd := 2) (n := 1) (ls' := [some (vR (some b)), some (vR (some B)), some (vR (some hs1)), none]) hC (show tL_law 15 = some (.astore_n 2, 1, 0, 0, 0) from rfl) rfl rfl (by show 2 < 4; omega) rfl ?_
  refine rx_push (v := vI (nt 0)) (n := 1) hC (show tL_law 16 = some (.iconst 0, 1, 0, 0, 0) from rfl) rfl ?_
  refine rx_st (v := vI (nt 0)) (i := 3) (kd := 0) (n := 1) (ls' := lw_ls b B hs1 (nt 0)) hC (show tL_law 17 = some (.istore_n 3, 1, 0, 0, 0) from rfl) rfl rfl (by show 3 < 4; omega) rfl ?_
  rw [hW0] at hR4
  have hRf := RV_fx hR4 fx_ok
  exact lw_loop hf hL (fun _ _ => rfl) 512 0 t_0 hs2 h2 _ _ (by omega) (by omega) (by omega) (by omega) Inv_0 ⟨ad2, hRf, hB2, hM2, rfl, rfl⟩
