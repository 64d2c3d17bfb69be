/-! PART e4: a move that comes. -/
/-- two states read a move alike -/
def agm (u T : TS) (m : Nat) : Prop := tQ T 3206 0 m = tQ u 3206 0 m ∧ tE T 6 m = tE u 6 m ∧ tE T 2614 m = tE u 2614 m ∧ tL T 2614 m = tL u 2614 m ∧ tA T 2614 m = tA u 2614 m ∧ tI T 600 m = tI u 600 m ∧ tI T 604 m = tI u 604 m ∧ tI T 605 m = tI u 605 m ∧ tI T 606 m = tI u 606 m ∧ tI T 608 m = tI u 608 m ∧ tI T 609 m = tI u 609 m ∧ tI T 610 m = tI u 610 m ∧ tI T 611 m = tI u 611 m ∧ tI T 613 m = tI u 613 m ∧ tI T 615 m = tI u 615 m ∧ tI T 616 m = tI u 616 m ∧ tI T 617 m = tI u 617 m ∧ tI T 618 m = tI u 618 m ∧ tI T 619 m = tI u 619 m ∧ tR T 601 m = tR u 601 m ∧ tR T 602 m = tR u 602 m ∧ tR T 603 m = tR u 603 m ∧ tR T 607 m = tR u 607 m ∧ tR T 612 m = tR u 612 m ∧ tR T 614 m = tR u 614 m ∧ tA T 3328 0 m = tA u 3328 0 m ∧ tA T 3329 0 m = tA u 3329 0 m ∧ tA T 3330 0 m = tA u 3330 0 m ∧ tA T 3331 0 m = tA u 3331 0 m ∧ tA T 3332 0 m = tA u 3332 0 m ∧ tA T 3333 0 m = tA u 3333 0 m ∧ tA T 3334 0 m = tA u 3334 0 m ∧ tA T 3335 0 m = tA u 3335 0 m ∧ tA T 3336 0 m = tA u 3336 0 m ∧ tA T 3337 0 m = tA u 3337 0 m ∧ tA T 3338 0 m = tA u 3338 0 m ∧ tA T 3339 0 m = tA u 3339 0 m ∧ tA T 3340 0 m = tA u 3340 0 m ∧ tA T 3341 0 m = tA u 3341 0 m ∧ tA T 3342 0 m = tA u 3342 0 m ∧ tA T 3343 0 m = tA u 3343 0 m ∧ tA T 3344 0 m = tA u 3344 0 m ∧ tA T 3345 0 m = tA u 3345 0 m ∧ tA T 3346 0 m = tA u 3346 0 m ∧ (∀ c, c < 150 → tA T 3347 0 (150 * m + c) = tA u 3347 0 (150 * m + c))
theorem Imove_up {u T : TS} {nB nS nM : Nat} (h150 : nB ≤ 150) (hM : Imove nB nS nM u) (h200 : nM < 200) (hag : ∀ m, ¬ m = nM → agm u T m) (h19 : ∀ s, s < nS → tA T 3319 0 s = tA u 3319 0 s) (h08 : tA T 3308 = tA u 3308) (r1 : tI T 1207 0 = nt (nM + 1)) (r2 : tI T 1327 0 = nt (nM + 1)) (hnew : Imove1 nB (nS + 1) nM T) : Imove nB (nS + 1) (nM + 1) T := by
  obtain ⟨s1, s2, s3, s4, s5⟩ := hM
  refine ⟨by omega, r1, r2, fun m hm => ?_, fun m hm => ?_⟩
  · by_cases e : m = nM
    · rw [e]; exact hnew
    obtain ⟨aQ3206, aE6, aE2614, aL2614, aA2614, aI600, aI604, aI605, aI606, aI608, aI609, aI610, aI611, aI613, aI615, aI616, aI617, aI618, aI619, aR601, aR602, aR603, aR607, aR612, aR614, aA3328, aA3329, aA3330, aA3331, aA3332, aA3333, aA3334, aA3335, aA3336, aA3337, aA3338, aA3339, aA3340, aA3341, aA3342, aA3343, aA3344, aA3345, aA3346, aA3347⟩ := hag m e
    obtain ⟨c1, c2, c3, c4, c5, c6, c7, c8, c9, ⟨s, dd, d1, d2, d3, d4, d5, d6⟩, c11, c12, c13, c14, c15, c16, c17, c18, c19⟩ := s4 m (by omega)
    unfold Imove1
    rw [aQ3206, aE6, aI600, h08, aR601, aA3328, aR602, aA3329, aR603, aA3330, aI604, aA3331, aI605, aA3333, aI606, aA3339, aR607, aA3340, aA3332, aI608, aA3334, aI609, aA3335, aI610, aA3336, aI611, aA3341, aR612, aA3342, aI613, aA3343, aI615, aA3344, aI616, aA3337, aI617, aA3338, aI618, aA3346, aI619, aA3345]
    refine ⟨c1, c2, c3, c4, c5, c6, c7, c8, c9, ⟨s, dd, by omega, d2, d3, d4, by rw [h19 s d1]; exact d5, d6⟩, c11, c12, c13, c14, c15, c16, ?_, fun c hc => by rw [aA3347 c hc]; exact c18 c hc, c19⟩
    unfold Ishare at c17 ⊢
    rw [aR614, aL2614, aA2614]
    rcases c17 with ⟨q1, q2⟩ | ⟨q1, q2, q3, q4⟩
    · exact Or.inl ⟨q1, fun c hc => by rw [aA3347 c hc]; exact q2 c hc⟩
    · exact Or.inr ⟨q1, q2, fun c hc => by rw [aA3347 c (by omega)]; exact q3 c hc, fun c h1 hc => by rw [aA3347 c hc]; exact q4 c h1 hc⟩
  · obtain ⟨aQ3206, aE6, aE2614, aL2614, aA2614, aI600, aI604, aI605, aI606, aI608, aI609, aI610, aI611, aI613, aI615, aI616, aI617, aI618, aI619, aR601, aR602, aR603, aR607, aR612, aR614, aA3328, aA3329, aA3330, aA3331, aA3332, aA3333, aA3334, aA3335, aA3336, aA3337, aA3338, aA3339, aA3340, aA3341, aA3342, aA3343, aA3344, aA3345, aA3346, aA3347⟩ := hag m (by omega)
    rw [aE6, aE2614, aA3336, aA3337, aA3339, aA3341, aA3343, aA3344, aA3345, aA3346]
    obtain ⟨z1, z2, z3, z4, z5, z6, z7, z8, z9, z10, z11⟩ := s5 m (by omega)
    exact ⟨z1, z2, z3, z4, z5, z6, z7, z8, z9, z10, fun c hc => by rw [aA3347 c hc]; exact z11 c hc⟩
/-- what a new move touches: the class's side, both -/
def kLn : Nat → Bool := k2 scr (k2 (ko 6) (k2 (ko 11) (ks [2614, 1205, 109, 110, 111, 103, 1207, 3206])))
def kMk : Nat → Bool := k2 scr (k2 (ko 6) (k2 (ko 11) (ks [2614, 1205, 109, 110, 111, 103, 1207, 3206, 1316, 3317, 3318, 3319, 3320, 3321, 3322, 3323, 3324, 3310, 1327, 3328, 3329, 3330, 3331, 3332, 3333, 3334, 3335, 3336, 3337, 3338, 3339, 3340, 3341, 3342, 3343, 3344, 3345, 3346, 3347])))
theorem kLn_ask : ∀ k, k ∈ kAsk → kLn k = false := by decide
theorem kLn_scr : ∀ k, kLn k = false → scr k = false := k2_l
theorem kMk_scr : ∀ k, kMk k = false → scr k = false := k2_l
theorem kMk_kLn : ∀ k, kMk k = false → kLn k = false := fun k hk => by
  unfold kMk kLn k2 at *
  simp only [Bool.or_eq_false_iff] at hk ⊢
  exact ⟨hk.1, hk.2.1, hk.2.2.1, ks_sb rfl k hk.2.2.2⟩
theorem kMk_kSp : ∀ k, kMk k = false → kSp k = false := fun k hk => by
  unfold kMk kSp k2 at *
  simp only [Bool.or_eq_false_iff] at hk ⊢
  exact ⟨hk.2.2.1, ks_sb rfl k hk.2.2.2⟩
theorem kLn_kCs : ∀ k, kLn k = false → kCs k = false := fun k hk => by
  unfold kLn kCs k2 at *
  simp only [Bool.or_eq_false_iff] at hk ⊢
  exact ⟨hk.2.2.1, ks_sb rfl k hk.2.2.2⟩
theorem kMk_ko6 : ∀ k, kMk k = false → ko 6 k = false := fun k hk => by
  unfold kMk k2 at hk
  simp only [Bool.or_eq_false_iff] at hk
  exact hk.2.1
theorem kLn_ko6 : ∀ k, kLn k = false → ko 6 k = false := fun k hk => by
  unfold kLn k2 at hk
  simp only [Bool.or_eq_false_iff] at hk
  exact hk.2.1
def kAgm : List Nat := [3206, 6, 2614, 3347, 600, 604, 605, 606, 608, 609, 610, 611, 613, 615, 616, 617, 618, 619, 601, 602, 603, 607, 612, 614, 3328, 3329, 3330, 3331, 3332, 3333, 3334, 3335, 3336, 3337, 3338, 3339, 3340, 3341, 3342, 3343, 3344, 3345, 3346]
theorem agm_f {D : Nat → Bool} {u T : TS} {m : Nat} (h : frm D u T) (hd : ∀ k, k ∈ kAgm → D k = false) : agm u T m := by
  unfold agm
  simp only [(h.1 3206 (hd 3206 (by decide))).2.2.2.2.2.2, (h.1 6 (hd 6 (by decide))).1, (h.1 2614 (hd 2614 (by decide))).1, (h.1 2614 (hd 2614 (by decide))).2.2.2.1, (h.1 2614 (hd 2614 (by decide))).2.2.2.2.1, (h.1 600 (hd 600 (by decide))).2.1, (h.1 604 (hd 604 (by decide))).2.1, (h.1 605 (hd 605 (by decide))).2.1, (h.1 606 (hd 606 (by decide))).2.1, (h.1 608 (hd 608 (by decide))).2.1, (h.1 609 (hd 609 (by decide))).2.1, (h.1 610 (hd 610 (by decide))).2.1, (h.1 611 (hd 611 (by decide))).2.1, (h.1 613 (hd 613 (by decide))).2.1, (h.1 615 (hd 615 (by decide))).2.1, (h.1 616 (hd 616 (by decide))).2.1, (h.1 617 (hd 617 (by decide))).2.1, (h.1 618 (hd 618 (by decide))).2.1, (h.1 619 (hd 619 (by decide))).2.1, (h.1 601 (hd 601 (by decide))).2.2.1, (h.1 602 (hd 602 (by decide))).2.2.1, (h.1 603 (hd 603 (by decide))).2.2.1, (h.1 607 (hd 607 (by decide))).2.2.1, (h.1 612 (hd 612 (by decide))).2.2.1, (h.1 614 (hd 614 (by decide))).2.2.1, (h.1 3328 (hd 3328 (by decide))).2.2.2.2.1, (h.1 3329 (hd 3329 (by decide))).2.2.2.2.1, (h.1 3330 (hd 3330 (by decide))).2.2.2.2.1, (h.1 3331 (hd 3331 (by decide))).2.2.2.2.1, (h.1 3332 (hd 3332 (by decide))).2.2.2.2.1, (h.1 3333 (hd 3333 (by decide))).2.2.2.2.1, (h.1 3334 (hd 3334 (by decide))).2.2.2.2.1, (h.1 3335 (hd 3335 (by decide))).2.2.2.2.1, (h.1 3336 (hd 3336 (by decide))).2.2.2.2.1, (h.1 3337 (hd 3337 (by decide))).2.2.2.2.1, (h.1 3338 (hd 3338 (by decide))).2.2.2.2.1, (h.1 3339 (hd 3339 (by decide))).2.2.2.2.1, (h.1 3340 (hd 3340 (by decide))).2.2.2.2.1, (h.1 3341 (hd 3341 (by decide))).2.2.2.2.1, (h.1 3342 (hd 3342 (by decide))).2.2.2.2.1, (h.1 3343 (hd 3343 (by decide))).2.2.2.2.1, (h.1 3344 (hd 3344 (by decide))).2.2.2.2.1, (h.1 3345 (hd 3345 (by decide))).2.2.2.2.1, (h.1 3346 (hd 3346 (by decide))).2.2.2.2.1, (h.1 3347 (hd 3347 (by decide))).2.2.2.2.1, implies_true, and_self]
theorem agm_tr {u v T : TS} {m : Nat} (h1 : agm u v m) (h2 : agm v T m) : agm u T m := by
  obtain ⟨p0, p1, p2, p3, p4, p5, p6, p7, p8, p9, p10, p11, p12, p13, p14, p15, p16, p17, p18, p19, p20, p21, p22, p23, p24, p25, p26, p27, p28, p29, p30, p31, p32, p33, p34, p35, p36, p37, p38, p39, p40, p41, p42, p43, p44⟩ := h1
  obtain ⟨q0, q1, q2, q3, q4, q5, q6, q7, q8, q9, q10, q11, q12, q13, q14, q15, q16, q17, q18, q19, q20, q21, q22, q23, q24, q25, q26, q27, q28, q29, q30, q31, q32, q33, q34, q35, q36, q37, q38, q39, q40, q41, q42, q43, q44⟩ := h2
  exact ⟨q0.trans p0, q1.trans p1, q2.trans p2, q3.trans p3, q4.trans p4, q5.trans p5, q6.trans p6, q7.trans p7, q8.trans p8, q9.trans p9, q10.trans p10, q11.trans p11, q12.trans p12, q13.trans p13, q14.trans p14, q15.trans p15, q16.trans p16, q17.trans p17, q18.trans p18, q19.trans p19, q20.trans p20, q21.trans p21, q22.trans p22, q23.trans p23, q24.trans p24, q25.trans p25, q26.trans p26, q27.trans p27, q28.trans p28, q29.trans p29, q30.trans p30, q31.trans p31, q32.trans p32, q33.trans p33, q34.trans p34, q35.trans p35, q36.trans p36, q37.trans p37, q38.trans p38, q39.trans p39, q40.trans p40, q41.trans p41, q42.trans p42, q43.trans p43, fun c hc => (q44 c hc).trans (p44 c hc)⟩
/-! the bound of coins -/
def mW (t : TS) (m : Nat) : Nat := 3000000 + (if tA t 3334 0 m = 1 then 3000000 else 0) + (tA t 3345 0 m).toNatClampNeg
def sW (t : TS) : Nat → Nat
  | 0 => 0
  | n + 1 => sW t n + mW t n
theorem sW_c {t t' : TS} : ∀ n, (∀ m, m < n → mW t' m = mW t m) → sW t' n = sW t n
  | 0, _ => rfl
  | n + 1, h => by
    show sW t' n + mW t' n = sW t n + mW t n
    rw [sW_c n (fun m hm => h m (by omega)), h n (by omega)]
def Icb (nB nM : Nat) (t : TS) : Prop := ∀ i, i < nB → -((10000000 + sW t nM : Nat) : Int) ≤ (tA t 3310 0 i).toInt ∧ (tA t 3310 0 i).toInt ≤ ((10000000 + sW t nM : Nat) : Int)
def kCb : List Nat := [3310, 3334, 3345]
theorem Icb_f {D : Nat → Bool} {nB nM : Nat} {t t' : TS} (h : frm D t t') (hd : ∀ k, k ∈ kCb → D k = false) (hI : Icb nB nM t) : Icb nB nM t' := fun i hi => by
  have e : sW t' nM = sW t nM := sW_c _ (fun m _ => by unfold mW; rw [(h.1 3334 (hd 3334 (by decide))).2.2.2.2.1, (h.1 3345 (hd 3345 (by decide))).2.2.2.2.1])
  rw [e, (h.1 3310 (hd 3310 (by decide))).2.2.2.2.1]
  exact hI i hi
theorem mW_le {nB nS nM : Nat} {t : TS} (hM : Imove nB nS nM t) {m : Nat} (hm : m < nM) : 3000000 ≤ mW t m ∧ mW t m ≤ 6999999 := by
  obtain ⟨-, -, -, -, -, -, -, -, -, -, -, -, -, -, -, -, -, -, -, -, -, -, k, k1, -, k2⟩ := hM.2.2.2.1 m hm
  unfold mW
  rw [k2, nt_cl (by omega)]
  split <;> omega
theorem sW_le {nB nS nM : Nat} {t : TS} (hM : Imove nB nS nM t) : ∀ n, n ≤ nM → sW t n ≤ 6999999 * n
  | 0, _ => Nat.le_refl _
  | n + 1, h => by
    have h1 := sW_le hM n (by omega)
    have h2 := (mW_le hM (show n < nM by omega)).2
    show sW t n + mW t n ≤ _
    omega
theorem sW_b {nB nS nM : Nat} {t : TS} (hM : Imove nB nS nM t) : sW t nM ≤ 1399999800 := by
  have := sW_le hM nM (Nat.le_refl _)
  have := hM.1
  omega
/-- both sides' coins, paid in another order -/
theorem two_coin {f g : Nat → Int32} {nB co c : Nat} (h : ∀ i, i < nB → f i = g i) (hco : co < nB) (hc : c < nB) (a b : Int32) : ∀ i, i < nB → mm_u1 (mm_u1 f co (f co + a)) c (mm_u1 f co (f co + a) c - b) i = mm_u1 (mm_u1 g c (g c - b)) co (mm_u1 g c (g c - b) co + a) i := fun i hi => by
  have e1 := h co hco
  have e2 := h c hc
  have e3 := h i hi
  have key : ∀ x : Int32, x + a - b = x - b + a := fun x => by rw [Int32.sub_eq_add_neg, Int32.sub_eq_add_neg, Int32.add_assoc, Int32.add_assoc, Int32.add_comm a]
  unfold mm_u1
  by_cases g1 : i = c
  · by_cases g2 : c = co
    · subst g1; subst g2; simp only [if_true]; rw [e1]; exact key _
    · subst g1; simp only [if_true, if_neg g2]; rw [e2]
  · by_cases g2 : i = co
    · subst g2; simp only [if_neg g1, if_true]; rw [e1]
    · simp only [if_neg g1, if_neg g2]; exact e3
