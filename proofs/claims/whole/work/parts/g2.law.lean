/-! PART g2: the law's turn: a call of both. -/
def lw_W (z : Rm) : NW := (z, fun _ => False, hp_0, mm_fx)
def lw_ls (b aX aM : Nat) (i : Int32) : List (Option MV) := [some (vR (some b)), some (vR (some aX)), some (vR (some aM)), some (vI i)]
def lw_J (z : Rm) (aX aM : Nat) (t : TS) (hs : Nat) (h : Hp) : Prop := ∃ ad, RV (lw_W z) ad t hs h ∧ ad 12 0 = aX ∧ ad 13 0 = aM ∧ tE t 12 0 = true ∧ tE t 13 0 = true
def lw_at (pc j : Nat) : Prop := tL_law pc = some (.aload_n 0, 1, 0, 0, 0) ∧ tL_law (pc + 1) = some (.iload_n 3, 1, 0, 0, 0) ∧ tL_law (pc + 2) = some (.iconst j, 1, 0, 0, 0) ∧ tL_law (pc + 3) = some (.iadd, 1, 0, 0, 0) ∧ tL_law (pc + 4) = some (.iaload, 1, 0, 0, 0)
def lw_ats : Nat → Nat → Nat → Prop
  | _, _, 0 => True
  | pc, j, n + 1 => lw_at pc j ∧ lw_ats (pc + 5) (j + 1) n
def lw_stk (f : Nat → Int32) (i : Nat) : Nat → Nat → List MV → List MV
  | _, 0, st => st
  | j, n + 1, st => lw_stk f i (j + 1) n (vI (f (i + j)) :: st)
section
variable {z : Rm} {C : Ct} {Q : Qt} {b aX aM L i : Nat} {f : Nat → Int32} {st : List MV} {hs bc bs : Nat} {h : Hp}
theorem vp_in_nt {k n : Nat} (hk : k < n) (hn : n < 2147483648) : vp_in (nt k) n := fun g => by
  rcases g with g | g
  · exact nt_neg (by omega) g
  · rw [nt_cl (by omega)] at g; omega
theorem lw_arg {pc j : Nat} (hC : mm_CM C) (hz : z.1 b = some (L, f)) (hi : i + j < L) (hL : L ≤ 3072) (ht : lw_at pc j) (k : mm_X z C tL_law Q (pc + 5) (lw_ls b aX aM (nt i)) (vI (f (i + j)) :: st) hs h bc bs) : mm_X z C tL_law Q pc (lw_ls b aX aM (nt i)) st hs h bc bs := by
  obtain ⟨t0, t1, t2, t3, t4⟩ := ht
  refine rx_ld (v := vR (some b)) (i := 0) (kd := 2) (n := 1) hC t0 rfl rfl rfl ?_
  refine rx_ld (v := vI (nt i)) (i := 3) (kd := 0) (n := 1) hC t1 rfl rfl rfl ?_
  refine rx_push (v := vI (Int32.ofInt j)) (n := 1) hC t2 rfl ?_
  refine rx_ii (f := (· + ·)) hC t3 rfl ?_
  have e : nt i + Int32.ofInt j = nt (i + j) := by rw [show Int32.ofInt (j : Int) = nt j from it_nt j, nt_add]
  show mm_X z C tL_law Q _ _ (vI (nt i + Int32.ofInt j) :: _) hs h bc bs
  rw [e]
  refine rx_ialdZ (r := (L, f)) hC t4 rfl hz (vp_in_nt hi (by omega)) ?_
  show mm_X z C tL_law Q _ _ (vI (f (nt (i + j)).toNatClampNeg) :: _) hs h bc bs
  rw [nt_cl (by omega)]
  exact k
theorem lw_args (hC : mm_CM C) (hz : z.1 b = some (L, f)) (hL : L ≤ 3072) : ∀ (n j pc : Nat) (st : List MV), i + j + n ≤ L → lw_ats pc j n → mm_X z C tL_law Q (pc + 5 * n) (lw_ls b aX aM (nt i)) (lw_stk f i j n st) hs h bc bs → mm_X z C tL_law Q pc (lw_ls b aX aM (nt i)) st hs h bc bs
  | 0, j, pc, st, _, _, k => k
  | n + 1, j, pc, st, hi, ht, k => by
    refine lw_arg hC hz (by omega) hL ht.1 (lw_args hC hz hL n (j + 1) (pc + 5) _ (by omega) ht.2 ?_)
    rw [show pc + 5 + 5 * n = pc + 5 * (n + 1) by omega]
    exact k
/-- a call over the typed heap, seen from outside -/
theorem lw_nC {ad : Nat → Nat → Nat} {t t1 : TS} {x d : Nat} {as : List NV} {v0 : NV} {w0 : MV} (hv : ∀ a : Nat → Nat → Nat, mv a v0 = w0) (hR : RV (lw_W z) ad t hs h) (e12 : tE t 12 0 = true) (e13 : tE t 13 0 = true) (hok : okS t as) (hn : nC (lw_W z) d x as t bc bs (fun r u => r = some v0 ∧ u = t1)) : mm_C z mm_mL mm_P d x (as.map (mv ad)) hs h bc bs (fun r hs' h' => r = some w0 ∧ lw_J z (ad 12 0) (ad 13 0) t1 hs' h') := by
  refine mm_C_mono d _ _ _ _ _ _ _ _ (fun r hs' h' g => ?_) (hn ad hs h hR hok)
  obtain ⟨ad', t', r', g1, g2, g3, g4, g5, g6⟩ := g
  subst g6
  refine ⟨by rw [g4, g5]; exact congrArg some (hv ad'), ad', g1, (g2 12 0 e12).1, (g2 13 0 e13).1, (g2 12 0 e12).2, (g2 13 0 e13).2⟩
/-- the class's call and the model's, behind their arguments -/
theorem lw_two {v0 : NV} {w0 : MV} (hv : ∀ a : Nat → Nat → Nat, mv a v0 = w0) {t t1 : TS} {pc nx y : Nat} {cl : Nat} {q : En} {as : List NV} {S st0 : List MV} {a kd : Nat} {v : Int} (hC : mm_CM (mm_C z mm_mL mm_P 1300)) (T : tL_law pc = some q) (hq : mm_sem z q = mm_callV nx y v) (hkd : (kd : Int) = v + 1) (hcl : cl < 20) (hkc : kd = cl + 1) (hJ : lw_J z aX aM t hs h) (hcE : tE t cl 0 = true) (ha : ∀ ad : Nat → Nat → Nat, ad 12 0 = aX → ad 13 0 = aM → ad cl 0 = a) (hS : ∀ ad : Nat → Nat → Nat, ad cl 0 = a → y ≤ S.length ∧ (S.take y).reverse = vR (some a) :: as.map (mv ad) ∧ S.drop y = st0) (hsh : mm_sh st0) (hok : okS t as) (hn : nC (lw_W z) 1300 nx (eR (some (cl, 0)) :: as) t 30 250 (fun r u => r = some v0 ∧ u = t1)) (hb1 : 30 ≤ bc) (hb2 : 250 ≤ bs) (K : ∀ hs' h', lw_J z aX aM t1 hs' h' → mm_X z (mm_C z mm_mL mm_P 1300) tL_law Q (pc + 3) (lw_ls b aX aM (nt i)) (w0 :: st0) hs' h' (bc - 30) (bs - 250)) : mm_X z (mm_C z mm_mL mm_P 1300) tL_law Q pc (lw_ls b aX aM (nt i)) S hs h bc bs := by
  obtain ⟨ad, hR, h12, h13, e12, e13⟩ := hJ
  have hca := ha ad h12 h13
  obtain ⟨s1, s2, s3⟩ := hS ad hca
  have hkk : hp_K h a = kd := by
    rw [← hca, (hR.1 cl 0 hcE).2.2.1, nkO hcl, hkc]
  refine rx_callV (as := as.map (mv ad)) (st' := st0) (a := a) (kd := kd) (c1 := 30) (s1 := 250) hC T hq s1 s2 s3 hsh hkd hkk hb1 hb2 ?_
  have hk2 := lw_nC (as := eR (some (cl, 0)) :: as) hv hR e12 e13 (okS_cons (Or.inl hcE) hok) hn
  have e : (eR (some (cl, 0)) :: as).map (mv ad) = vR (some a) :: as.map (mv ad) := congrArg (fun x => vR (some x) :: as.map (mv ad)) hca
  rw [e] at hk2
  refine mm_C_mono 1300 _ _ _ _ _ _ _ _ (fun r hs' h' g => ?_) hk2
  obtain ⟨g1, g2⟩ := g
  rw [g1]
  rw [h12, h13] at g2
  exact K hs' h' g2
theorem okS_ints : ∀ (n j : Nat) (t : TS), okS t ((List.range n).map (fun m => eI (f (i + (j + m))))) := fun n j t v hv => by
  obtain ⟨m, -, rfl⟩ := List.mem_map.mp hv
  trivial
def lw_as (f : Nat → Int32) (i : Nat) : Nat → Nat → List NV
  | _, 0 => []
  | j, n + 1 => eI (f (i + j)) :: lw_as f i (j + 1) n
theorem lw_as_ok : ∀ (n j : Nat) (t : TS), okS t (lw_as f i j n)
  | 0, _, _ => fun v hv => by cases hv
  | n + 1, j, t => okS_cons trivial (lw_as_ok n (j + 1) t)
theorem lw_stk_eq : ∀ (n j : Nat) (st : List MV) (ad : Nat → Nat → Nat), lw_stk f i j n st = ((lw_as f i j n).map (mv ad)).reverse ++ st
  | 0, _, _, _ => rfl
  | n + 1, j, st, ad => by
    show lw_stk f i (j + 1) n (vI (f (i + j)) :: st) = (vI (f (i + j)) :: (lw_as f i (j + 1) n).map (mv ad)).reverse ++ st
    rw [lw_stk_eq n (j + 1) _ ad, List.reverse_cons, List.append_assoc]
    rfl
theorem lw_as_len : ∀ n j, (lw_as f i j n).length = n
  | 0, _ => rfl
  | n + 1, j => congrArg Nat.succ (lw_as_len n (j + 1))
theorem lw_stk_at (n j : Nat) (v : MV) (st : List MV) (ad : Nat → Nat → Nat) : n + 1 ≤ (lw_stk f i j n (v :: st)).length ∧ ((lw_stk f i j n (v :: st)).take (n + 1)).reverse = v :: (lw_as f i j n).map (mv ad) ∧ (lw_stk f i j n (v :: st)).drop (n + 1) = st := by
  have hl : ((lw_as f i j n).map (mv ad)).reverse.length = n := by rw [List.length_reverse, List.length_map, lw_as_len]
  have e : lw_stk f i j n (v :: st) = (((lw_as f i j n).map (mv ad)).reverse ++ [v]) ++ st := by
    rw [lw_stk_eq n j _ ad, List.append_assoc]; rfl
  have hl2 : (((lw_as f i j n).map (mv ad)).reverse ++ [v]).length = n + 1 := by rw [List.length_append, hl]; rfl
  rw [e]
  refine ⟨by rw [List.length_append, hl2]; omega, ?_, ?_⟩
  · rw [List.take_left' hl2, List.reverse_append, List.reverse_reverse]; rfl
  · exact List.drop_left' hl2
/-- a case of the law: ints in, an int out -/
theorem lw_case (n : Nat) {t : TS} {pc p1 p2 p3 p4 p5 nx nm : Nat} {q1 q2 : En} {of_ : Int} (hz : z.1 b = some (L, f)) (hL : L ≤ 3072) (hi : i + 1 + n ≤ L) (T0 : tL_law pc = some (.aload_n 1, 1, 0, 0, 0)) (TA : lw_ats (pc + 1) 1 n) (e1 : pc + 1 + 5 * n = p1) (TX : tL_law p1 = some q1) (hq1 : mm_sem z q1 = mm_callV nx (n + 1) 12) (e2 : p1 + 3 = p2) (T1 : tL_law p2 = some (.aload_n 2, 1, 0, 0, 0)) (e3 : p2 + 1 = p3) (TB : lw_ats p3 1 n) (e4 : p3 + 5 * n = p4) (TM : tL_law p4 = some q2) (hq2 : mm_sem z q2 = mm_callV nm (n + 1) 13) (e5 : p4 + 3 = p5) (TI : tL_law p5 = some (.if_icmp .eq of_, 3, 1982, 0, 0)) (hJ : lw_J z aX aM t hs h)
    (H : ∃ r t1 t2, nC (lw_W z) 1300 nx (eR (some (12, 0)) :: lw_as f i 1 n) t 30 250 (fun r' u => r' = some (eI r) ∧ u = t1) ∧ nC (lw_W z) 1300 nm (eR (some (13, 0)) :: lw_as f i 1 n) t1 30 250 (fun r' u => r' = some (eI r) ∧ u = t2) ∧ Inv t2) (hb1 : 60 ≤ bc) (hb2 : 500 ≤ bs) (K : ∀ t2 hs' h', Inv t2 → lw_J z aX aM t2 hs' h' → mm_X z (mm_C z mm_mL mm_P 1300) tL_law Q 1982 (lw_ls b aX aM (nt i)) [] hs' h' (bc - 60) (bs - 500)) : mm_X z (mm_C z mm_mL mm_P 1300) tL_law Q pc (lw_ls b aX aM (nt i)) [] hs h bc bs := by
  have hC := mm_C_mono (z := z) (mL := mm_mL) (P := mm_P) 1300
  obtain ⟨r, t1, t2, H1, H2, H3⟩ := H
  have hE := hJ
  obtain ⟨-, -, -, -, e12, e13⟩ := hE
  subst e1; subst e2; subst e3; subst e4; subst e5
  refine rx_ld (v := vR (some aX)) (i := 1) (kd := 2) (n := 1) hC T0 rfl rfl rfl ?_
  refine lw_args hC hz hL n 1 (pc + 1) _ (by omega) TA ?_
  refine lw_two (v0 := eI r) (w0 := vI r) (fun _ => rfl) (cl := 12) (kd := 13) (a := aX) (st0 := []) hC TX hq1 rfl (by omega) rfl hJ e12 (fun ad h1 _ => h1) (fun ad _ => lw_stk_at n 1 _ _ ad) (Or.inl (Nat.zero_le _)) (lw_as_ok n 1 t) H1 (by omega) (by omega) (fun hs1 h1 hJ1 => ?_)
  have hE := hJ1
  obtain ⟨-, -, -, -, e12, e13⟩ := hE
  refine rx_ld (v := vR (some aM)) (i := 2) (kd := 2) (n := 1) hC T1 rfl rfl rfl ?_
  refine lw_args hC hz hL n 1 _ _ (by omega) TB ?_
  refine lw_two (v0 := eI r) (w0 := vI r) (fun _ => rfl) (cl := 13) (kd := 14) (a := aM) (st0 := [vI r]) hC TM hq2 rfl (by omega) rfl hJ1 e13 (fun ad _ h2 => h2) (fun ad _ => lw_stk_at n 1 _ _ ad) (Or.inl (by show 1 ≤ 4; omega)) (lw_as_ok n 1 t1) H2 (by omega) (by omega) (fun hs2 h2 hJ2 => ?_)
  refine rx_icmp hC TI rfl (fun _ => ?_) (fun g => absurd rfl g)
  have k := K t2 hs2 h2 H3 hJ2
  rw [show bc - 60 = bc - 30 - 30 by omega, show bs - 500 = bs - 250 - 250 by omega] at k
  exact k
/-- ints in, a long out -/
theorem lw_caseJ (n : Nat) {t : TS} {pc p1 p2 p3 p4 p5 nx nm : Nat} {q1 q2 : En} {of_ : Int} (hz : z.1 b = some (L, f)) (hL : L ≤ 3072) (hi : i + 1 + n ≤ L) (T0 : tL_law pc = some (.aload_n 1, 1, 0, 0, 0)) (TA : lw_ats (pc + 1) 1 n) (e1 : pc + 1 + 5 * n = p1) (TX : tL_law p1 = some q1) (hq1 : mm_sem z q1 = mm_callV nx (n + 1) 12) (e2 : p1 + 3 = p2) (T1 : tL_law p2 = some (.aload_n 2, 1, 0, 0, 0)) (e3 : p2 + 1 = p3) (TB : lw_ats p3 1 n) (e4 : p3 + 5 * n = p4) (TM : tL_law p4 = some q2) (hq2 : mm_sem z q2 = mm_callV nm (n + 1) 13) (e5 : p4 + 3 = p5) (TC : tL_law p5 = some (.lcmp, 1, 0, 0, 0)) (TI : tL_law (p5 + 1) = some (.ifCond .eq of_, 3, 1982, 0, 0)) (hJ : lw_J z aX aM t hs h)
    (H : ∃ r t1 t2, nC (lw_W z) 1300 nx (eR (some (12, 0)) :: lw_as f i 1 n) t 30 250 (fun r' u => r' = some (eJ r) ∧ u = t1) ∧ nC (lw_W z) 1300 nm (eR (some (13, 0)) :: lw_as f i 1 n) t1 30 250 (fun r' u => r' = some (eJ r) ∧ u = t2) ∧ Inv t2) (hb1 : 60 ≤ bc) (hb2 : 500 ≤ bs) (K : ∀ t2 hs' h', Inv t2 → lw_J z aX aM t2 hs' h' → mm_X z (mm_C z mm_mL mm_P 1300) tL_law Q 1982 (lw_ls b aX aM (nt i)) [] hs' h' (bc - 60) (bs - 500)) : mm_X z (mm_C z mm_mL mm_P 1300) tL_law Q pc (lw_ls b aX aM (nt i)) [] hs h bc bs := by
  have hC := mm_C_mono (z := z) (mL := mm_mL) (P := mm_P) 1300
  obtain ⟨r, t1, t2, H1, H2, H3⟩ := H
  have hE := hJ
  obtain ⟨-, -, -, -, e12, e13⟩ := hE
  subst e1; subst e2; subst e3; subst e4; subst e5
  refine rx_ld (v := vR (some aX)) (i := 1) (kd := 2) (n := 1) hC T0 rfl rfl rfl ?_
  refine lw_args hC hz hL n 1 (pc + 1) _ (by omega) TA ?_
  refine lw_two (v0 := eJ r) (w0 := vJ r) (fun _ => rfl) (cl := 12) (kd := 13) (a := aX) (st0 := []) hC TX hq1 rfl (by omega) rfl hJ e12 (fun ad h1 _ => h1) (fun ad _ => lw_stk_at n 1 _ _ ad) (Or.inl (Nat.zero_le _)) (lw_as_ok n 1 t) H1 (by omega) (by omega) (fun hs1 h1 hJ1 => ?_)
  have hE := hJ1
  obtain ⟨-, -, -, -, e12, e13⟩ := hE
  refine rx_ld (v := vR (some aM)) (i := 2) (kd := 2) (n := 1) hC T1 rfl rfl rfl ?_
  refine lw_args hC hz hL n 1 _ _ (by omega) TB ?_
  refine lw_two (v0 := eJ r) (w0 := vJ r) (fun _ => rfl) (cl := 13) (kd := 14) (a := aM) (st0 := [vJ r]) hC TM hq2 rfl (by omega) rfl hJ1 e13 (fun ad _ h2 => h2) (fun ad _ => lw_stk_at n 1 _ _ ad) (Or.inl (by show 1 ≤ 4; omega)) (lw_as_ok n 1 t1) H2 (by omega) (by omega) (fun hs2 h2 hJ2 => ?_)
  refine rx_lcmp hC TC rfl ?_
  have e0 : lg_cmp r r = 0 := by rw [lc_eq]
  refine rx_if hC TI rfl (fun _ => ?_) (fun g => absurd e0 g)
  have k := K t2 hs2 h2 H3 hJ2
  rw [show bc - 60 = bc - 30 - 30 by omega, show bs - 500 = bs - 250 - 250 by omega] at k
  exact k
end
