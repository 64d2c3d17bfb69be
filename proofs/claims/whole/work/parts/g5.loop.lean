/-! PART g5: put, the law's turn, its loop. -/
section
variable {z : Rm} {Q : Qt} {b aX aM L i : Nat} {f : Nat → Int32} {st : List MV} {hs bc bs : Nat} {h : Hp} {t : TS}
/-- the long that put is called with -/
def lw_v (f : Nat → Int32) (i : Nat) : Int64 := ((f (i + 3)).toInt64 <<< ((Int8.ofInt 32).toInt32.toInt64 &&& 63)) ||| ((f (i + 4)).toInt64 &&& Int64.ofInt 4294967295)
theorem lw_long {C : Ct} {pc : Nat} (hC : mm_CM C) (hz : z.1 b = some (L, f)) (hi : i + 6 ≤ L) (hL : L ≤ 3072) (ha : lw_at pc 3) (t1 : tL_law (pc + 5) = some (.i2l, 1, 0, 0, 0)) (t2 : tL_law (pc + 6) = some (.bipush 32, 2, 0, 0, 0)) (t3 : tL_law (pc + 8) = some (.lshl, 1, 0, 0, 0)) (hb : lw_at (pc + 9) 4) (t4 : tL_law (pc + 14) = some (.i2l, 1, 0, 0, 0)) {n194 : _} (t5 : tL_law (pc + 15) = some (.ldc2_w n194, 3, 0, 0, 4294967295)) (t6 : tL_law (pc + 18) = some (.land, 1, 0, 0, 0)) (t7 : tL_law (pc + 19) = some (.lor, 1, 0, 0, 0)) (k : mm_X z C tL_law Q (pc + 20) (lw_ls b aX aM (nt i)) (vJ (lw_v f i) :: st) hs h bc bs) : mm_X z C tL_law Q pc (lw_ls b aX aM (nt i)) st hs h bc bs := by
  refine lw_arg hC hz (by omega) hL ha ?_
  refine rx_i2l hC t1 rfl ?_
  refine rx_push (v := vI (Int8.ofInt 32).toInt32) (n := 2) hC t2 rfl ?_
  refine rx_lshl hC t3 rfl ?_
  refine lw_arg hC hz (by omega) hL hb ?_
  refine rx_i2l hC t4 rfl ?_
  refine rx_push (v := vJ (Int64.ofInt 4294967295)) (n := 3) hC t5 rfl ?_
  refine rx_jj (f := (· &&& ·)) hC t6 rfl ?_
  refine rx_jj (f := (· ||| ·)) hC t7 rfl ?_
  exact k
theorem lw_c44 (hz : z.1 b = some (L, f)) (hL : L ≤ 3072) (hi : i + 6 ≤ L) (hI : Inv t) (hJ : lw_J z aX aM t hs h) (hb1 : 60 ≤ bc) (hb2 : 500 ≤ bs) (K : ∀ t2 hs' h', Inv t2 → lw_J z aX aM t2 hs' h' → mm_X z (mm_C z mm_mL mm_P 1300) tL_law Q 1982 (lw_ls b aX aM (nt i)) [] hs' h' (bc - 60) (bs - 500)) : mm_X z (mm_C z mm_mL mm_P 1300) tL_law Q 1756 (lw_ls b aX aM (nt i)) [] hs h bc bs := by
  have hC := mm_C_mono (z := z) (mL := mm_mL) (P := mm_P) 1300
  obtain ⟨r, t1, t2, c1, c2, hI2⟩ := s_put hI (f (i + 1)) (f (i + 2)) (lw_v f i)
  have hE := hJ
  obtain ⟨-, -, -, -, e12, e13⟩ := hE
  have hok : ∀ u, okS u [eI (f (i + 1)), eI (f (i + 2)), eJ (lw_v f i)] := fun u => okS_cons trivial (okS_cons trivial (okS_cons trivial (fun v hv => by cases hv)))
  refine rx_ld (v := vR (some aX)) (i := 1) (kd := 2) (n := 1) hC (show tL_law 1756 = some (.aload_n 1, 1, 0, 0, 0) from rfl) rfl rfl rfl ?_
  refine lw_arg (j := 1) hC hz (by omega) hL ⟨rfl, rfl, rfl, rfl, rfl⟩ ?_
  refine lw_arg (j := 2) hC hz (by omega) hL ⟨rfl, rfl, rfl, rfl, rfl⟩ ?_
  refine lw_long hC hz hi hL ⟨rfl, rfl, rfl, rfl, rfl⟩ rfl rfl rfl ⟨rfl, rfl, rfl, rfl, rfl⟩ rfl rfl rfl rfl ?_
  refine lw_two (v0 := eI r) (w0 := vI r) (fun _ => rfl) (cl := 12) (kd := 13) (a := aX) (st0 := []) (nx := 108) (y := 4) (as := [eI (f (i + 1)), eI (f (i + 2)), eJ (lw_v f i)]) hC (show tL_law 1787 = some (.invokevirtual 196, 3, 108, 4, 12) from rfl) rfl rfl (by omega) rfl hJ e12 (fun ad h1 _ => h1) (fun ad _ => ⟨Nat.le_refl _, rfl, rfl⟩) (Or.inl (Nat.zero_le _)) (hok t) (TF_X12_put (d := 1296) rfl ⟨_, c1, rfl, rfl⟩) (by omega) (by omega) (fun hs1 h1 hJ1 => ?_)
  have hE := hJ1
  obtain ⟨-, -, -, -, e12, e13⟩ := hE
  refine rx_ld (v := vR (some aM)) (i := 2) (kd := 2) (n := 1) hC (show tL_law 1790 = some (.aload_n 2, 1, 0, 0, 0) from rfl) rfl rfl rfl ?_
  refine lw_arg (j := 1) hC hz (by omega) hL ⟨rfl, rfl, rfl, rfl, rfl⟩ ?_
  refine lw_arg (j := 2) hC hz (by omega) hL ⟨rfl, rfl, rfl, rfl, rfl⟩ ?_
  refine lw_long hC hz hi hL ⟨rfl, rfl, rfl, rfl, rfl⟩ rfl rfl rfl ⟨rfl, rfl, rfl, rfl, rfl⟩ rfl rfl rfl rfl ?_
  refine lw_two (v0 := eI r) (w0 := vI r) (fun _ => rfl) (cl := 13) (kd := 14) (a := aM) (st0 := [vI r]) (nx := 268) (y := 4) (as := [eI (f (i + 1)), eI (f (i + 2)), eJ (lw_v f i)]) hC (show tL_law 1821 = some (.invokevirtual 200, 3, 268, 4, 13) from rfl) rfl rfl (by omega) rfl hJ1 e13 (fun ad _ h2 => h2) (fun ad _ => ⟨by show 4 ≤ 5; omega, rfl, rfl⟩) (Or.inl (by show 1 ≤ 4; omega)) (hok t1) (TF_X13_put (d := 1296) rfl ⟨_, c2, rfl, rfl⟩) (by omega) (by omega) (fun hs2 h2 hJ2 => ?_)
  refine rx_icmp (t := 1982) hC (show tL_law 1824 = some (.if_icmp .eq 158, 3, 1982, 0, 0) from rfl) rfl (fun _ => ?_) (fun g => absurd rfl g)
  have k := K t2 hs2 h2 hI2 hJ2
  rw [show bc - 60 = bc - 30 - 30 by omega, show bs - 500 = bs - 250 - 250 by omega] at k
  exact k
theorem tsw_c {K : Nat → Prop} {x : Int32} {pc : Nat} {lo o : Int} {os : List Int} (h1 : x.toInt = lo → K ((pc : Int) + o).toNat) (h2 : mm_tsw1 K x pc (lo + 1) os) : mm_tsw1 K x pc lo (o :: os) := ⟨h1, h2⟩
theorem lw_turn (hz : z.1 b = some (L, f)) (hL : L ≤ 3072) (hi : i + 6 ≤ L) (hI : Inv t) (hJ : lw_J z aX aM t hs h) (hb1 : 60 ≤ bc) (hb2 : 500 ≤ bs) (K0 : mm_X z (mm_C z mm_mL mm_P 1300) tL_law Q 1982 (lw_ls b aX aM (nt i)) [] hs h bc bs) (K : ∀ t2 hs' h', Inv t2 → lw_J z aX aM t2 hs' h' → mm_X z (mm_C z mm_mL mm_P 1300) tL_law Q 1982 (lw_ls b aX aM (nt i)) [] hs' h' (bc - 60) (bs - 500)) : mm_X z (mm_C z mm_mL mm_P 1300) tL_law Q 27 (lw_ls b aX aM (nt i)) [] hs h bc bs := by
  have hC := mm_C_mono (z := z) (mL := mm_mL) (P := mm_P) 1300
  refine rx_ld (v := vR (some b)) (i := 0) (kd := 2) (n := 1) hC (show tL_law 27 = some (.aload_n 0, 1, 0, 0, 0) from rfl) rfl rfl rfl ?_
  refine rx_ld (v := vI (nt i)) (i := 3) (kd := 0) (n := 1) hC (show tL_law 28 = some (.iload_n 3, 1, 0, 0, 0) from rfl) rfl rfl rfl ?_
  refine rx_ialdZ (r := (L, f)) hC (show tL_law 29 = some (.iaload, 1, 0, 0, 0) from rfl) rfl hz (vp_in_nt (by omega) (by omega)) ?_
  refine rx_push (v := vI (Int8.ofInt 63).toInt32) (n := 2) hC (show tL_law 30 = some (.bipush 63, 2, 0, 0, 0) from rfl) rfl ?_
  refine rx_ii (f := (· &&& ·)) hC (show tL_law 32 = some (.iand, 1, 0, 0, 0) from rfl) rfl ?_
  refine rx_tsw hC (T := tL_law) (pc := 33) rfl rfl (fun _ => K0) ?_
  exact tsw_c (fun _ => lw_c0 hz hL hi hI hJ hb1 hb2 K) (tsw_c (fun _ => lw_c1 hz hL hi hI hJ hb1 hb2 K) (tsw_c (fun _ => lw_c2 hz hL hi hI hJ hb1 hb2 K) (tsw_c (fun _ => lw_c3 hz hL hi hI hJ hb1 hb2 K) (tsw_c (fun _ => lw_c4 hz hL hi hI hJ hb1 hb2 K) (tsw_c (fun _ => lw_c5 hz hL hi hI hJ hb1 hb2 K) (tsw_c (fun _ => lw_c6 hz hL hi hI hJ hb1 hb2 K) (tsw_c (fun _ => lw_c7 hz hL hi hI hJ hb1 hb2 K) (tsw_c (fun _ => lw_c8 hz hL hi hI hJ hb1 hb2 K) (tsw_c (fun _ => lw_c9 hz hL hi hI hJ hb1 hb2 K) (tsw_c (fun _ => lw_c10 hz hL hi hI hJ hb1 hb2 K) (tsw_c (fun _ => lw_c11 hz hL hi hI hJ hb1 hb2 K) (tsw_c (fun _ => lw_c12 hz hL hi hI hJ hb1 hb2 K) (tsw_c (fun _ => lw_c13 hz hL hi hI hJ hb1 hb2 K) (tsw_c (fun _ => lw_c14 hz hL hi hI hJ hb1 hb2 K) (tsw_c (fun _ => lw_c15 hz hL hi hI hJ hb1 hb2 K) (tsw_c (fun _ => lw_c16 hz hL hi hI hJ hb1 hb2 K) (tsw_c (fun _ => lw_c17 hz hL hi hI hJ hb1 hb2 K) (tsw_c (fun _ => lw_c18 hz hL hi hI hJ hb1 hb2 K) (tsw_c (fun _ => lw_c19 hz hL hi hI hJ hb1 hb2 K) (tsw_c (fun _ => lw_c20 hz hL hi hI hJ hb1 hb2 K) (tsw_c (fun _ => lw_c21 hz hL hi hI hJ hb1 hb2 K) (tsw_c (fun _ => lw_c22 hz hL hi hI hJ hb1 hb2 K) (tsw_c (fun _ => lw_c23 hz hL hi hI hJ hb1 hb2 K) (tsw_c (fun _ => lw_c24 hz hL hi hI hJ hb1 hb2 K) (tsw_c (fun _ => lw_c25 hz hL hi hI hJ hb1 hb2 K) (tsw_c (fun _ => lw_c26 hz hL hi hI hJ hb1 hb2 K) (tsw_c (fun _ => lw_c27 hz hL hi hI hJ hb1 hb2 K) (tsw_c (fun _ => lw_c28 hz hL hi hI hJ hb1 hb2 K) (tsw_c (fun _ => lw_c29 hz hL hi hI hJ hb1 hb2 K) (tsw_c (fun _ => lw_c30 hz hL hi hI hJ hb1 hb2 K) (tsw_c (fun _ => lw_c31 hz hL hi hI hJ hb1 hb2 K) (tsw_c (fun _ => lw_c32 hz hL hi hI hJ hb1 hb2 K) (tsw_c (fun _ => lw_c33 hz hL hi hI hJ hb1 hb2 K) (tsw_c (fun _ => lw_c34 hz hL hi hI hJ hb1 hb2 K) (tsw_c (fun _ => lw_c35 hz hL hi hI hJ hb1 hb2 K) (tsw_c (fun _ => lw_c36 hz hL hi hI hJ hb1 hb2 K) (tsw_c (fun _ => lw_c37 hz hL hi hI hJ hb1 hb2 K) (tsw_c (fun _ => lw_c38 hz hL hi hI hJ hb1 hb2 K) (tsw_c (fun _ => lw_c39 hz hL hi hI hJ hb1 hb2 K) (tsw_c (fun _ => lw_c40 hz hL hi hI hJ hb1 hb2 K) (tsw_c (fun _ => lw_c41 hz hL hi hI hJ hb1 hb2 K) (tsw_c (fun _ => lw_c42 hz hL hi hI hJ hb1 hb2 K) (tsw_c (fun _ => lw_c43 hz hL hi hI hJ hb1 hb2 K) (tsw_c (fun _ => lw_c44 hz hL hi hI hJ hb1 hb2 K) (tsw_c (fun _ => lw_c45 hz hL hi hI hJ hb1 hb2 K) (tsw_c (fun _ => lw_c46 hz hL hi hI hJ hb1 hb2 K) (tsw_c (fun _ => lw_c47 hz hL hi hI hJ hb1 hb2 K) (tsw_c (fun _ => lw_c48 hz hL hi hI hJ hb1 hb2 K) (trivial)))))))))))))))))))))))))))))))))))))))))))))))))
/-- the whole loop -/
theorem lw_loop (hz : z.1 b = some (L, f)) (hL : L ≤ 3072) (hQ : ∀ hs h, Q (some (vI 1)) hs h) : ∀ (k i : Nat) (t : TS) (hs : Nat) (h : Hp) (bc bs : Nat), L ≤ i + 6 * k + 5 → i ≤ 3072 → 60 * k ≤ bc → 500 * k ≤ bs → Inv t → lw_J z aX aM t hs h → mm_X z (mm_C z mm_mL mm_P 1300) tL_law Q 18 (lw_ls b aX aM (nt i)) [] hs h bc bs := by
  have hC := mm_C_mono (z := z) (mL := mm_mL) (P := mm_P) 1300
  have c6 : (Int8.ofInt 6).toInt32 = 6 := by decide
  have cmp : ∀ i, i ≤ 3072 → ((nt L - 6 < nt i) = (L < i + 6)) := fun i hi => by
    have h1 : (nt L - 6).toInt = (L : Int) - 6 := by rw [ni_sub (y := 6) (by rw [nt_int (by omega)]; show -2147483648 ≤ (L : Int) - 6; omega) (by rw [nt_int (by omega)]; show (L : Int) - 6 < 2147483648; omega), nt_int (by omega)]; rfl
    rw [ni_lt, h1, nt_int (by omega)]
    exact propext ⟨fun q => by omega, fun q => by omega⟩
  intro k
  induction k with
  | zero =>
    intro i t hs h bc bs hLi hi hb1 hb2 hI hJ
    refine rx_ld (v := vI (nt i)) (i := 3) (kd := 0) (n := 1) hC (show tL_law 18 = some (.iload_n 3, 1, 0, 0, 0) from rfl) rfl rfl rfl ?_
    refine rx_ld (v := vR (some b)) (i := 0) (kd := 2) (n := 1) hC (show tL_law 19 = some (.aload_n 0, 1, 0, 0, 0) from rfl) rfl rfl rfl ?_
    refine rx_alenZ (r := (L, f)) hC (show tL_law 20 = some (.arraylength, 1, 0, 0, 0) from rfl) rfl hz ?_
    refine rx_push (v := vI (Int8.ofInt 6).toInt32) (n := 2) hC (show tL_law 21 = some (.bipush 6, 2, 0, 0, 0) from rfl) rfl ?_
    refine rx_ii (f := (· - ·)) hC (show tL_law 23 = some (.isub, 1, 0, 0, 0) from rfl) rfl ?_
    refine rx_icmp (t := 1988) hC (show tL_law 24 = some (.if_icmp .gt 1964, 3, 1988, 0, 0) from rfl) rfl (fun _ => ?_) (fun g => absurd (show nt L - (Int8.ofInt 6).toInt32 < nt i by rw [c6, cmp i hi]; omega) g)
    refine rx_push (v := vI (Int32.ofInt 1)) (n := 1) hC (show tL_law 1988 = some (.iconst 1, 1, 0, 0, 0) from rfl) rfl ?_
    exact rx_zret hC (show tL_law 1989 = some (.ireturn, 1, 1, 0, 0) from rfl) rfl (Or.inr rfl) (hQ _ _)
  | succ k ih =>
    intro i t hs h bc bs hLi hi hb1 hb2 hI hJ
    refine rx_ld (v := vI (nt i)) (i := 3) (kd := 0) (n := 1) hC (show tL_law 18 = some (.iload_n 3, 1, 0, 0, 0) from rfl) rfl rfl rfl ?_
    refine rx_ld (v := vR (some b)) (i := 0) (kd := 2) (n := 1) hC (show tL_law 19 = some (.aload_n 0, 1, 0, 0, 0) from rfl) rfl rfl rfl ?_
    refine rx_alenZ (r := (L, f)) hC (show tL_law 20 = some (.arraylength, 1, 0, 0, 0) from rfl) rfl hz ?_
    refine rx_push (v := vI (Int8.ofInt 6).toInt32) (n := 2) hC (show tL_law 21 = some (.bipush 6, 2, 0, 0, 0) from rfl) rfl ?_
    refine rx_ii (f := (· - ·)) hC (show tL_law 23 = some (.isub, 1, 0, 0, 0) from rfl) rfl ?_
    refine rx_icmp (t := 1988) hC (show tL_law 24 = some (.if_icmp .gt 1964, 3, 1988, 0, 0) from rfl) rfl (fun _ => ?_) (fun g => ?_)
    · refine rx_push (v := vI (Int32.ofInt 1)) (n := 1) hC (show tL_law 1988 = some (.iconst 1, 1, 0, 0, 0) from rfl) rfl ?_
      exact rx_zret hC (show tL_law 1989 = some (.ireturn, 1, 1, 0, 0) from rfl) rfl (Or.inr rfl) (hQ _ _)
    · have g' : ¬ (nt L - (Int8.ofInt 6).toInt32 < nt i) := g
      rw [c6, cmp i hi] at g'
      have hi6 : i + 6 ≤ L := by omega
      have next : ∀ t2 hs' h' bc' bs', 60 * k ≤ bc' → 500 * k ≤ bs' → Inv t2 → lw_J z aX aM t2 hs' h' → mm_X z (mm_C z mm_mL mm_P 1300) tL_law Q 1982 (lw_ls b aX aM (nt i)) [] hs' h' bc' bs' := by
        intro t2 hs' h' bc' bs' q1 q2 q3 q4
        refine rx_iinc (x := nt i) (i := 3) (n := 6) (ls' := lw_ls b aX aM (nt (i + 6))) hC (show tL_law 1982 = some (.iinc 3 6, 3, 0, 0, 0) from rfl) rfl rfl ?_ ?_
        · show lw_ls b aX aM (nt i + Int32.ofInt 6) = _
          rw [show Int32.ofInt (6 : Int) = nt 6 from it_nt 6, nt_add]
        refine rx_goto (t := 18) hC (show tL_law 1985 = some (.goto (-1967), 3, 18, 0, 0) from rfl) rfl ?_
        exact ih (i + 6) t2 hs' h' bc' bs' (by omega) (by omega) q1 q2 q3 q4
      exact lw_turn hz hL hi6 hI hJ (by omega) (by omega) (next t hs h bc bs (by omega) (by omega) hI hJ) (fun t2 hs' h' q3 q4 => next t2 hs' h' _ _ (by omega) (by omega) q3 q4)
end
