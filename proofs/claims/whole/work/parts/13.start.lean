/-! PART 13: the claim out of a run of the law's table in the small machine. -/
theorem mm_fcb {args : Array Value} {s : State} (hgv : (Jvm.Cond.and given_1 narrow_1).before args s = true) {j : Nat} {w : Jvm.Cond} (h : mm_fc[j]? = some w) : w.before args s = true := flat_of_before _ hgv w (List.mem_of_getElem? h)
theorem mm_eqR {args : Array Value} {s : State} {t u : Term} {a : Nat} (h : (Jvm.Cond.eq t u).before args s = true) (ht : t.eval args s none [] s = some (.ref a)) : u.eval args s none [] s = some (.ref a) := by
  cases hv : u.eval args s none [] s with
  | none => simp [Cond.before, Cond.holds, Cond.value, ht, hv] at h
  | some w =>
    simp only [Cond.before, Cond.holds, Cond.value, ht, hv] at h
    cases w <;> simp_all
def mm_roP (s : State) (B a : Nat) (q : Nat × (Nat → Int32)) : Prop := q.1 < 2 ^ 31 ∧ va_T .int a q.1 (fun j => .int (q.2 j)) (fun x => B ≤ x) s s.heap
noncomputable def mm_ro (s : State) (B : Nat) : Nat → Option (Nat × (Nat → Int32)) := fun a => @dite _ (∃ q, mm_roP s B a q) (Classical.propDecidable _) (fun h => some (Classical.choose h)) (fun _ => none)
theorem mm_ro_s {s : State} {B a : Nat} {q : Nat × (Nat → Int32)} (h : mm_ro s B a = some q) : mm_roP s B a q := by
  by_cases hx : ∃ q, mm_roP s B a q
  · have e : mm_ro s B a = some (Classical.choose hx) := dif_pos hx
    rw [e] at h
    cases h
    exact Classical.choose_spec hx
  · have e : mm_ro s B a = none := dif_neg hx
    rw [e] at h
    cases h
theorem mm_ro_of {s : State} {B a n : Nat} {F : Nat → Int32} (hn : n < 2 ^ 31) (h : va_T .int a n (fun j => .int (F j)) (fun x => B ≤ x) s s.heap) : ∃ f, mm_ro s B a = some (n, f) ∧ ∀ j, j < n → f j = F j := by
  have hx : ∃ q, mm_roP s B a q := ⟨(n, F), hn, h⟩
  have e : mm_ro s B a = some (Classical.choose hx) := dif_pos hx
  obtain ⟨g1, cell, c1, -, -, c4, c5, c6, -⟩ := Classical.choose_spec hx
  obtain ⟨cell2, d1, -, -, d4, d5, d6, -⟩ := h
  cases c1.symm.trans d1
  have hlen : (Classical.choose hx).1 = n := (nI_eq g1 hn).mp (c5.symm.trans d5)
  refine ⟨(Classical.choose hx).2, by rw [e]; rw [← hlen], fun j hj => ?_⟩
  have h1 := c6 j (by rw [hlen]; exact hj)
  have h2 := d6 j hj
  rw [h1] at h2
  injection h2 with h2
  injection h2
theorem mm_static {args : Array Value} {s : State} (hts : ∀ w ∈ lw_tbl, w.before args s = true) (hgv : (Jvm.Cond.and given_1 narrow_1).before args s = true) {C n : String} {i N a b j1 j2 : Nat} (hN : (mm_sv i).length = N) (hN2 : N < 2 ^ 31)
    (h : mm_fc[a]? = some (Jvm.Cond.arrayOf (Term.static C n "[I") .int) ∧ mm_fc[a + 1]? = some (Jvm.Cond.eq (Term.length (Term.static C n "[I")) (Term.int (Int32.ofNat N))) ∧ lw_tbl[j1]? = some (Jvm.Cond.laysStatic C n "[I") ∧ lw_tbl[j2]? = some (Jvm.Cond.initialized C))
    (he : ∀ j, j < N → mm_fc[b + j]? = some (Jvm.Cond.eq (Term.elem (Term.static C n "[I") (Term.int (Int32.ofNat j))) (Term.int ((mm_sv i).getD j 0)))) :
    ∃ t : Nat, va_Z C n "[I" (.ref t) (fun q => s.heap.size ≤ q) s s.heap ∧ va_T .int t (mm_sv i).length (fun j => .int ((mm_sv i).getD j 0)) (fun q => s.heap.size ≤ q) s s.heap := by
  obtain ⟨h1, h2, h3, h4⟩ := h
  have hA : ∀ a : Nat, a < s.heap.size → ¬ s.heap.size ≤ a := fun a g => Nat.not_le.mpr g
  obtain ⟨t, ht, hT⟩ := va_Tof (f := fun j => .int ((mm_sv i).getD j 0)) (A := fun q => s.heap.size ≤ q) hN2 (mm_fcb hgv h1) (va_eqt (mm_fcb hgv h2)) (fun j hj => va_eqt (mm_fcb hgv (he j hj))) hA
  refine ⟨t, va_Zof (hts _ (List.mem_of_getElem? h3)) (hts _ (List.mem_of_getElem? h4)) ht hA, ?_⟩
  rw [hN]
  exact hT
theorem mm_start_Kn {args : Array Value} {s : State} (hts : ∀ w ∈ lw_tbl, w.before args s = true) (hgv : (Jvm.Cond.and given_1 narrow_1).before args s = true) :
    ∃ (D : va_G) (cA : Nat → ClassId) (t : Nat → Nat), mm_Kn D cA s.heap.size (mm_ro s s.heap.size, t) s s.heap ∧ ∀ i, i < 5 → va_T .int (t i) (mm_sv i).length (fun j => .int ((mm_sv i).getD j 0)) (fun q => s.heap.size ≤ q) s s.heap := by
  have hA : ∀ a : Nat, a < s.heap.size → ¬ s.heap.size ≤ a := fun a g => Nat.not_le.mpr g
  have hw : ∀ {j : Nat} {w : Jvm.Cond}, lw_tbl[j]? = some w → w.before args s = true := fun h => hts _ (List.mem_of_getElem? h)
  -- classes
  have hc : ∀ ci : Nat, ∃ q : ClassId × (Nat → Nat), ∀ r : vw_C, vwCl[ci]? = some r → u_Kn s r.1 r.2.1 r.2.2 q.1 q.2 := by
    intro ci
    by_cases h14 : ci < 14
    · obtain ⟨r, hr1, hr2⟩ := mm_c_at ci h14
      have hi := hw (mm_in_ok ci h14)
      rw [hr2, ← mm_c_on _ _ hr1] at hi
      obtain ⟨cC, iS, h⟩ := u_known (C := r.1) (T := r.2.1) (N := r.2.2) (n := r.2.2) hts (fun w g => mm_T_sub w (mm_c_lay _ _ hr1 w g)) hi
      exact ⟨(cC, iS), fun r' hr' => by cases hr1.symm.trans hr'; exact h⟩
    · exact ⟨(0, fun _ => 0), fun r hr => absurd (List.getElem?_eq_some_iff.mp hr).1 h14⟩
  obtain ⟨D0, hD0⟩ := Classical.axiomOfChoice hc
  -- arrays
  have ha : ∀ k : Nat, ∃ q : ClassId, 19 < k → k < 29 → ArrOfT s q (mm_aty k) ∧ va_RA s q (mm_aty k) := by
    intro k
    by_cases hk : 19 < k ∧ k < 29
    · by_cases hk2 : k < 24
      · have h := hw (mm_aj_ok.1 (k - 20) (by omega))
        rw [show 20 + (k - 20) = k by omega] at h
        obtain ⟨c, kA, comp, h1, h2, h3⟩ := Cond.arrayClass_spec h
        refine ⟨c, fun _ _ => ⟨fun n z => ⟨fun k h => (by cases h), kA, h2, comp, h3⟩, ?_⟩⟩
        have : k = 20 ∨ k = 21 ∨ k = 22 ∨ k = 23 := by omega
        rcases this with g | g | g | g <;> subst g <;> exact h1
      · have h := hw (mm_aj_ok.2 (k - 24) (by omega))
        rw [show 24 + (k - 24) = k by omega] at h
        obtain ⟨comp, c, kA, h1, -, h3, h4, h5⟩ := Cond.arrayOver_spec h
        refine ⟨c, fun _ _ => ?_⟩
        rw [mm_aty_q (by omega) hk.2]
        exact ⟨fun n z => ⟨fun k h => (by cases h), kA, h3, comp, h4⟩, kA, comp, h3, h4, h1, h5⟩
    · exact ⟨0, fun h1 h2 => absurd ⟨h1, h2⟩ hk⟩
  obtain ⟨cA, hcA⟩ := Classical.axiomOfChoice ha
  -- statics
  obtain ⟨t0, z0, v0⟩ := mm_static hts hgv (i := 0) rfl (by decide) mm_s0_a mm_s0_e
  obtain ⟨t1, z1, v1⟩ := mm_static hts hgv (i := 1) rfl (by decide) mm_s1_a mm_s1_e
  obtain ⟨t2, z2, v2⟩ := mm_static hts hgv (i := 2) rfl (by decide) mm_s2_a mm_s2_e
  obtain ⟨t3, z3, v3⟩ := mm_static hts hgv (i := 3) rfl (by decide) mm_s3_a mm_s3_e
  obtain ⟨t4, z4, v4⟩ := mm_static hts hgv (i := 4) rfl (by decide) mm_s4_a mm_s4_e
  -- the text
  obtain ⟨a1, a2, a3, a4⟩ := mm_t_a
  obtain ⟨b1, b2, b3, b4, b5, b6⟩ := mm_t_q
  obtain ⟨adK, adV, hS, hK⟩ := vk_Sof (N := 1) (tm := fun _ => Term.string "PlayerMoves" 548) (len := [12]) (byt := [mm_nm]) (A := fun q => s.heap.size ≤ q) (args := args) (s := s)
    (fun i hi => by rw [show i = 0 by omega]; decide) (fun i _ => mm_fcb hgv a1) (fun i _ => mm_fcb hgv a2) (fun i _ => mm_fcb hgv a3) (fun i hi => by rw [show i = 0 by omega]; exact mm_fcb hgv a4)
    (fun i hi j hj => by rw [show i = 0 by omega] at hj ⊢; exact mm_fcb hgv (mm_t_e j hj)) (fun i j hi hj hij => absurd (by omega) hij) hA
  have hk0 := hK 0 (by decide)
  have hk1 := mm_eqR (mm_fcb hgv b1) hk0
  refine ⟨(fun ci => (D0 ci).1, fun ci => (D0 ci).2), cA, fun i => if i = 0 then t0 else if i = 1 then t1 else if i = 2 then t2 else if i = 3 then t3 else if i = 4 then t4 else if i = 100 then adK 0 else adV 0, ⟨⟨fun ci r hr => hD0 ci r hr, ?_⟩, ?_, ?_, ?_, ?_, ?_, ?_, ?_, ?_⟩, ?_⟩
  · intro k q hq
    have hlt : k < 9 := (List.getElem?_eq_some_iff.mp hq).1
    have h1 := mm_tys_at cA (k := 20 + k) (by omega) (by omega)
    rw [show 20 + k - 20 = k by omega] at h1
    cases hq.symm.trans h1
    exact hcA (20 + k) (by omega) (by omega)
  · intro a n f h
    exact (mm_ro_s h).2
  · intro i q hq
    have hlt : i < 5 := (List.getElem?_eq_some_iff.mp hq).1
    have : i = 0 ∨ i = 1 ∨ i = 2 ∨ i = 3 ∨ i = 4 := by omega
    rcases this with g | g | g | g | g <;> subst g <;> cases hq
    · exact z0
    · exact z1
    · exact z2
    · exact z3
    · exact z4
  · intro q hq
    rcases mm_nF_ok q hq with g | g <;> exact va_Nw.of rfl (hw g)
  · intro q hq h2
    exact va_Nw.of rfl (hw (mm_nM_ok q hq h2))
  · intro k h1 h2
    have h := hw (mm_aj_ok.2 (k - 24) (by omega))
    rw [show 24 + (k - 24) = k by omega] at h
    exact va_AO.of h
  · intro q hq
    have hq2 : q = (12, 548) ∨ q = (7, 92) := by
      simp [mm_ss] at hq
      rcases hq with g | g <;> simp [g]
    rcases hq2 with g | g <;> subst g
    · exact vk_R.of (hw b5) hk0
    · exact vk_R.of (hw b6) hk1
  · refine ⟨fun i hi => ?_, fun i j hi hj _ => by omega⟩
    have h := hS.1 0 (by decide)
    rw [show i = 0 by omega]
    exact h
  · exact va_Zof (hw b3) (hw b4) (va_eqi (mm_fcb hgv b2)) hA
  · intro i hi
    have : i = 0 ∨ i = 1 ∨ i = 2 ∨ i = 3 ∨ i = 4 := by omega
    rcases this with g | g | g | g | g <;> subst g
    · exact v0
    · exact v1
    · exact v2
    · exact v3
    · exact v4
/-- what the small machine's law may take of arrays that nobody writes: the script, the five statics -/
def mm_zok (z : Rm) (B b L : Nat) (xs : Nat → Int32) : Prop := (∃ f, z.1 b = some (L, f) ∧ ∀ j, j < L → f j = xs j) ∧ (∀ i, i < 5 → ∃ f, z.1 (z.2 i) = some ((mm_sv i).length, f) ∧ ∀ j, j < (mm_sv i).length → f j = (mm_sv i).getD j 0) ∧ ∀ a q, z.1 a = some q → a < B
def hp_0 : Hp := (fun _ => 0, fun _ _ => 0, fun _ _ => none, fun _ => 0, fun _ _ => 0, fun _ _ => 0, fun _ _ => none)
/-- THE CLAIM, of the small machine: on every script the law's table runs to 1 within the room -/
def mm_Law : Prop := ∀ (z : Rm) (B b L : Nat) (xs : Nat → Int32), L ≤ 3072 → mm_zok z B b L xs → ∃ d, d ≤ 1300 ∧ mm_X z (mm_C z mm_mL mm_P d) tL_law (fun r _ _ => r = some (vI 1)) 0 [some (vR (some b)), none, none, none] [] B hp_0 600000 7302250
theorem mm_P_ok : mm_PT mm_P := mm_PT_P
theorem whole_start_open (hLaw : mm_Law) {p : Program} {e : Env} {s : State} {m : MethodId} {below : List Frame} {meth : Method} {c : Code} (l : Launch) {b L : Nat} {xs : Nat → Int32} (hL : L ≤ 3072) (C0 : lw_At p s m meth c b L xs) : W p l e room_1 s m #[Value.ref b] below meth c s.heap [] 0 0 (lw_Z below #[Value.ref b] s) (entryFrame m ([Value.ref b] : List Value).toArray 4) := by
  obtain ⟨hx, hb, hr, hml, hown, hts, hXs, hbl, hlocks, hgv⟩ := C0
  obtain ⟨D, cA, t, hKn, hst⟩ := mm_start_Kn hts hgv
  have hscr : va_T .int b L (fun j => .int (xs j)) (fun q => s.heap.size ≤ q) s s.heap := by
    obtain ⟨scr, h1, h2, h3, h4, h5⟩ := hXs
    exact ⟨scr, h1, h2, h3, by omega, by rw [h4], h5, Nat.not_le.mpr hbl⟩
  have hz : mm_zok (mm_ro s s.heap.size, t) s.heap.size b L xs := by
    refine ⟨mm_ro_of (by omega) hscr, fun i hi => mm_ro_of ?_ (hst i hi), fun a q h => ?_⟩
    · have : i = 0 ∨ i = 1 ∨ i = 2 ∨ i = 3 ∨ i = 4 := by omega
      rcases this with g | g | g | g | g <;> subst g <;> decide
    · obtain ⟨-, cell, g1, -⟩ := mm_ro_s h
      exact (Array.getElem?_eq_some_iff.mp g1).1
  obtain ⟨d, hd, hrun⟩ := hLaw _ _ _ _ _ hL hz
  have X : mm_Cx p s m #[Value.ref b] meth c code 4 14 D cA s.heap.size (mm_ro s s.heap.size, t) := ⟨hx, hb, hml, hown, fun w hw => hts w (mm_T_sub w hw), hKn, Nat.le_refl _, hlocks⟩
  have hCS : mm_CS l D cA s.heap.size (mm_ro s s.heap.size, t) (d + 3) (mm_C (mm_ro s s.heap.size, t) mm_mL mm_P d) := mm_CS_all mm_P_ok d
  obtain ⟨hloc, hll⟩ := mm_loc_ok (as := [vR (some b)]) (n := 4) (by show 1 ≤ 4; decide)
  rw [lg_entry_eq]
  refine mm_run (QQ := lw_Z below #[Value.ref b] s) (R := room_1) X (ini := false) (ret := some .boolean) (fun g => by cases g) hCS (by omega) ⟨by show d + 3 + 2 ≤ 2048; omega, by show 60 * (d + 3) + 100 ≤ 84000; omega⟩ ?_ (fun _ _ g => by cases g) (fun _ _ t g g2 => by cases g; cases g2) (fun _ _ g => by cases g) okL_law 0 [some (vR (some b)), none, none, none] [] s.heap.size hp_0 600000 7302250 hrun s.heap [] 0 0 _ rfl (fun a ha => absurd rfl ha) va_S.rf hloc hll (by show 0 + 600000 ≤ 600000; omega) (by show 0 + 7302250 ≤ 7302250; omega)
  intro pc k y hy hd1 hk ls st hs h bc bs hf
  unfold mm_iret at hf
  split at hf
  · rename_i v
    have hv : v = 1 := by
      exact Sum.inl.inj (Option.some.inj hf.2.2)
    subst hv
    intro H locs cells slots A e1 e2 e3 e4 e5 e6 e7
    refine va_forget (fun q hq => e3.2.2 q hq) ?_
    have h6 : room_1.cells = 600000 := rfl
    have h7 : room_1.slots = 7302250 := rfl
    refine W.widen (k := 600000) (n := 7302250) (by omega) (by omega) ?_
    exact lw_ret hx hb hr hlocks hd1
  · exact hf.elim
