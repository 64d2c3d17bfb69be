/-! PART 05: steps that read and write the heap. -/
theorem mm_cls {P : Nat → vw_C → Prop} (h0 : P 0 (RX0, TX0, 2)) (h1 : P 1 (RX1, TX1, 13)) (h2 : P 2 (RX2, TX2, 5)) (h3 : P 3 (RX3, TX3, 6)) (h4 : P 4 (RX4, TX4, 6)) (h5 : P 5 (RX5, TX5, 4)) (h6 : P 6 (RX6, TX6, 20)) (h7 : P 7 (RX7, TX7, 8)) (h8 : P 8 (RX8, TX8, 5)) (h9 : P 9 (RX9, TX9, 5)) (h10 : P 10 (RX10, TX10, 5)) (h11 : P 11 (RX11, TX11, 9)) (h12 : P 12 (RX12, TX12, 20)) (h13 : P 13 (RX13, TX13, 97)) :
    ∀ (ci : Nat) (q : vw_C), vwCl[ci]? = some q → P ci q := by
  intro ci q hq
  match ci, hq with
  | 0, hq => cases hq; exact h0
  | 1, hq => cases hq; exact h1
  | 2, hq => cases hq; exact h2
  | 3, hq => cases hq; exact h3
  | 4, hq => cases hq; exact h4
  | 5, hq => cases hq; exact h5
  | 6, hq => cases hq; exact h6
  | 7, hq => cases hq; exact h7
  | 8, hq => cases hq; exact h8
  | 9, hq => cases hq; exact h9
  | 10, hq => cases hq; exact h10
  | 11, hq => cases hq; exact h11
  | 12, hq => cases hq; exact h12
  | 13, hq => cases hq; exact h13
  | k + 14, hq => simp [vwCl] at hq
theorem mm_c_lay : ∀ (ci : Nat) (q : vw_C), vwCl[ci]? = some q → ∀ w ∈ u_ws q.1 q.2.1 q.2.2, w ∈ mm_T := by
  have go : ∀ (q : vw_C), (∀ k, k < q.2.2 → u_lay q.1 q.2.1 k ∈ mm_T) → ∀ w ∈ u_ws q.1 q.2.1 q.2.2, w ∈ mm_T := by
    intro q hq w hw
    obtain ⟨k, hk, rfl⟩ := List.mem_map.mp hw
    exact hq k (List.mem_range.mp hk)
  exact mm_cls (P := fun _ q => ∀ w ∈ u_ws q.1 q.2.1 q.2.2, w ∈ mm_T) (go _ mm_lay_0) (go _ mm_lay_1) (go _ mm_lay_2) (go _ mm_lay_3) (go _ mm_lay_4) (go _ mm_lay_5) (go _ mm_lay_6) (go _ mm_lay_7) (go _ mm_lay_8) (go _ mm_lay_9) (go _ mm_lay_10) (go _ mm_lay_11) (go _ mm_lay_12) (go _ mm_lay_13)
theorem mm_c_100 : ∀ (ci : Nat) (q : vw_C), vwCl[ci]? = some q → q.2.2 ≤ 100 := mm_cls (P := fun _ q => q.2.2 ≤ 100) (by decide) (by decide) (by decide) (by decide) (by decide) (by decide) (by decide) (by decide) (by decide) (by decide) (by decide) (by decide) (by decide) (by decide)
theorem mm_c_dft : ∀ (ci : Nat) (q : vw_C), vwCl[ci]? = some q → ∀ k, k < q.2.2 → defaultValue (mm_ty ci k) = (bif mm_isR (mm_ty ci k) then Value.null else .int 0) := mm_cls (P := fun ci q => ∀ k, k < q.2.2 → defaultValue (mm_ty ci k) = (bif mm_isR (mm_ty ci k) then Value.null else .int 0)) mm_dft0 mm_dft1 mm_dft2 mm_dft3 mm_dft4 mm_dft5 mm_dft6 mm_dft7 mm_dft8 mm_dft9 mm_dft10 mm_dft11 mm_dft12 mm_dft13
theorem mm_c_nm : ∀ (ci : Nat) (q : vw_C), vwCl[ci]? = some q → ∀ a, a < q.2.2 → ∀ b, b < q.2.2 → a ≠ b → (q.2.1 a).2.1 ≠ (q.2.1 b).2.1 := mm_cls nmX0 nmX1 nmX2 nmX3 nmX4 nmX5 nmX6 nmX7 nmX8 nmX9 nmX10 nmX11 nmX12 nmX13
theorem mm_c_ty : ∀ (ci : Nat) (q : vw_C), vwCl[ci]? = some q → ∀ k, k < q.2.2 → parseFieldDescriptor (q.2.1 k).2.2.1 = some (mm_ty ci k) := mm_cls (P := fun ci q => ∀ k, k < q.2.2 → parseFieldDescriptor (q.2.1 k).2.2.1 = some (mm_ty ci k)) tyX0_ok tyX1_ok tyX2_ok tyX3_ok tyX4_ok tyX5_ok tyX6_ok tyX7_ok tyX8_ok tyX9_ok tyX10_ok tyX11_ok tyX12_ok tyX13_ok
theorem mm_c_on : ∀ (ci : Nat) (q : vw_C), vwCl[ci]? = some q → q.1 = mm_on ci := mm_cls (P := fun ci q => q.1 = mm_on ci) rfl rfl rfl rfl rfl rfl rfl rfl rfl rfl rfl rfl rfl rfl
theorem mm_c_at : ∀ ci, ci < 14 → ∃ q, vwCl[ci]? = some q ∧ mm_fN ci = q.2.2 := by
  intro ci h
  have h1 : ci < vwCl.length := h
  exact ⟨vwCl[ci], List.getElem?_eq_getElem h1, by unfold mm_fN; rw [List.getElem?_eq_getElem h1]⟩
def hp_fs (h : Hp) (ci n a : Nat) : List Value := (List.range n).map (fun k => hp_f h (100 * ci + k) a)
theorem hp_obj {D : va_G} {cA : Nat → ClassId} {B : Nat} {h : Hp} {H : Heap} (hW : hp_W D cA B h H) {a ci : Nat} (ha : hp_K h a = ci + 1) {q : vw_C} (hq : vwCl[ci]? = some q) : va_P D vwCl [(a, .inr (ci, hp_fs h ci q.2.2 a))] H := by
  have hci : ci < 14 := (List.getElem?_eq_some_iff.mp hq).1
  obtain ⟨-, -, h2⟩ := hW a (by omega)
  obtain ⟨q', e1, e2⟩ := h2 (by omega)
  rw [show hp_K h a - 1 = ci by omega] at e1 e2
  cases hq.symm.trans e1
  intro k x hx
  have hz : k < 1 := (List.getElem?_eq_some_iff.mp hx).1
  rw [show k = 0 by omega] at hx
  cases hx
  refine ⟨q, hq, e2.to fun k hk => ?_⟩
  simp [vp_V, hp_fs, hk]
theorem hp_arr {D : va_G} {cA : Nat → ClassId} {B : Nat} {h : Hp} {H : Heap} (hW : hp_W D cA B h H) {a : Nat} (ha : 19 < hp_K h a) : hp_K h a < 29 ∧ H[a]? = some (arrV (cA (hp_K h a)) (hp_L h a) (hp_e h a)) := (hW a (by omega)).2.1 ha
theorem hp_one {D : va_G} {H : Heap} {a : Nat} {cA : ClassId} {x : vp_A} (h : H[a]? = some (vp_cell cA x)) : va_P D vwCl [(a, .inl (cA, x))] H := by
  intro k q hq
  have hz : k < 1 := (List.getElem?_eq_some_iff.mp hq).1
  rw [show k = 0 by omega] at hq
  cases hq
  exact h
theorem hp_e_i {h : Hp} {a : Nat} (ha : hp_K h a < 23) : hp_e h a = fun j => .int (hp_A h a j) := by
  funext j
  unfold hp_e
  rw [if_neg (by omega), if_pos ha]
theorem hp_e_j {h : Hp} {a : Nat} (ha : hp_K h a = 23) : hp_e h a = fun j => .long (hp_J h a j) := by
  funext j
  unfold hp_e
  rw [if_pos ha]
theorem hp_e_q {h : Hp} {a : Nat} (ha : 23 < hp_K h a) : hp_e h a = fun j => va_rf (hp_Q h a j) := by
  funext j
  unfold hp_e
  rw [if_neg (by omega), if_neg (by omega)]
theorem hp_at_congr {D : va_G} {cA : Nat → ClassId} {h h' : Hp} {a : Nat} {H H' : Heap} (hk : hp_K h' a = hp_K h a) (hf : ∀ x, hp_f h' x a = hp_f h x a) (hl : hp_L h' a = hp_L h a) (he : hp_e h' a = hp_e h a) (hq : H'[a]? = H[a]?) (h0 : hp_at D cA h a H) : hp_at D cA h' a H' := by
  refine ⟨fun g => ?_, fun g => ?_⟩
  · rw [hk] at g ⊢
    rw [hl, he, hq]
    exact h0.1 g
  · rw [hk] at g ⊢
    obtain ⟨q, e1, e2⟩ := h0.2 g
    refine ⟨q, e1, (e2.kept hq).to fun k _ => (hf _).symm⟩
section MMB
variable {p : Program} {l : Launch} {e : Env} {R : Room} {s : State} {m : MethodId} {args : Array Value} {below : List Frame} {meth : Method} {c : Code} {D : va_G} {cA : Nat → ClassId} {B : Nat} {QQ : State → Prop}
variable {cc : ByteArray} {nL own : Nat} {z : Rm} {pc : Nat} {ls : List (Option MV)} {st : List MV} {hs : Nat} {h : Hp} {bc bs : Nat} {C : Ct} {Q : Qt} {k : Kt}
theorem mm_word (X : mm_Cx p s m args meth c cc nL own D cA B z) {j : Nat} {w : Jvm.Cond} (h : lw_tbl[j]? = some w) (g : goodWord w = true) : w.before args s = true := X.2.2.2.2.1 w (mm_mem h g)
theorem so_getf (X : mm_Cx p s m args meth c cc nL own D cA B z) {idx x y j : Nat} (hq : (own, idx, x, j) ∈ mm_fl) (hx : x / 100 < 14) (hx2 : x % 100 < mm_fN (x / 100)) (hy : (y = 0 ∧ mm_isR (mm_fty x) = false) ∨ (y = 2 ∧ mm_isR (mm_fty x) = true)) (hd : decode cc pc = .ok (.getfield idx, 3)) : mm_Ok p l e R s m args below meth c D cA B nL QQ C k Q pc (mm_getf x y) := by
  intro hk ls st hs h bc bs hf
  unfold mm_getf at hf
  split at hf
  · rename_i a st'
    obtain ⟨f1, f2⟩ := hf
    obtain ⟨q, hq1, hq2⟩ := mm_c_at _ hx
    rw [hq2] at hx2
    have hl := mm_word X (mm_fl_ok _ hq) rfl
    have hT : mm_fT x = q.2.1 (x % 100) := by unfold mm_fT; rw [hq1]
    have hval : hp_f h (100 * (x / 100) + x % 100) a = hp_f h x a := by rw [Nat.div_add_mod]
    have go : mm_G p l e R s m args below meth c D cA B nL QQ (pc + 3) ls ((if y = 0 then vI (hp_I h x a) else vR (hp_R h x a)) :: st') hs h bc bs := by
      rcases hy with ⟨hy, -⟩ | ⟨hy, -⟩ <;> subst hy <;> exact hk _ _ _ _ _ _ _ f2
    have hv : mm_v (if y = 0 then vI (hp_I h x a) else vR (hp_R h x a)) = hp_f h x a := by
      unfold hp_f
      rcases hy with ⟨hy, hr⟩ | ⟨hy, hr⟩ <;> subst hy <;> rw [hr] <;> rfl
    intro H locs cells slots A e1 e2 e3 e4 e5 e6 e7
    refine va_get (q0 := 0) (ci := x / 100) (C := q.1) (T := q.2.1) (N := q.2.2) (own := mm_on own) (ref := (q.2.1 (x % 100)).1) (index := idx) X.1 X.2.1 X.2.2.2.2.1 (mm_c_lay _ _ hq1) X.2.2.2.1 X.2.2.2.2.2.1.1 (hp_obj e2 f1 hq1) rfl hq1 (x % 100) hx2 ?_ (fun _ g => g) (v := hp_f h x a) ?_ hd ?_
    · rw [hT] at hl
      exact hl
    · simp [hp_fs, hx2, hval]
    · have w := go H locs cells slots A e1 e2 e3 e4 e5 e6 e7
      rw [List.map_cons, hv] at w
      exact w
  · exact hf.elim
/-- one cell is written -/
theorem hp_W_put {h h' : Hp} {H H' : Heap} {a : Nat} (hW : hp_W D cA B h H) (hK : hp_K h' = hp_K h) (hf : ∀ x b, ¬ b = a → hp_f h' x b = hp_f h x b) (hl : hp_L h' = hp_L h) (he : ∀ b, ¬ b = a → hp_e h' b = hp_e h b) (ha : hp_at D cA h' a H') (hq : ∀ q, q ≠ a → H'[q]? = H[q]?) : hp_W D cA B h' H' := by
  intro b hb
  by_cases hba : b = a
  · subst hba
    exact ⟨(hW b (by rw [← hK]; exact hb)).1, ha⟩
  · have h1 := hW b (by rw [← hK]; exact hb)
    exact ⟨h1.1, hp_at_congr (by rw [hK]) (fun x => hf x b hba) (by rw [hl]) (he b hba) (hq b hba) h1.2⟩
theorem so_putf0 (X : mm_Cx p s m args meth c cc nL own D cA B z) {idx x j : Nat} (hq : (own, idx, x, j) ∈ mm_fl) (hx : x / 100 < 14) (hx2 : x % 100 < mm_fN (x / 100)) (hfin : (mm_fT x).2.2.2 = false ∨ (meth.name = "<init>" ∧ (mm_fT x).1 = mm_on own)) (hd : decode cc pc = .ok (.putfield idx, 3))
    {v : MV} {a : Nat} {st' : List MV} {h h' : Hp} (ha : hp_K h a = x / 100 + 1) (hn : narrow (mm_fty x) (mm_v v) = mm_v v) (hfit : fits (mm_fty x) (mm_v v) = true) (hK : hp_K h' = hp_K h) (hL : hp_L h' = hp_L h) (he : hp_e h' = hp_e h) (hfx : hp_f h' x a = mm_v v) (hfo : ∀ x' b, ¬ (x' = x ∧ b = a) → hp_f h' x' b = hp_f h x' b)
    (hk : mm_G p l e R s m args below meth c D cA B nL QQ (pc + 3) ls st' hs h' bc bs) : mm_G p l e R s m args below meth c D cA B nL QQ pc ls (v :: vR (some a) :: st') hs h bc bs := by
  obtain ⟨q, hq1, hq2⟩ := mm_c_at _ hx
  rw [hq2] at hx2
  have hl := mm_word X (mm_fl_ok _ hq) rfl
  have hT : mm_fT x = q.2.1 (x % 100) := by unfold mm_fT; rw [hq1]
  rw [hT] at hl hfin
  have hap := va_apart (own := mm_on own) X.2.2.2.2.1 (mm_c_lay _ _ hq1) (mm_ty (x / 100)) (mm_c_ty _ _ hq1) (mm_c_nm _ _ hq1) X.2.2.2.2.2.1.1 hq1
  intro H locs cells slots A e1 e2 e3 e4 e5 e6 e7
  obtain ⟨hB, -, h2⟩ := e2 a (by omega)
  obtain ⟨q', g1, cell, q1, qq2, q3, q4⟩ := h2 (by omega)
  rw [show hp_K h a - 1 = x / 100 by omega] at g1 qq2 q4
  cases hq1.symm.trans g1
  obtain ⟨hS, hfc, kC, hkC, hkind⟩ := X.2.2.2.2.2.1.1.1 _ _ hq1
  obtain ⟨cf, kf, fi, f, hi, hsl⟩ := hS _ hx2
  have hlay := X.2.2.2.2.1 _ (mm_c_lay _ _ hq1 _ (u_in_lay hx2))
  have hd2 := mm_c_ty _ _ hq1 _ hx2
  have hty : mm_ty (x / 100) (x % 100) = mm_fty x := rfl
  rw [hty] at hd2
  have next : ∀ (H' : Heap) (locs' : List Loc), H'[a]? = some (cell.setSlot f.slot (mm_v v)) → H'.size = H.size → (∀ q, q ≠ a → H'[q]? = H[q]?) → (locs' = locs ++ [⟨a, f.slot⟩]) → W p l e R s m args below meth c H' locs' cells slots QQ (F0 m (pc + 3) A (st'.map mm_v)) := by
    intro H' locs' p1 p2 p3 p4
    rw [p4]
    refine hk H' _ cells slots A (by rw [p2]; exact e1) ?_ (e3.put p2 p3 hB) e4 e5 e6 e7
    refine hp_W_put e2 hK (fun x' b hb => hfo x' b (fun n => hb n.2)) hL (fun b _ => by rw [he]) ⟨fun g => ?_, fun g => ?_⟩ p3
    · rw [hK] at g; omega
    · rw [hK, show hp_K h a - 1 = x / 100 by omega]
      refine ⟨q, hq1, t_OB.to (V := updV (fun k => hp_f h (100 * (x / 100) + k) a) (x % 100) (mm_v v)) ⟨_, p1, qq2, q3, ?_⟩ (fun k hk => ?_)⟩
      · rw [hsl]
        exact t_set q4 hap hx2 _
      · unfold updV
        by_cases hkx : k = x % 100
        · rw [if_pos hkx, hkx, Nat.div_add_mod, hfx]
        · rw [if_neg hkx]
          refine (hfo _ _ (fun n => hkx ?_)).symm
          have := n.1
          omega
  rcases hfin with hfin | ⟨hin, hdecl⟩
  · unfold u_lay at hlay
    rw [if_neg (by rw [hfin]; decide)] at hlay
    have hst := (u_facts hfc hkC (u_lays X.2.2.2.2.1 (mm_c_lay _ _ hq1) hx2) hi).1
    have h6 := u_store hfc hkC hkind hlay hi hd2 hn hfit
    exact W.putK X.1 X.2.1 (f := f) ⟨X.2.2.2.1, hl, ⟨_, _, _, hi⟩, hst⟩ (by rw [qq2]; exact h6) q1 q3 (by rw [hsl]; exact k2_hasslot (q4 _ hx2)) rfl rfl hd fun H' p1 p2 p3 => next H' _ p1 p2 p3 rfl
  · by_cases hfin : (q.2.1 (x % 100)).2.2.2 = true
    · unfold u_lay at hlay
      rw [if_pos hfin] at hlay
      have hst := (u_facts hfc hkC (u_lays X.2.2.2.2.1 (mm_c_lay _ _ hq1) hx2) hi).1
      have hcf : m.cls = cf := by
        obtain ⟨_, _, c', _, _, _, -, -, hf', -, -, -, hown2, -⟩ := Cond.laysFinal_spec hlay
        have e1 : c' = cf := by have := hi.symm.trans hf'; simp at this; exact this.1.symm
        rw [hdecl] at hown2
        rw [← e1]; exact Option.some.inj (X.2.2.2.1.symm.trans hown2)
      have h6 := u_fits hfc hkC hkind (Or.inr hlay) hi hd2 hn hfit
      exact W.putFinK X.1 X.2.1 X.2.2.2.1 hl hi hst hcf hin (by rw [qq2]; exact h6) q1 q3 (by rw [hsl]; exact k2_hasslot (q4 _ hx2)) rfl rfl hd fun H' p1 p2 p3 => next H' _ p1 p2 p3 rfl
    · have hfin : (q.2.1 (x % 100)).2.2.2 = false := by simpa using hfin
      unfold u_lay at hlay
      rw [if_neg (by rw [hfin]; decide)] at hlay
      have hst := (u_facts hfc hkC (u_lays X.2.2.2.2.1 (mm_c_lay _ _ hq1) hx2) hi).1
      have h6 := u_store hfc hkC hkind hlay hi hd2 hn hfit
      exact W.putK X.1 X.2.1 (f := f) ⟨X.2.2.2.1, hl, ⟨_, _, _, hi⟩, hst⟩ (by rw [qq2]; exact h6) q1 q3 (by rw [hsl]; exact k2_hasslot (q4 _ hx2)) rfl rfl hd fun H' p1 p2 p3 => next H' _ p1 p2 p3 rfl
theorem hp_f_setI {h : Hp} {x a : Nat} {v : Int32} (hr : mm_isR (mm_fty x) = false) : hp_f (hp_setI h x a v) x a = .int v ∧ ∀ x' b, ¬ (x' = x ∧ b = a) → hp_f (hp_setI h x a v) x' b = hp_f h x' b := by
  refine ⟨?_, fun x' b hn => ?_⟩
  · unfold hp_f
    rw [hr]
    simp [hp_K, hp_I, hp_R, hp_L, hp_A, hp_J, hp_Q, hp_setI, mm_u2]
  · unfold hp_f
    by_cases hx : x' = x
    · have hb : ¬ b = a := fun e => hn ⟨hx, e⟩
      simp [hp_K, hp_I, hp_R, hp_L, hp_A, hp_J, hp_Q, hp_setI, mm_u2, hb]
    · simp [hp_K, hp_I, hp_R, hp_L, hp_A, hp_J, hp_Q, hp_setI, mm_u2, hx]
theorem hp_f_setR {h : Hp} {x a : Nat} {v : Option Nat} (hr : mm_isR (mm_fty x) = true) : hp_f (hp_setR h x a v) x a = va_rf v ∧ ∀ x' b, ¬ (x' = x ∧ b = a) → hp_f (hp_setR h x a v) x' b = hp_f h x' b := by
  refine ⟨?_, fun x' b hn => ?_⟩
  · unfold hp_f
    rw [hr]
    simp [hp_K, hp_I, hp_R, hp_L, hp_A, hp_J, hp_Q, hp_setR, mm_u2]
  · unfold hp_f
    by_cases hx : x' = x
    · have hb : ¬ b = a := fun e => hn ⟨hx, e⟩
      simp [hp_K, hp_I, hp_R, hp_L, hp_A, hp_J, hp_Q, hp_setR, mm_u2, hb]
    · simp [hp_K, hp_I, hp_R, hp_L, hp_A, hp_J, hp_Q, hp_setR, mm_u2, hx]
theorem mm_rf_fit {t : FieldType} (ht : mm_isR t = true) (v : Option Nat) : narrow t (va_rf v) = va_rf v ∧ fits t (va_rf v) = true := by
  cases t <;> first | (cases v <;> exact ⟨rfl, rfl⟩) | cases ht
theorem so_putf (X : mm_Cx p s m args meth c cc nL own D cA B z) {idx x y j : Nat} (hq : (own, idx, x, j) ∈ mm_fl) (hx : x / 100 < 14) (hx2 : x % 100 < mm_fN (x / 100)) (hfin : (mm_fT x).2.2.2 = false ∨ (meth.name = "<init>" ∧ (mm_fT x).1 = mm_on own)) (hy : (y = 0 ∧ mm_fty x = .int) ∨ (y = 1 ∧ mm_fty x = .boolean) ∨ (y = 2 ∧ mm_isR (mm_fty x) = true)) (hd : decode cc pc = .ok (.putfield idx, 3)) : mm_Ok p l e R s m args below meth c D cA B nL QQ C k Q pc (mm_putf x y) := by
  intro hk ls st hs h bc bs hf
  rcases hy with ⟨hy, ht⟩ | ⟨hy, ht⟩ | ⟨hy, ht⟩ <;> subst hy
  · have hf : mm_putfI x C k Q pc ls st hs h bc bs := hf
    unfold mm_putfI at hf
    split at hf
    · rename_i v a st' _
      have h1 := hp_f_setI (h := h) (x := x) (a := a) (v := v) (by rw [ht]; rfl)
      exact so_putf0 X hq hx hx2 hfin hd (v := vI v) (h' := hp_setI h x a v) hf.1 (by rw [ht]; rfl) (by rw [ht]; rfl) rfl rfl rfl h1.1 h1.2 (hk _ _ _ _ _ _ _ hf.2)
    · exact hf.elim
  · have hf : mm_putfZ x C k Q pc ls st hs h bc bs := hf
    unfold mm_putfZ at hf
    split at hf
    · rename_i v a st' _
      have h1 := hp_f_setI (h := h) (x := x) (a := a) (v := v) (by rw [ht]; rfl)
      refine so_putf0 X hq hx hx2 hfin hd (v := vI v) (h' := hp_setI h x a v) hf.1 ?_ ?_ rfl rfl rfl h1.1 h1.2 (hk _ _ _ _ _ _ _ hf.2.2)
      · rcases hf.2.1 with e | e <;> subst e <;> rw [ht] <;> rfl
      · rcases hf.2.1 with e | e <;> subst e <;> rw [ht] <;> rfl
    · exact hf.elim
  · have hf : mm_putfR x C k Q pc ls st hs h bc bs := hf
    unfold mm_putfR at hf
    split at hf
    · rename_i v a st' _
      have h1 := hp_f_setR (h := h) (x := x) (a := a) (v := v) ht
      exact so_putf0 X hq hx hx2 hfin hd (v := vR v) (h' := hp_setR h x a v) hf.1 (mm_rf_fit ht v).1 (mm_rf_fit ht v).2 rfl rfl rfl h1.1 h1.2 (hk _ _ _ _ _ _ _ hf.2)
    · exact hf.elim
theorem so_iald (X : mm_Cx p s m args meth c cc nL own D cA B z) (hd : decode cc pc = .ok (.iaload, 1)) : mm_Ok p l e R s m args below meth c D cA B nL QQ C k Q pc (mm_iald z) := by
  intro hk ls st hs h bc bs hf
  unfold mm_iald at hf
  split at hf
  · rename_i i a st'
    rcases hf with ⟨f1, f2, f3⟩ | ⟨⟨n, f⟩, hz, f2, f3⟩
    · intro H locs cells slots A e1 e2 e3 e4 e5 e6 e7
      have h1 := (hp_arr e2 (a := a) (by omega)).2
      rw [hp_e_i (by omega), f1] at h1
      exact va_iald (q0 := 0) (t0 := 0) X.1 X.2.1 X.2.2.2.2.2.1.1 (hp_one (x := (hp_L h a, .inl (hp_A h a))) h1) rfl (mm_tys_at cA (k := 20) (by decide) (by decide)) f2 hd (hk _ _ _ _ _ _ _ f3 H locs cells slots A e1 e2 e3 e4 e5 e6 e7)
    · intro H locs cells slots A e1 e2 e3 e4 e5 e6 e7
      exact va_ti X.1 X.2.1 (X.2.2.2.2.2.1.2.1 _ _ _ hz) e3 f2 rfl hd (hk _ _ _ _ _ _ _ f3 H locs cells slots A e1 e2 e3 e4 e5 e6 e7)
  · exact hf.elim
/-- the text's facts -/
theorem mm_text (X : mm_Cx p s m args meth c cc nL own D cA B z) : va_OF "java/lang/String" "coder" "B" (.int 0) (z.2 100) (fun q => B ≤ q) s s.heap ∧ va_OF "java/lang/String" "value" "[B" (.ref (z.2 101)) (z.2 100) (fun q => B ≤ q) s s.heap ∧ va_T .byte (z.2 101) 12 (fun j => .int (mm_nm.getD j 0)) (fun q => B ≤ q) s s.heap := by
  obtain ⟨-, -, -, -, -, -, -, h8, -⟩ := X.2.2.2.2.2.1
  have h := h8.1 0 (by decide)
  exact ⟨h.2.1, h.2.2.1, h.2.2.2⟩
theorem so_bald (X : mm_Cx p s m args meth c cc nL own D cA B z) (hd : decode cc pc = .ok (.baload, 1)) : mm_Ok p l e R s m args below meth c D cA B nL QQ C k Q pc (mm_bald z) := by
  intro hk ls st hs h bc bs hf
  unfold mm_bald at hf
  split at hf
  · rename_i i a st'
    rcases hf with ⟨f1, f2, f3⟩ | ⟨f1, f2, f3⟩
    · intro H locs cells slots A e1 e2 e3 e4 e5 e6 e7
      have h1 := (hp_arr e2 (a := a) (by omega)).2
      rw [hp_e_i (by omega)] at h1
      rcases f1 with f1 | f1 <;> rw [f1] at h1
      · exact va_bald (q0 := 0) (t0 := 1) X.1 X.2.1 X.2.2.2.2.2.1.1 (hp_one (x := (hp_L h a, .inl (hp_A h a))) h1) rfl (mm_tys_at cA (k := 21) (by decide) (by decide)) f2 hd (hk _ _ _ _ _ _ _ f3 H locs cells slots A e1 e2 e3 e4 e5 e6 e7)
      · exact va_zald (q0 := 0) (t0 := 2) X.1 X.2.1 X.2.2.2.2.2.1.1 (hp_one (x := (hp_L h a, .inl (hp_A h a))) h1) rfl (mm_tys_at cA (k := 22) (by decide) (by decide)) f2 hd (hk _ _ _ _ _ _ _ f3 H locs cells slots A e1 e2 e3 e4 e5 e6 e7)
    · subst f1
      intro H locs cells slots A e1 e2 e3 e4 e5 e6 e7
      exact va_tb X.1 X.2.1 (mm_text X).2.2 e3 f2 rfl hd (hk _ _ _ _ _ _ _ f3 H locs cells slots A e1 e2 e3 e4 e5 e6 e7)
  · exact hf.elim
theorem so_gsv (X : mm_Cx p s m args meth c cc nL own D cA B z) {idx j : Nat} (hq : (own, idx, 9100, j) ∈ mm_fs) (hd : decode cc pc = .ok (.getfield idx, 3)) : mm_Ok p l e R s m args below meth c D cA B nL QQ C k Q pc (mm_gsv z) := by
  intro hk ls st hs h bc bs hf
  unfold mm_gsv at hf
  split at hf
  · rename_i a st'
    obtain ⟨f1, f2⟩ := hf
    subst f1
    intro H locs cells slots A e1 e2 e3 e4 e5 e6 e7
    exact vk_getf (own := mm_on own) X.1 X.2.1 (mm_text X).2.1 e3 X.2.2.2.1 (mm_word X ((mm_fs_ok _ hq).1 rfl) rfl) (fun _ g => g) hd (hk _ _ _ _ _ _ _ f2 H locs cells slots A e1 e2 e3 e4 e5 e6 e7)
  · exact hf.elim
theorem so_gsc (X : mm_Cx p s m args meth c cc nL own D cA B z) {idx j : Nat} (hq : (own, idx, 9101, j) ∈ mm_fs) (hd : decode cc pc = .ok (.getfield idx, 3)) : mm_Ok p l e R s m args below meth c D cA B nL QQ C k Q pc (mm_gsc z) := by
  intro hk ls st hs h bc bs hf
  unfold mm_gsc at hf
  split at hf
  · rename_i a st'
    obtain ⟨f1, f2⟩ := hf
    subst f1
    intro H locs cells slots A e1 e2 e3 e4 e5 e6 e7
    exact vk_getf (own := mm_on own) X.1 X.2.1 (mm_text X).1 e3 X.2.2.2.1 (mm_word X ((mm_fs_ok _ hq).2 rfl) rfl) (fun _ g => g) hd (hk _ _ _ _ _ _ _ f2 H locs cells slots A e1 e2 e3 e4 e5 e6 e7)
  · exact hf.elim
theorem so_lald (X : mm_Cx p s m args meth c cc nL own D cA B z) (hd : decode cc pc = .ok (.laload, 1)) : mm_Ok p l e R s m args below meth c D cA B nL QQ C k Q pc mm_lald := by
  intro hk ls st hs h bc bs hf
  unfold mm_lald at hf
  split at hf
  · rename_i i a st'
    intro H locs cells slots A e1 e2 e3 e4 e5 e6 e7
    obtain ⟨f1, f2, f3⟩ := hf
    have h1 := (hp_arr e2 (a := a) (by omega)).2
    rw [hp_e_j f1, f1] at h1
    exact va_lald (q0 := 0) (t0 := 3) X.1 X.2.1 X.2.2.2.2.2.1.1 (hp_one (x := (hp_L h a, .inr (.inl (hp_J h a)))) h1) rfl (mm_tys_at cA (k := 23) (by decide) (by decide)) f2 hd (hk _ _ _ _ _ _ _ f3 H locs cells slots A e1 e2 e3 e4 e5 e6 e7)
  · exact hf.elim
theorem mm_aty_q {k : Nat} (h1 : 23 < k) (h2 : k < 29) : mm_aty k = .object (mm_on (mm_comp k)) := by
  have : k = 24 ∨ k = 25 ∨ k = 26 ∨ k = 27 ∨ k = 28 := by omega
  rcases this with h | h | h | h | h <;> subst h <;> rfl
theorem so_aald (X : mm_Cx p s m args meth c cc nL own D cA B z) (hd : decode cc pc = .ok (.aaload, 1)) : mm_Ok p l e R s m args below meth c D cA B nL QQ C k Q pc mm_aald := by
  intro hk ls st hs h bc bs hf
  unfold mm_aald at hf
  split at hf
  · rename_i i a st'
    intro H locs cells slots A e1 e2 e3 e4 e5 e6 e7
    obtain ⟨f1, f2, f3⟩ := hf
    obtain ⟨h0, h1⟩ := hp_arr e2 (a := a) (by omega)
    rw [hp_e_q f1] at h1
    have ht := mm_tys_at cA (k := hp_K h a) (by omega) h0
    rw [mm_aty_q f1 h0] at ht
    exact va_aldq (q0 := 0) (t0 := hp_K h a - 20) X.1 X.2.1 X.2.2.2.2.2.1.1 (hp_one (x := (hp_L h a, .inr (.inr (.inr (.inr (hp_Q h a)))))) h1) rfl ht f2 hd (hk _ _ _ _ _ _ _ f3 H locs cells slots A e1 e2 e3 e4 e5 e6 e7)
  · exact hf.elim
theorem so_alen (X : mm_Cx p s m args meth c cc nL own D cA B z) (hd : decode cc pc = .ok (.arraylength, 1)) : mm_Ok p l e R s m args below meth c D cA B nL QQ C k Q pc (mm_alen z) := by
  intro hk ls st hs h bc bs hf
  unfold mm_alen at hf
  split at hf
  · rename_i a st'
    rcases hf with ⟨f1, f3⟩ | ⟨⟨n, f⟩, hz, f3⟩ | ⟨f1, f3⟩
    · intro H locs cells slots A e1 e2 e3 e4 e5 e6 e7
      obtain ⟨h0, h1⟩ := hp_arr e2 (a := a) f1
      have ht := mm_tys_at cA (k := hp_K h a) f1 h0
      exact W.alen X.1 X.2.1 h1 ((X.2.2.2.2.2.1.1.2 _ _ ht).1 _ _) (by rw [arrV_size]) rfl rfl hd (hk _ _ _ _ _ _ _ f3 H locs cells slots A e1 e2 e3 e4 e5 e6 e7)
    · intro H locs cells slots A e1 e2 e3 e4 e5 e6 e7
      exact va_tlen X.1 X.2.1 (X.2.2.2.2.2.1.2.1 _ _ _ hz) e3 rfl hd (hk _ _ _ _ _ _ _ f3 H locs cells slots A e1 e2 e3 e4 e5 e6 e7)
    · subst f1
      intro H locs cells slots A e1 e2 e3 e4 e5 e6 e7
      exact va_tlen X.1 X.2.1 (mm_text X).2.2 e3 (v := 12) rfl hd (hk _ _ _ _ _ _ _ f3 H locs cells slots A e1 e2 e3 e4 e5 e6 e7)
  · exact hf.elim
/-- an array's cell is written -/
theorem hp_W_ast {h h' : Hp} {H H' : Heap} {a j : Nat} {v : Value} (hW : hp_W D cA B h H) (ha : 19 < hp_K h a) (hK : hp_K h' = hp_K h) (hI : hp_I h' = hp_I h) (hR : hp_R h' = hp_R h) (hl : hp_L h' = hp_L h) (he : ∀ b, ¬ b = a → hp_e h' b = hp_e h b) (hv : hp_e h' a = updV (hp_e h a) j v) (h1 : H'[a]? = some ((arrV (cA (hp_K h a)) (hp_L h a) (hp_e h a)).setSlot j v)) (hq : ∀ q, q ≠ a → H'[q]? = H[q]?) : hp_W D cA B h' H' := by
  refine hp_W_put hW hK (fun x b _ => by unfold hp_f; rw [hI, hR]) hl he ⟨fun g => ?_, fun g => ?_⟩ hq
  · rw [hK, hl, hv]
    refine ⟨(hp_arr hW ha).1, ?_⟩
    rw [h1, arrV_store]
  · rw [hK] at g; omega
theorem so_iast (X : mm_Cx p s m args meth c cc nL own D cA B z) (hd : decode cc pc = .ok (.iastore, 1)) : mm_Ok p l e R s m args below meth c D cA B nL QQ C k Q pc mm_iast := by
  intro hk ls st hs h bc bs hf
  unfold mm_iast at hf
  split at hf
  · rename_i v i a st'
    intro H locs cells slots A e1 e2 e3 e4 e5 e6 e7
    obtain ⟨f1, f2, f3⟩ := hf
    have hB := (e2 a (by omega)).1
    have h1 := (hp_arr e2 (a := a) (by omega)).2
    have ht := mm_tys_at cA (k := 20) (by decide) (by decide)
    refine W.iast X.1 X.2.1 h1 (by rw [f1]; exact (X.2.2.2.2.2.1.1.2 _ _ ht).1 _ _) (fun q => by cases q) (by rw [arrV_size]; exact f2) rfl rfl hd fun H1 p1 p2 p3 => ?_
    refine hk _ _ _ _ _ _ _ f3 H1 _ cells slots A (by rw [p2]; exact e1) (hp_W_ast e2 (by omega) rfl rfl rfl rfl (fun b hb => ?_) ?_ p1 p3) (e3.put p2 p3 hB) e4 e5 e6 e7
    · funext j
      simp [hp_K, hp_I, hp_R, hp_L, hp_A, hp_J, hp_Q, hp_e, hp_setA, mm_u2, hb]
    · funext j
      simp only [hp_K, hp_I, hp_R, hp_L, hp_A, hp_J, hp_Q, hp_e, hp_setA, mm_u2, updV, f1]
      by_cases hj : j = i.toNatClampNeg <;> simp [hj]
  · exact hf.elim
theorem so_bast (X : mm_Cx p s m args meth c cc nL own D cA B z) (hd : decode cc pc = .ok (.bastore, 1)) : mm_Ok p l e R s m args below meth c D cA B nL QQ C k Q pc mm_bast := by
  intro hk ls st hs h bc bs hf
  unfold mm_bast at hf
  split at hf
  · rename_i v i a st'
    intro H locs cells slots A e1 e2 e3 e4 e5 e6 e7
    obtain ⟨f2, ⟨f1, f3⟩ | ⟨f1, f3⟩⟩ := hf
    · have hB := (e2 a (by omega)).1
      have h1 := (hp_arr e2 (a := a) (by omega)).2
      have ht := mm_tys_at cA (k := 21) (by decide) (by decide)
      refine W.bast X.1 X.2.1 h1 (by rw [f1]; exact (X.2.2.2.2.2.1.1.2 _ _ ht).1 _ _) (fun q => by cases q) (by rw [arrV_size]; exact f2) rfl rfl hd fun H1 p1 p2 p3 => ?_
      refine hk _ _ _ _ _ _ _ f3 H1 _ cells slots A (by rw [p2]; exact e1) (hp_W_ast e2 (by omega) rfl rfl rfl rfl (fun b hb => ?_) ?_ p1 p3) (e3.put p2 p3 hB) e4 e5 e6 e7
      · funext j
        simp [hp_K, hp_I, hp_R, hp_L, hp_A, hp_J, hp_Q, hp_e, hp_setA, mm_u2, hb]
      · funext j
        simp only [hp_K, hp_I, hp_R, hp_L, hp_A, hp_J, hp_Q, hp_e, hp_setA, mm_u2, updV, f1]
        by_cases hj : j = i.toNatClampNeg
        · simp [hj]; rfl
        · simp [hj]
    · have hB := (e2 a (by omega)).1
      have h1 := (hp_arr e2 (a := a) (by omega)).2
      have ht := mm_tys_at cA (k := 22) (by decide) (by decide)
      refine W.zast X.1 X.2.1 h1 (by rw [f1]; exact (X.2.2.2.2.2.1.1.2 _ _ ht).1 _ _) (fun q => by cases q) (by rw [arrV_size]; exact f2) rfl rfl hd fun H1 p1 p2 p3 => ?_
      refine hk _ _ _ _ _ _ _ f3 H1 _ cells slots A (by rw [p2]; exact e1) (hp_W_ast e2 (by omega) rfl rfl rfl rfl (fun b hb => ?_) ?_ p1 p3) (e3.put p2 p3 hB) e4 e5 e6 e7
      · funext j
        simp [hp_K, hp_I, hp_R, hp_L, hp_A, hp_J, hp_Q, hp_e, hp_setA, mm_u2, hb]
      · funext j
        simp only [hp_K, hp_I, hp_R, hp_L, hp_A, hp_J, hp_Q, hp_e, hp_setA, mm_u2, updV, f1]
        by_cases hj : j = i.toNatClampNeg
        · simp [hj]; rfl
        · simp [hj]
  · exact hf.elim
theorem so_last (X : mm_Cx p s m args meth c cc nL own D cA B z) (hd : decode cc pc = .ok (.lastore, 1)) : mm_Ok p l e R s m args below meth c D cA B nL QQ C k Q pc mm_last := by
  intro hk ls st hs h bc bs hf
  unfold mm_last at hf
  split at hf
  · rename_i v i a st'
    intro H locs cells slots A e1 e2 e3 e4 e5 e6 e7
    obtain ⟨f1, f2, f3⟩ := hf
    have hB := (e2 a (by omega)).1
    have h1 := (hp_arr e2 (a := a) (by omega)).2
    have ht := mm_tys_at cA (k := 23) (by decide) (by decide)
    refine W.last X.1 X.2.1 h1 (by rw [f1]; exact (X.2.2.2.2.2.1.1.2 _ _ ht).1 _ _) (fun q => by cases q) (by rw [arrV_size]; exact f2) rfl rfl hd fun H1 p1 p2 p3 => ?_
    refine hk _ _ _ _ _ _ _ f3 H1 _ cells slots A (by rw [p2]; exact e1) (hp_W_ast e2 (by omega) rfl rfl rfl rfl (fun b hb => ?_) ?_ p1 p3) (e3.put p2 p3 hB) e4 e5 e6 e7
    · funext j
      have hJ : mm_u2 (hp_J h) a i.toNatClampNeg v b = hp_J h b := by
        funext y
        simp [mm_u2, hb]
      show (if hp_K h b = 23 then Value.long (mm_u2 (hp_J h) a i.toNatClampNeg v b j) else if hp_K h b < 23 then .int (hp_A h b j) else va_rf (hp_Q h b j)) = hp_e h b j
      rw [hJ]
      rfl
    · funext j
      simp only [hp_K, hp_I, hp_R, hp_L, hp_A, hp_J, hp_Q, hp_e, hp_setJ, mm_u2, updV, f1]
      by_cases hj : j = i.toNatClampNeg <;> simp [hj]
  · exact hf.elim
theorem so_aast (X : mm_Cx p s m args meth c cc nL own D cA B z) (hd : decode cc pc = .ok (.aastore, 1)) : mm_Ok p l e R s m args below meth c D cA B nL QQ C k Q pc mm_aast := by
  intro hk ls st hs h bc bs hf
  unfold mm_aast at hf
  split at hf
  · rename_i v i a st'
    intro H locs cells slots A e1 e2 e3 e4 e5 e6 e7
    obtain ⟨f1, f2, f4, f3⟩ := hf
    have hB := (e2 a (by omega)).1
    obtain ⟨h0, h1⟩ := hp_arr e2 (a := a) (by omega)
    have ht := mm_tys_at cA (k := hp_K h a) (by omega) h0
    rw [mm_aty_q f1 h0] at ht
    have fin : ∀ (H1 : Heap) (locs1 : List Loc), H1[a]? = some ((arrV (cA (hp_K h a)) (hp_L h a) (hp_e h a)).setSlot i.toNatClampNeg (va_rf v)) → H1.size = H.size → (∀ q, q ≠ a → H1[q]? = H[q]?) → locs1 = locs ++ [⟨a, i.toNatClampNeg⟩] → W p l e R s m args below meth c H1 locs1 cells slots QQ (F0 m (pc + 1) A (st'.map mm_v)) := by
      intro H1 locs1 p1 p2 p3 p4
      rw [p4]
      refine hk _ _ _ _ _ _ _ f3 H1 _ cells slots A (by rw [p2]; exact e1) (hp_W_ast e2 (by omega) rfl rfl rfl rfl (fun b hb => ?_) ?_ p1 p3) (e3.put p2 p3 hB) e4 e5 e6 e7
      · funext j
        simp [hp_K, hp_I, hp_R, hp_L, hp_A, hp_J, hp_Q, hp_e, hp_setQ, mm_u2, hb]
      · funext j
        have g1 : ¬ hp_K h a = 23 := by omega
        have g2 : ¬ hp_K h a < 23 := by omega
        simp only [hp_K, hp_I, hp_R, hp_L, hp_A, hp_J, hp_Q, hp_e, hp_setQ, mm_u2, updV]
        by_cases hj : j = i.toNatClampNeg <;> simp [hj, g1, g2]
    cases v with
    | none => exact va_WaastN X.1 X.2.1 h1 ((X.2.2.2.2.2.1.1.2 _ _ ht).1 _ _) (fun q => by cases q) (by rw [arrV_size]; exact f2) rfl rfl hd fun H1 p1 p2 p3 => fin H1 _ p1 p2 p3 rfl
    | some b =>
      have hb := f4 b rfl
      have hlt : i.toNatClampNeg < hp_L h a := Nat.not_le.mp fun q => f2 (Or.inr q)
      have hneg : ¬ i < 0 := fun q => f2 (Or.inl q)
      have hc14 : mm_comp (hp_K h a) < 14 := by
        have : hp_K h a = 24 ∨ hp_K h a = 25 ∨ hp_K h a = 26 ∨ hp_K h a = 27 ∨ hp_K h a = 28 := by omega
        rcases this with g | g | g | g | g <;> rw [g] <;> decide
      obtain ⟨q, hq1, -⟩ := mm_c_at _ hc14
      obtain ⟨r', hr', cellV, g1, g2, g3, -⟩ := hp_obj e2 hb hq1 0 _ rfl
      have hcls := (X.2.2.2.2.2.1.1.1 _ q hq1).2
      obtain ⟨kA, comp, k1, k2, k3, -⟩ := (X.2.2.2.2.2.1.1.2 _ _ ht).2
      rw [← mm_c_on _ _ hq1] at k3
      have hcomp : comp = D.1 (mm_comp (hp_K h a)) := Option.some.inj (k3.symm.trans hcls.1)
      subst hcomp
      obtain ⟨kC, hkC, -⟩ := hcls.2
      exact W.aast X.1 X.2.1 h1 (fun q h => by cases h) (fun h => by cases h) k1 k2 rfl hkC ⟨hneg, by rw [arrV_size]; exact hlt⟩ g1 (fun q h => by rw [g3] at h; cases h) (by rw [g2]; exact hkC) (by rw [g2]; exact va_assign hcls) rfl rfl hd fun H1 p1 p2 p3 => fin H1 _ p1 p2 p3 rfl
  · exact hf.elim
/-- a new cell -/
theorem hp_W_new {h h' : Hp} {H H' : Heap} {hs : Nat} (hW : hp_W D cA B h H) (hz : H.size = hs) (hK : ∀ b, ¬ b = hs → hp_K h' b = hp_K h b) (hf : ∀ x b, ¬ b = hs → hp_f h' x b = hp_f h x b) (hl : ∀ b, ¬ b = hs → hp_L h' b = hp_L h b) (he : ∀ b, ¬ b = hs → hp_e h' b = hp_e h b) (hB : B ≤ hs) (ha : hp_at D cA h' hs H') (hq : ∀ q, q < hs → H'[q]? = H[q]?) : hp_W D cA B h' H' := by
  intro b hb
  by_cases hba : b = hs
  · subst hba
    exact ⟨hB, ha⟩
  · rw [hK b hba] at hb
    obtain ⟨h1, h2⟩ := hW b hb
    have hlt : b < H.size := by
      by_cases hk : 19 < hp_K h b
      · exact (Array.getElem?_eq_some_iff.mp (h2.1 hk).2).1
      · obtain ⟨q, -, cell, g, -⟩ := h2.2 (by omega)
        exact (Array.getElem?_eq_some_iff.mp g).1
    exact ⟨h1, hp_at_congr (hK b hba) (fun x => hf x b hba) (hl b hba) (he b hba) (hq b (by omega)) h2⟩
theorem so_new (X : mm_Cx p s m args meth c cc nL own D cA B z) {idx x j1 j2 j3 : Nat} (hq : (own, idx, x, j1, j2, j3) ∈ mm_cl) (hx : x < 14) (hd : decode cc pc = .ok (.new idx, 3)) : mm_Ok p l e R s m args below meth c D cA B nL QQ C k Q pc (mm_new x (mm_fN x)) := by
  intro hk ls st hs h bc bs hf
  obtain ⟨f1, f2, f3⟩ := hf
  obtain ⟨g1, g2, g3⟩ := mm_cl_ok _ hq
  obtain ⟨q, hq1, hq2⟩ := mm_c_at _ hx
  have hKn := X.2.2.2.2.2.1.1.1 x q hq1
  have hfc := hKn.2.1
  rw [mm_c_on _ _ hq1] at hfc
  intro H locs cells slots A e1 e2 e3 e4 e5 e6 e7
  refine W.newcK (n := mm_fN x) X.1 X.2.1 X.2.2.2.1 (mm_word X g1 rfl) (mm_word X g2 rfl) (mm_word X g3 rfl) rfl hd (by omega) (by omega) hfc e1 fun H1 kC hkC p1 p2 p3 => ?_
  have hBs : B ≤ hs := by rw [← e1]; exact Nat.le_trans X.2.2.2.2.2.2.1 e3.1
  refine hk _ _ _ _ _ _ _ f3 H1 _ (cells + 1) (slots + mm_fN x) A p2 ?_ ⟨Nat.le_trans e3.1 (by omega), fun q0 a1 a2 => (p3 q0 (by rw [← e1]; exact Nat.lt_of_lt_of_le a1 e3.1)).trans (e3.2.1 q0 a1 a2), e3.2.2⟩ e4 e5 (by omega) (by omega)
  refine hp_W_new e2 e1 (fun b hb => by simp [hp_K, hp_I, hp_R, hp_L, hp_A, hp_J, hp_Q, hp_newO, mm_u1, hb]) (fun x' b hb => by simp [hp_K, hp_I, hp_R, hp_L, hp_A, hp_J, hp_Q, hp_f, hp_newO, hb]) (fun b hb => rfl) (fun b hb => by funext j; simp [hp_K, hp_I, hp_R, hp_L, hp_A, hp_J, hp_Q, hp_e, hp_newO, mm_u1, hb]) hBs ⟨fun g => ?_, fun g => ?_⟩ p3
  · have : hp_K (hp_newO h x hs) hs = x + 1 := by simp [hp_K, hp_I, hp_R, hp_L, hp_A, hp_J, hp_Q, hp_newO, mm_u1]
    omega
  · have hkk : hp_K (hp_newO h x hs) hs = x + 1 := by simp [hp_K, hp_I, hp_R, hp_L, hp_A, hp_J, hp_Q, hp_newO, mm_u1]
    rw [hkk, show x + 1 - 1 = x by omega]
    refine ⟨q, hq1, (u_born (mm_ty x) X.2.2.2.2.1 (mm_c_lay _ _ hq1) hKn hkC p1 (mm_c_ty _ _ hq1)).to fun k0 hk0 => ?_⟩
    have h4 : mm_fty (100 * x + k0) = mm_ty x k0 := by
      have : k0 < 100 := Nat.lt_of_lt_of_le hk0 (mm_c_100 x q hq1)
      unfold mm_fty
      rw [show (100 * x + k0) / 100 = x by omega, show (100 * x + k0) % 100 = k0 by omega]
    have h5 := mm_c_dft x q hq1 k0 hk0
    unfold hp_f
    rw [h4]
    cases hr : mm_isR (mm_ty x k0)
    · rw [hr] at h5
      rw [h5]
      simp [hp_K, hp_I, hp_R, hp_L, hp_A, hp_J, hp_Q, hp_newO]
    · rw [hr] at h5
      rw [h5]
      simp [hp_K, hp_I, hp_R, hp_L, hp_A, hp_J, hp_Q, hp_newO, va_rf]
theorem so_newa (X : mm_Cx p s m args meth c cc nL own D cA B z) {ty : ArrayType} {x j : Nat} (hq : (x, j) ∈ mm_al) (hx1 : 19 < x) (hx2 : x < 24) (ht : newarray.typeOf ty = mm_aty x) (hd : decode cc pc = .ok (.newarray ty, 2)) : mm_Ok p l e R s m args below meth c D cA B nL QQ C k Q pc (mm_newa x 2) := by
  intro hk ls st hs h bc bs hf
  unfold mm_newa at hf
  split at hf
  · rename_i n st'
    obtain ⟨f0, f1, f2, f3, f4⟩ := hf
    have ha := mm_word X (mm_al_ok _ hq) rfl
    intro H locs cells slots A e1 e2 e3 e4 e5 e6 e7
    have hcb : componentBytes (newarray.typeOf ty) ≤ 8 := by rw [ht]; have : x = 20 ∨ x = 21 ∨ x = 22 ∨ x = 23 := by omega
                                                             rcases this with g | g | g | g <;> subst g <;> decide
    refine va_newaK X.1 X.2.1 (by rw [ht]; exact ha) rfl hd rfl f0 rfl (Nat.le_trans (Nat.mul_le_mul f1 hcb) (by decide)) (by omega) (by omega) e1 fun H1 cA1 p1 p2 p3 hAr hfc => ?_
    rw [ht] at p1 hAr hfc
    have htk := mm_tys_at cA (k := x) hx1 (by omega)
    have hca : cA1 = cA x := by
      have h7 := (X.2.2.2.2.2.1.1.2 _ _ htk).2
      have : x = 20 ∨ x = 21 ∨ x = 22 ∨ x = 23 := by omega
      rcases this with g | g | g | g <;> subst g <;> exact Option.some.inj (hfc.symm.trans h7)
    subst hca
    have hBs : B ≤ hs := by rw [← e1]; exact Nat.le_trans X.2.2.2.2.2.2.1 e3.1
    refine hk _ _ _ _ _ _ _ f4 H1 _ (cells + 1) (slots + n.toNatClampNeg) A p2 ?_ ⟨Nat.le_trans e3.1 (by omega), fun q0 a1 a2 => (p3 q0 (by rw [← e1]; exact Nat.lt_of_lt_of_le a1 e3.1)).trans (e3.2.1 q0 a1 a2), e3.2.2⟩ e4 e5 (by omega) (by omega)
    have hkk : hp_K (hp_newA h x n.toNatClampNeg hs) hs = x := by simp [hp_K, hp_I, hp_R, hp_L, hp_A, hp_J, hp_Q, hp_newA, mm_u1]
    refine hp_W_new e2 e1 (fun b hb => by simp [hp_K, hp_I, hp_R, hp_L, hp_A, hp_J, hp_Q, hp_newA, mm_u1, hb]) (fun x' b hb => by simp [hp_K, hp_I, hp_R, hp_L, hp_A, hp_J, hp_Q, hp_f, hp_newA]) (fun b hb => by simp [hp_K, hp_I, hp_R, hp_L, hp_A, hp_J, hp_Q, hp_newA, mm_u1, hb]) (fun b hb => by funext j; simp [hp_K, hp_I, hp_R, hp_L, hp_A, hp_J, hp_Q, hp_e, hp_newA, mm_u1, hb]) hBs ⟨fun g => ?_, fun g => ?_⟩ p3
    · refine ⟨by rw [hkk]; omega, ?_⟩
      rw [hkk, p1]
      have hll : hp_L (hp_newA h x n.toNatClampNeg hs) hs = n.toNatClampNeg := by simp [hp_K, hp_I, hp_R, hp_L, hp_A, hp_J, hp_Q, hp_newA, mm_u1]
      rw [hll]
      congr 2
      funext j
      have : x = 20 ∨ x = 21 ∨ x = 22 ∨ x = 23 := by omega
      rcases this with g | g | g | g <;> subst g <;> simp [hp_K, hp_I, hp_R, hp_L, hp_A, hp_J, hp_Q, hp_e, hp_newA, mm_u1, mm_aty, defaultValue]
    · rw [hkk] at g; omega
  · exact hf.elim
theorem so_newq (X : mm_Cx p s m args meth c cc nL own D cA B z) {idx x j : Nat} (hq : (own, idx, x, j) ∈ mm_ol) (hd : decode cc pc = .ok (.anewarray idx, 3)) : mm_Ok p l e R s m args below meth c D cA B nL QQ C k Q pc (mm_newa x 3) := by
  intro hk ls st hs h bc bs hf
  unfold mm_newa at hf
  split at hf
  · rename_i n st'
    obtain ⟨f0, f1, f2, f3, f4⟩ := hf
    obtain ⟨hx1, hx2, g1⟩ := mm_ol_ok _ hq
    dsimp only at hx1 hx2
    have ha := mm_word X g1 rfl
    intro H locs cells slots A e1 e2 e3 e4 e5 e6 e7
    refine W.anew X.1 X.2.1 X.2.2.2.1 ha (va_AO.use (X.2.2.2.2.2.1.2.2.2.2.2.1 x hx1 hx2)) rfl hd rfl f0 (by omega) (by omega) (by omega) fun cA1 kA comp q1 q2 q3 q4 => ?_
    have htk := mm_tys_at cA (k := x) (by omega) hx2
    rw [mm_aty_q hx1 hx2] at htk
    have hca : cA1 = cA x := by
      obtain ⟨_, _, -, -, -, h7⟩ := (X.2.2.2.2.2.1.1.2 _ _ htk).2
      exact Option.some.inj (q1.symm.trans h7)
    subst hca
    have hBs : B ≤ hs := by rw [← e1]; exact Nat.le_trans X.2.2.2.2.2.2.1 e3.1
    generalize hH1 : H.push ({ cls := cA x, slots := Array.replicate n.toNatClampNeg .null, vm := .none } : Cell) = H1
    have p2 : H1.size = hs + 1 := by rw [← hH1, Array.size_push, e1]
    have p1 : H1[hs]? = some (arrV (cA x) n.toNatClampNeg (fun _ => .null)) := by rw [← hH1, ← e1, Array.getElem?_push_size, ← arrV_new]
    have p3 : ∀ q : Nat, q < hs → H1[q]? = H[q]? := fun q hq => by rw [← hH1, Array.getElem?_push, if_neg (by omega)]
    rw [e1]
    refine hk _ _ _ _ _ _ _ f4 H1 _ (cells + 1) (slots + n.toNatClampNeg) A p2 ?_ ⟨Nat.le_trans e3.1 (by omega), fun q0 a1 a2 => (p3 q0 (by rw [← e1]; exact Nat.lt_of_lt_of_le a1 e3.1)).trans (e3.2.1 q0 a1 a2), e3.2.2⟩ e4 e5 (by omega) (by omega)
    have hkk : hp_K (hp_newA h x n.toNatClampNeg hs) hs = x := by simp [hp_K, hp_I, hp_R, hp_L, hp_A, hp_J, hp_Q, hp_newA, mm_u1]
    refine hp_W_new e2 e1 (fun b hb => by simp [hp_K, hp_I, hp_R, hp_L, hp_A, hp_J, hp_Q, hp_newA, mm_u1, hb]) (fun x' b hb => by simp [hp_K, hp_I, hp_R, hp_L, hp_A, hp_J, hp_Q, hp_f, hp_newA]) (fun b hb => by simp [hp_K, hp_I, hp_R, hp_L, hp_A, hp_J, hp_Q, hp_newA, mm_u1, hb]) (fun b hb => by funext j; simp [hp_K, hp_I, hp_R, hp_L, hp_A, hp_J, hp_Q, hp_e, hp_newA, mm_u1, hb]) hBs ⟨fun g => ?_, fun g => ?_⟩ p3
    · refine ⟨by rw [hkk]; omega, ?_⟩
      rw [hkk, p1]
      have hll : hp_L (hp_newA h x n.toNatClampNeg hs) hs = n.toNatClampNeg := by simp [hp_K, hp_I, hp_R, hp_L, hp_A, hp_J, hp_Q, hp_newA, mm_u1]
      rw [hll]
      congr 2
      funext j
      have g1 : ¬ x = 23 := by omega
      have g2 : ¬ x < 23 := by omega
      simp [hp_K, hp_I, hp_R, hp_L, hp_A, hp_J, hp_Q, hp_e, hp_newA, mm_u1, g1, g2, va_rf]
    · rw [hkk] at g; omega
  · exact hf.elim
set_option maxHeartbeats 8000000 in
theorem so_gets (X : mm_Cx p s m args meth c cc nL own D cA B z) {idx x : Nat} (hq : (∃ j, (own, idx, x, j) ∈ mm_sl) ∨ (own, idx, x) ∈ mm_sn) (hx : x < 5) (hd : decode cc pc = .ok (.getstatic idx, 3)) : mm_Ok p l e R s m args below meth c D cA B nL QQ C k Q pc (mm_push (vR (some (z.2 x))) 3) := by
  intro hk ls st hs h bc bs hf
  have hs1 : mm_sta[x]? = some (mm_sta.getD x ("", "", "")) := by
    have : x = 0 ∨ x = 1 ∨ x = 2 ∨ x = 3 ∨ x = 4 := by omega
    rcases this with g | g | g | g | g <;> subst g <;> rfl
  have hZ := X.2.2.2.2.2.1.2.2.1 x _ hs1
  intro H locs cells slots A e1 e2 e3 e4 e5 e6 e7
  have w := hk _ _ _ _ _ _ _ hf H locs cells slots A e1 e2 e3 e4 e5 e6 e7
  rcases hq with ⟨j, hq⟩ | hq
  · exact va_gets (own := mm_on own) X.1 X.2.1 hZ e3 X.2.2.2.1 (mm_word X (mm_sl_ok _ hq) rfl) (fun _ g => g) hd w
  · obtain ⟨x1, x2, x3, x4, x5, ⟨-, -, -, y4, -, -, -, -, -⟩, -, -⟩ := X
    have hn : (Jvm.Cond.fieldLinkNest (mm_on own) idx (mm_sta.getD x ("", "", "")).1 (mm_sta.getD x ("", "", "")).2.1 (mm_sta.getD x ("", "", "")).2.2 RX12).before args s = true := va_Nw.use rfl (y4 (own, idx, x) hq)
    exact va_getsN (own := mm_on own) (host := RX12) x1 x2 hZ e3 x4 hn (fun _ g => g) hd w
theorem mm_cats {st : List MV} (h : st.length ≤ 4) : ((st.map mm_v).map fun v => v.category).sum ≤ 8 := by
  have : ∀ st : List MV, ((st.map mm_v).map fun v => v.category).sum ≤ 2 * st.length := by
    intro st
    induction st with
    | nil => simp
    | cons v r ih =>
      have := mm_k_cat v
      simp only [List.map_cons, List.sum_cons, List.length_cons]
      split at this <;> omega
  have := this st
  omega
theorem mm_cats2 {st : List MV} (h : mm_sh st) : ((st.map mm_v).map fun v => v.category).sum ≤ 8 := by
  rcases h with h | ⟨h1, h2⟩
  · exact mm_cats h
  · have : ∀ st : List MV, (∀ v ∈ st, ¬ mm_k v = 1) → ((st.map mm_v).map fun v => v.category).sum ≤ st.length := by
      intro st
      induction st with
      | nil => intro _; simp
      | cons v r ih =>
        intro hv
        have h3 := mm_k_cat v
        rw [if_neg (hv v List.mem_cons_self)] at h3
        have h4 := ih (fun w hw => hv w (List.mem_cons_of_mem _ hw))
        simp only [List.map_cons, List.sum_cons, List.length_cons]
        omega
    have := this st h2
    omega
theorem so_gets2 (X : mm_Cx p s m args meth c cc nL own D cA B z) {idx j : Nat} (hq : (own, idx, j) ∈ mm_s2) (hd : decode cc pc = .ok (.getstatic idx, 3)) : mm_Ok p l e R s m args below meth c D cA B nL QQ C k Q pc (mm_push (vI 1) 3) := by
  intro hk ls st hs h bc bs hf
  obtain ⟨-, -, -, -, -, -, -, -, h9⟩ := X.2.2.2.2.2.1
  intro H locs cells slots A e1 e2 e3 e4 e5 e6 e7
  exact va_gets (own := mm_on own) X.1 X.2.1 h9 e3 X.2.2.2.1 (mm_word X (mm_s2_ok _ hq) rfl) (fun _ g => g) hd (hk _ _ _ _ _ _ _ hf H locs cells slots A e1 e2 e3 e4 e5 e6 e7)
/-- one array is copied into -/
theorem mm_cpW {H : Heap} {locs : List Loc} {cells slots : Nat} {A : Array Slot} {st' : List MV} {h h' : Hp} {b : Nat} {X2 : Cell} {L2 : List Loc} (e1 : H.size = hs) (e2 : hp_W D cA B h H) (e3 : va_S (fun q => B ≤ q) s.heap H locs) (e4 : mm_ls A ls) (e5 : ls.length = nL) (e6 : cells + bc ≤ R.cells) (e7 : slots + bs ≤ R.slots)
    (hb : 19 < hp_K h b) (hK : hp_K h' = hp_K h) (hI : hp_I h' = hp_I h) (hRR : hp_R h' = hp_R h) (hl : hp_L h' = hp_L h) (he : ∀ x, ¬ x = b → hp_e h' x = hp_e h x) (hX2 : X2 = arrV (cA (hp_K h b)) (hp_L h b) (hp_e h' b)) (hL2 : ∀ q ∈ L2, q.base = b)
    (hk : mm_G p l e R s m args below meth c D cA B nL QQ (pc + 3) ls st' hs h' bc bs) : W p l e R s m args below meth c (H.setIfInBounds b X2) (locs ++ L2) cells slots QQ (F0 m (pc + 3) A (st'.map mm_v)) := by
  have hB := (e2 b (by omega)).1
  have hlt : b < H.size := (Array.getElem?_eq_some_iff.mp (hp_arr e2 hb).2).1
  have oq : ∀ q : Nat, q ≠ b → (H.setIfInBounds b X2)[q]? = H[q]? := fun q hq => by simp [Array.getElem?_setIfInBounds, Ne.symm hq]
  refine hk _ _ cells slots A (by simp; exact e1) ?_ ⟨by simp; exact e3.1, fun q g1 g2 => by rw [oq q (fun n => g2 (by rw [n]; exact hB))]; exact e3.2.1 q g1 g2, fun q hq => by
    rcases List.mem_append.mp hq with g | g
    · exact e3.2.2 q g
    · rw [hL2 q g]; exact hB⟩ e4 e5 e6 e7
  refine hp_W_put e2 hK (fun x y _ => by unfold hp_f; rw [hI, hRR]) hl he ⟨fun g => ?_, fun g => ?_⟩ oq
  · rw [hK, hl]
    refine ⟨(hp_arr e2 hb).1, ?_⟩
    rw [← hX2]
    simp [Array.getElem?_setIfInBounds, hlt]
  · rw [hK] at g; omega
theorem mm_nn {z : Int32} (hz : ¬ z < 0) : z.toInt = (z.toNatClampNeg : Int) := by
  have hz0 : (0 : Int) ≤ z.toInt := by
    have := Int32.not_lt.mp hz
    simpa using Int32.le_iff_toInt_le.mp this
  show z.toInt = ((z.toInt.toNat : Nat) : Int)
  omega
set_option maxHeartbeats 8000000 in
theorem so_copy (X : mm_Cx p s m args meth c cc nL own D cA B z) (hR : 1 ≤ R.frames ∧ 40 ≤ R.locals) {idx j : Nat} (hq : (own, idx, 9003, j) ∈ mm_ex) (hd : decode cc pc = .ok (.invokestatic idx, 3)) : mm_Ok p l e R s m args below meth c D cA B nL QQ C k Q pc mm_copy := by
  intro hk ls st hs h bc bs hf
  unfold mm_copy at hf
  split at hf
  · rename_i n dp b sp a st'
    obtain ⟨f0, f1, f2, f3, f4, f5, hf⟩ := hf
    have h8 := mm_cats f0
    intro H locs cells slots A e1 e2 e3 e4 e5 e6 e7
    have hloc : nativeFrameWords "java/lang/System" "arraycopy" 5 + 11 ≤ 18 := by decide
    rcases hf with ⟨ka, kb, hfit, hf⟩ | ⟨ka, kb, hf⟩
    · intro T hT Y
      have hc0 : T.heap[a]? = some (arrV (cA 21) (hp_L h a) (fun j => .int (hp_A h a j))) := by
        have g := (hp_arr e2 (a := a) (by omega)).2
        rw [hp_e_i (by omega), ka] at g
        rw [hT]; exact g
      have hc1 : T.heap[b]? = some (arrV (cA 21) (hp_L h b) (fun j => .int (hp_A h b j))) := by
        have g := (hp_arr e2 (a := b) (by omega)).2
        rw [hp_e_i (by omega), kb] at g
        rw [hT]; exact g
      have ht := mm_tys_at cA (k := 21) (by decide) (by decide)
      obtain ⟨-, k0, hk0, cm0, hkk0⟩ := (X.2.2.2.2.2.1.1.2 _ _ ht).1 (hp_L h a) (fun j => .int (hp_A h a j))
      obtain ⟨vm', X', step⟩ := Y.arraycopy X.1 X.2.2.2.1 (mm_word X (mm_ex_cp _ hq rfl) rfl) (mm_word X mm_cp2.1 rfl) (mm_word X mm_cp2.2.1 rfl) (mm_word X mm_cp2.2.2 rfl) (srcPos := sp) (destPos := dp) (n := n) hc0 hc1
        (fun _ g => by cases g) (fun _ g => by cases g) (fun g => by cases g) (fun g => by cases g) hk0 hk0 hkk0 hkk0 (by simp [mm_aty, refKind]) f2 f3 f1
        (by rw [mm_nn f2, mm_nn f1, arrV_size]; omega) (by rw [mm_nn f3, mm_nn f1, arrV_size]; omega)
        (fun vm₁ _ i hi => by
          have e : (arrV (cA 21) (hp_L h a) (fun j => .int (hp_A h a j))).slots.getD (sp.toNatClampNeg + i) .null = .int (hp_A h a (sp.toNatClampNeg + i)) := by
            rw [Array.getD_eq_getD_getElem?, arrV_read _ _ (by omega)]
            rfl
          refine ⟨?_, ?_⟩
          · rw [e]; exact hfit i hi
          · rw [e]; exact trivial)
        (g := F0 m pc A ((vI n :: vI dp :: vR (some b) :: vI sp :: vR (some a) :: st').map mm_v)) rfl (by rw [X.2.2.1]; exact e4.1.trans e5) (rest := st'.map mm_v) rfl (by rw [X.2.1]; exact hd) hR.1 (by show 2 * 0 + _ + _ ≤ _; omega)
      have ec : copied (arrV (cA 21) (hp_L h a) (fun j => .int (hp_A h a j))) (arrV (cA 21) (hp_L h b) (fun j => .int (hp_A h b j))) sp dp n = arrV (cA 21) (hp_L h b) (fun j => .int (va_cpy (hp_A h a) (hp_A h b) sp.toNatClampNeg dp.toNatClampNeg n.toNatClampNeg j)) := va_copied (fun z => .int z) (cA 21) (cA 21) (hp_A h a) (hp_A h b) f4
      rw [ec] at X' step
      have hheap : ((T.setVm vm').setCell b (arrV (cA 21) (hp_L h b) (fun j => .int (va_cpy (hp_A h a) (hp_A h b) sp.toNatClampNeg dp.toNatClampNeg n.toNatClampNeg j)))).heap = H.setIfInBounds b (arrV (cA 21) (hp_L h b) (fun j => .int (va_cpy (hp_A h a) (hp_A h b) sp.toNatClampNeg dp.toNatClampNeg n.toNatClampNeg j))) := by rw [← hT]; rfl
      obtain ⟨t, a1, b1⟩ := mm_cpW (h' := hp_copA h a sp.toNatClampNeg b dp.toNatClampNeg n.toNatClampNeg) e1 e2 e3 e4 e5 e6 e7 (by omega) rfl rfl rfl rfl (fun x hx => by funext y; simp [hp_K, hp_I, hp_R, hp_L, hp_A, hp_J, hp_Q, hp_e, hp_copA, hx]) (by
        rw [kb]
        congr 1
        have : hp_K (hp_copA h a sp.toNatClampNeg b dp.toNatClampNeg n.toNatClampNeg) b < 23 := by show hp_K h b < 23; omega
        rw [hp_e_i this]
        funext y
        simp [hp_K, hp_I, hp_R, hp_L, hp_A, hp_J, hp_Q, hp_copA]) (fun q hq => by
          obtain ⟨y, -, hy⟩ := List.mem_map.mp hq
          rw [← hy]) (hk _ _ _ _ _ _ _ hf) _ hheap X'
      exact ⟨t, step t a1, b1⟩
    · intro T hT Y
      have hc0 : T.heap[a]? = some (arrV (cA 23) (hp_L h a) (fun j => .long (hp_J h a j))) := by
        have g := (hp_arr e2 (a := a) (by omega)).2
        rw [hp_e_j ka, ka] at g
        rw [hT]; exact g
      have hc1 : T.heap[b]? = some (arrV (cA 23) (hp_L h b) (fun j => .long (hp_J h b j))) := by
        have g := (hp_arr e2 (a := b) (by omega)).2
        rw [hp_e_j kb, kb] at g
        rw [hT]; exact g
      have ht := mm_tys_at cA (k := 23) (by decide) (by decide)
      obtain ⟨-, k0, hk0, cm0, hkk0⟩ := (X.2.2.2.2.2.1.1.2 _ _ ht).1 (hp_L h a) (fun j => .long (hp_J h a j))
      obtain ⟨vm', X', step⟩ := Y.arraycopy X.1 X.2.2.2.1 (mm_word X (mm_ex_cp _ hq rfl) rfl) (mm_word X mm_cp2.1 rfl) (mm_word X mm_cp2.2.1 rfl) (mm_word X mm_cp2.2.2 rfl) (srcPos := sp) (destPos := dp) (n := n) hc0 hc1
        (fun _ g => by cases g) (fun _ g => by cases g) (fun g => by cases g) (fun g => by cases g) hk0 hk0 hkk0 hkk0 (by simp [mm_aty, refKind]) f2 f3 f1
        (by rw [mm_nn f2, mm_nn f1, arrV_size]; omega) (by rw [mm_nn f3, mm_nn f1, arrV_size]; omega)
        (fun vm₁ _ i hi => by
          have e : (arrV (cA 23) (hp_L h a) (fun j => .long (hp_J h a j))).slots.getD (sp.toNatClampNeg + i) .null = .long (hp_J h a (sp.toNatClampNeg + i)) := by
            rw [Array.getD_eq_getD_getElem?, arrV_read _ _ (by omega)]
            rfl
          refine ⟨?_, ?_⟩
          · rw [e]; rfl
          · rw [e]; exact trivial)
        (g := F0 m pc A ((vI n :: vI dp :: vR (some b) :: vI sp :: vR (some a) :: st').map mm_v)) rfl (by rw [X.2.2.1]; exact e4.1.trans e5) (rest := st'.map mm_v) rfl (by rw [X.2.1]; exact hd) hR.1 (by show 2 * 0 + _ + _ ≤ _; omega)
      have ec : copied (arrV (cA 23) (hp_L h a) (fun j => .long (hp_J h a j))) (arrV (cA 23) (hp_L h b) (fun j => .long (hp_J h b j))) sp dp n = arrV (cA 23) (hp_L h b) (fun j => .long (va_cpy (hp_J h a) (hp_J h b) sp.toNatClampNeg dp.toNatClampNeg n.toNatClampNeg j)) := va_copied (fun z => .long z) (cA 23) (cA 23) (hp_J h a) (hp_J h b) f4
      rw [ec] at X' step
      have hheap : ((T.setVm vm').setCell b (arrV (cA 23) (hp_L h b) (fun j => .long (va_cpy (hp_J h a) (hp_J h b) sp.toNatClampNeg dp.toNatClampNeg n.toNatClampNeg j)))).heap = H.setIfInBounds b (arrV (cA 23) (hp_L h b) (fun j => .long (va_cpy (hp_J h a) (hp_J h b) sp.toNatClampNeg dp.toNatClampNeg n.toNatClampNeg j))) := by rw [← hT]; rfl
      obtain ⟨t, a1, b1⟩ := mm_cpW (h' := hp_copJ h a sp.toNatClampNeg b dp.toNatClampNeg n.toNatClampNeg) e1 e2 e3 e4 e5 e6 e7 (by omega) rfl rfl rfl rfl (fun x hx => by
        have hJ : hp_J (hp_copJ h a sp.toNatClampNeg b dp.toNatClampNeg n.toNatClampNeg) x = hp_J h x := if_neg hx
        funext y
        show (if hp_K h x = 23 then Value.long (hp_J (hp_copJ h a sp.toNatClampNeg b dp.toNatClampNeg n.toNatClampNeg) x y) else if hp_K h x < 23 then .int (hp_A h x y) else va_rf (hp_Q h x y)) = hp_e h x y
        rw [hJ]
        rfl) (by
        rw [kb]
        congr 1
        have : hp_K (hp_copJ h a sp.toNatClampNeg b dp.toNatClampNeg n.toNatClampNeg) b = 23 := kb
        rw [hp_e_j this]
        have hJ : hp_J (hp_copJ h a sp.toNatClampNeg b dp.toNatClampNeg n.toNatClampNeg) b = va_cpy (hp_J h a) (hp_J h b) sp.toNatClampNeg dp.toNatClampNeg n.toNatClampNeg := if_pos rfl
        rw [hJ]) (fun q hq => by
          obtain ⟨y, -, hy⟩ := List.mem_map.mp hq
          rw [← hy]) (hk _ _ _ _ _ _ _ hf) _ hheap X'
      exact ⟨t, step t a1, b1⟩
  · exact hf.elim
theorem so_ldc (X : mm_Cx p s m args meth c cc nL own D cA B z) {idx j : Nat} {v : Int} (hq : (own, idx, v, j) ∈ mm_ck) (hd : decode cc pc = .ok (.ldc idx, 2)) : mm_Ok p l e R s m args below meth c D cA B nL QQ C k Q pc (mm_push (vI (Int32.ofInt v)) 2) :=
  fun hk _ _ _ _ _ _ hf => (hk _ _ _ _ _ _ _ hf).go fun _ _ _ _ _ w => lv_ldc (own := mm_on own) X.1 X.2.1 X.2.2.2.1 (mm_word X (mm_ck_ok _ hq) rfl) hd w
theorem so_ldcw (X : mm_Cx p s m args meth c cc nL own D cA B z) {idx j : Nat} {v : Int} (hq : (own, idx, v, j) ∈ mm_ck) (hd : decode cc pc = .ok (.ldc_w idx, 3)) : mm_Ok p l e R s m args below meth c D cA B nL QQ C k Q pc (mm_push (vI (Int32.ofInt v)) 3) :=
  fun hk _ _ _ _ _ _ hf => (hk _ _ _ _ _ _ _ hf).go fun _ _ _ _ _ w => lv_ldcw (own := mm_on own) X.1 X.2.1 X.2.2.2.1 (mm_word X (mm_ck_ok _ hq) rfl) hd w
theorem so_ldc2 (X : mm_Cx p s m args meth c cc nL own D cA B z) {idx j : Nat} {v : Int} (hq : (own, idx, v, j) ∈ mm_cj) (hd : decode cc pc = .ok (.ldc2_w idx, 3)) : mm_Ok p l e R s m args below meth c D cA B nL QQ C k Q pc (mm_push (vJ (Int64.ofInt v)) 3) :=
  fun hk _ _ _ _ _ _ hf => (hk _ _ _ _ _ _ _ hf).go fun _ _ _ _ _ w => lv_ldc2 (own := mm_on own) X.1 X.2.1 X.2.2.2.1 (mm_word X (mm_cj_ok _ hq) rfl) hd w
theorem so_objI (X : mm_Cx p s m args meth c cc nL own D cA B z) (hR : 1 ≤ R.frames ∧ 40 ≤ R.locals) {idx j : Nat} (hq : (own, idx, j) ∈ mm_oi) (hd : decode cc pc = .ok (.invokespecial idx, 3)) : mm_Ok p l e R s m args below meth c D cA B nL QQ C k Q pc mm_objI := by
  intro hk ls st hs h bc bs hf
  unfold mm_objI at hf
  split at hf
  · rename_i a st'
    intro H locs cells slots A e1 e2 e3 e4 e5 e6 e7
    have h8 := mm_cats hf.1
    refine W.objInit X.1 X.2.1 X.2.2.2.1 (mm_word X (mm_oi_ok _ hq) rfl) (mm_word X mm_oi2 rfl) (mm_word X mm_oi3 rfl) rfl (by rw [X.2.2.1]; exact e4.1.trans e5) rfl hd hR.1 (by show 2 * 0 + _ + 12 ≤ _; omega) (hk _ _ _ _ _ _ _ hf.2 H locs cells slots A e1 e2 e3 e4 e5 e6 e7)
  · exact hf.elim
theorem so_max (X : mm_Cx p s m args meth c cc nL own D cA B z) (hR : 1 ≤ R.frames ∧ 40 ≤ R.locals) {idx j : Nat} (hq : (own, idx, 9001, j) ∈ mm_ex) (hd : decode cc pc = .ok (.invokestatic idx, 3)) : mm_Ok p l e R s m args below meth c D cA B nL QQ C k Q pc (mm_ext2 (fun x y => if x < y then y else x)) := by
  intro hk ls st hs h bc bs hf
  unfold mm_ext2 at hf
  split at hf
  · rename_i y x st'
    intro H locs cells slots A e1 e2 e3 e4 e5 e6 e7
    have h8 := mm_cats hf.1
    exact va_mmax X.1 X.2.1 (by rw [X.2.2.1]; exact (e4.1.trans e5).symm) X.2.2.2.1 (mm_word X (mm_ex_max _ hq rfl) rfl) (mm_word X mm_max2 rfl) (mm_word X mm_max3 rfl) (mm_word X mm_max4 rfl) hR.1 (by omega) (by omega) (by omega) hd (hk _ _ _ _ _ _ _ hf.2 H locs cells slots A e1 e2 e3 e4 e5 e6 e7)
  · exact hf.elim
theorem so_min (X : mm_Cx p s m args meth c cc nL own D cA B z) (hR : 1 ≤ R.frames ∧ 40 ≤ R.locals) {idx j : Nat} (hq : (own, idx, 9002, j) ∈ mm_ex) (hd : decode cc pc = .ok (.invokestatic idx, 3)) : mm_Ok p l e R s m args below meth c D cA B nL QQ C k Q pc (mm_ext2 (fun x y => if y < x then y else x)) := by
  intro hk ls st hs h bc bs hf
  unfold mm_ext2 at hf
  split at hf
  · rename_i y x st'
    intro H locs cells slots A e1 e2 e3 e4 e5 e6 e7
    have h8 := mm_cats hf.1
    exact va_mmin X.1 X.2.1 (by rw [X.2.2.1]; exact (e4.1.trans e5).symm) X.2.2.2.1 (mm_word X (mm_ex_min _ hq rfl) rfl) (mm_word X mm_min2 rfl) (mm_word X mm_max3 rfl) (mm_word X mm_min4 rfl) hR.1 (by omega) (by omega) (by omega) hd (hk _ _ _ _ _ _ _ hf.2 H locs cells slots A e1 e2 e3 e4 e5 e6 e7)
  · exact hf.elim
/-! ends -/
def mm_Qc (D : va_G) (cA : Nat → ClassId) (B : Nat) (Q : Qt) : Array Value → State → Outcome → State → Prop := fun _ st o t => ∃ r hs' h', Q r hs' h' ∧ o = .returned (r.map mm_v) ∧ t.heap.size = hs' ∧ hp_W D cA B h' t.heap ∧ va_F (fun q => B ≤ q) st t
theorem so_iret (X : mm_Cx p s m args meth c cc nL own D cA B z) {y : Nat} (hr : (y = 0 ∧ meth.sig.returnType = some .int) ∨ (y = 1 ∧ meth.sig.returnType = some .boolean) ∨ (y = 2 ∧ meth.sig.returnType = some .byte)) (hd : decode cc pc = .ok (.ireturn, 1)) : mm_Ok p l e R s m args below meth c D cA B nL (MQ below (mm_Qc D cA B Q) args s R.cells R.slots (fun q => B ≤ q)) C k Q pc (mm_iret y) := by
  intro hk ls st hs h bc bs hf
  unfold mm_iret at hf
  split at hf
  · rename_i v
    intro H locs cells slots A e1 e2 e3 e4 e5 e6 e7
    have fin : ∀ t : State, t.heap = H → s.WarmedH t.vm → mm_Qc D cA B Q args s (.returned (some (.int v))) t := fun t ht _ => ⟨some (vI v), hs, h, hf.2.2, rfl, by rw [ht]; exact e1, by rw [ht]; exact e2, e3.F ht⟩
    refine W.widen (k := R.cells) (n := R.slots) (by omega) (by omega) ?_
    rcases hr with ⟨hy, hr⟩ | ⟨hy, hr⟩ | ⟨hy, hr⟩
    · exact W.iret X.1 X.2.1 hr fin e3.2.2 hd X.2.2.2.2.2.2.2
    · refine W.zret X.1 X.2.1 hr ?_ fin e3.2.2 hd X.2.2.2.2.2.2.2
      rcases hf.1 hy with g | g <;> subst g <;> rfl
    · refine W.zret X.1 X.2.1 hr ?_ fin e3.2.2 hd X.2.2.2.2.2.2.2
      rw [narrow_byte, hf.2.1 hy]
  · exact hf.elim
theorem so_lret (X : mm_Cx p s m args meth c cc nL own D cA B z) (hr : meth.sig.returnType = some .long) (hd : decode cc pc = .ok (.lreturn, 1)) : mm_Ok p l e R s m args below meth c D cA B nL (MQ below (mm_Qc D cA B Q) args s R.cells R.slots (fun q => B ≤ q)) C k Q pc mm_lret := by
  intro hk ls st hs h bc bs hf
  unfold mm_lret at hf
  split at hf
  · rename_i v
    intro H locs cells slots A e1 e2 e3 e4 e5 e6 e7
    refine W.widen (k := R.cells) (n := R.slots) (by omega) (by omega) ?_
    exact W.lret X.1 X.2.1 hr (fun t ht _ => ⟨some (vJ v), hs, h, hf, rfl, by rw [ht]; exact e1, by rw [ht]; exact e2, e3.F ht⟩) e3.2.2 hd X.2.2.2.2.2.2.2
  · exact hf.elim
theorem so_aret (X : mm_Cx p s m args meth c cc nL own D cA B z) {rt : FieldType} (hr : meth.sig.returnType = some rt) (hrt : mm_isR rt = true) (hd : decode cc pc = .ok (.areturn, 1)) : mm_Ok p l e R s m args below meth c D cA B nL (MQ below (mm_Qc D cA B Q) args s R.cells R.slots (fun q => B ≤ q)) C k Q pc mm_aret := by
  intro hk ls st hs h bc bs hf
  unfold mm_aret at hf
  split at hf
  · rename_i v
    intro H locs cells slots A e1 e2 e3 e4 e5 e6 e7
    refine W.widen (k := R.cells) (n := R.slots) (by omega) (by omega) ?_
    refine W.aret (v := va_rf v) X.1 X.2.1 hr ?_ ?_ (fun t ht _ => ⟨some (vR v), hs, h, hf, rfl, by rw [ht]; exact e1, by rw [ht]; exact e2, e3.F ht⟩) e3.2.2 hd X.2.2.2.2.2.2.2
    · cases rt <;> first | exact Or.inl ⟨_, rfl⟩ | exact Or.inr ⟨_, rfl⟩ | cases hrt
    · cases v
      · exact Or.inl rfl
      · exact Or.inr ⟨_, rfl⟩
  · exact hf.elim
theorem so_vret (X : mm_Cx p s m args meth c cc nL own D cA B z) (hr : meth.sig.returnType = none) (hd : decode cc pc = .ok (.return_, 1)) : mm_Ok p l e R s m args below meth c D cA B nL (MQ below (mm_Qc D cA B Q) args s R.cells R.slots (fun q => B ≤ q)) C k Q pc mm_vret := by
  intro hk ls st hs h bc bs hf
  unfold mm_vret at hf
  split at hf
  · intro H locs cells slots A e1 e2 e3 e4 e5 e6 e7
    refine W.widen (k := R.cells) (n := R.slots) (by omega) (by omega) ?_
    exact W.vret X.1 X.2.1 hr (fun t ht _ => ⟨none, hs, h, hf, rfl, by rw [ht]; exact e1, by rw [ht]; exact e2, e3.F ht⟩) e3.2.2 hd X.2.2.2.2.2.2.2
  · exact hf.elim
end MMB
