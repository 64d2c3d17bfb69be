/-! PART 17: runs and calls over the typed heap, a row a step. -/
def okp (t : TS) (p : Nat × Nat) : Prop := tE t p.1 p.2 = true ∨ (5000 ≤ p.1 ∧ p.2 = 0)
def okv (t : TS) (v : NV) : Prop := match v with
  | .inr (.inr (some p)) => okp t p
  | _ => True
def mv (ad : Nat → Nat → Nat) (v : NV) : MV := match v with
  | .inl x => vI x
  | .inr (.inl x) => vJ x
  | .inr (.inr o) => vR (o.map (fun p => ad p.1 p.2))
def mo (ad : Nat → Nat → Nat) (o : Option NV) : Option MV := o.map (mv ad)
def okL (t : TS) (ls : List (Option NV)) : Prop := ∀ v, some v ∈ ls → okv t v
def okS (t : TS) (st : List NV) : Prop := ∀ v, v ∈ st → okv t v
/-- from one map of addresses to a later one -/
def aext (a0 : Nat → Nat → Nat) (e0 : Nat → Nat → Bool) (ad : Nat → Nat → Nat) (t : TS) : Prop := ∀ k i, e0 k i = true → ad k i = a0 k i ∧ tE t k i = true
def nQ (W : NW) (a0 : Nat → Nat → Nat) (e0 : Nat → Nat → Bool) (Q : Option NV → TS → Prop) : Qt := fun r hs h => ∃ ad t r', RV W ad t hs h ∧ aext a0 e0 ad t ∧ (∀ v, r' = some v → okv t v) ∧ r = mo ad r' ∧ Q r' t
def nX (W : NW) (d : Nat) (T : Nat → Option En) (Q : Option NV → TS → Prop) (a0 : Nat → Nat → Nat) (e0 : Nat → Nat → Bool) (pc : Nat) (ls : List (Option NV)) (st : List NV) (t : TS) (bc bs : Nat) : Prop := ∀ ad hs h, RV W ad t hs h → aext a0 e0 ad t → okL t ls → okS t st → mm_X W.1 (mm_C W.1 mm_mL mm_P d) T (nQ W a0 e0 Q) pc (ls.map (mo ad)) (st.map (mv ad)) hs h bc bs
def nC (W : NW) (d x : Nat) (as : List NV) (t : TS) (bc bs : Nat) (Q : Option NV → TS → Prop) : Prop := ∀ ad hs h, RV W ad t hs h → okS t as → mm_C W.1 mm_mL mm_P d x (as.map (mv ad)) hs h bc bs (nQ W ad (tE t) Q)
def nn_args : List NV → List (Option NV)
  | [] => []
  | .inr (.inl x) :: r => some (eJ x) :: none :: nn_args r
  | v :: r => some v :: nn_args r
def nn_loc (as : List NV) (n : Nat) : List (Option NV) := nn_args as ++ List.replicate (n - (nn_args as).length) none
def nn_set1 (ls : List (Option NV)) (i : Nat) (v : NV) : List (Option NV) := match i with
  | 0 => ls.set 0 (some v)
  | i + 1 => match ls[i]? with
    | some (some (.inr (.inl _))) => (ls.set i none).set (i + 1) (some v)
    | _ => ls.set (i + 1) (some v)
def nn_set2 (ls : List (Option NV)) (i : Nat) (v : NV) : List (Option NV) := (nn_set1 ls i v).set (i + 1) none
theorem nn_args_map (ad : Nat → Nat → Nat) : ∀ as : List NV, mm_args (as.map (mv ad)) = (nn_args as).map (mo ad)
  | [] => rfl
  | .inl x :: r => congrArg (some (vI x) :: ·) (nn_args_map ad r)
  | .inr (.inl x) :: r => congrArg (fun q => some (vJ x) :: none :: q) (nn_args_map ad r)
  | .inr (.inr o) :: r => congrArg (some (mv ad (eR o)) :: ·) (nn_args_map ad r)
theorem nn_loc_map (ad : Nat → Nat → Nat) (as : List NV) (n : Nat) : mm_loc (as.map (mv ad)) n = (nn_loc as n).map (mo ad) := by
  unfold mm_loc nn_loc
  rw [nn_args_map, List.map_append, List.length_map, List.map_replicate]
  rfl
theorem nn_set1_map (ad : Nat → Nat → Nat) (ls : List (Option NV)) (i : Nat) (v : NV) : mm_set1 (ls.map (mo ad)) i (mv ad v) = (nn_set1 ls i v).map (mo ad) := by
  cases i with
  | zero => show (ls.map (mo ad)).set 0 (mo ad (some v)) = (ls.set 0 (some v)).map (mo ad); rw [List.map_set]
  | succ i =>
    have h0 : (ls.map (mo ad)).set (i + 1) (mo ad (some v)) = (ls.set (i + 1) (some v)).map (mo ad) := by rw [List.map_set]
    show (match (ls.map (mo ad))[i]? with
      | some (some (.inr (.inl _))) => ((ls.map (mo ad)).set i none).set (i + 1) (some (mv ad v))
      | _ => (ls.map (mo ad)).set (i + 1) (some (mv ad v))) = (match ls[i]? with
      | some (some (.inr (.inl _))) => (ls.set i none).set (i + 1) (some v)
      | _ => ls.set (i + 1) (some v)).map (mo ad)
    rw [List.getElem?_map]
    cases hl : ls[i]? with
    | none => exact h0
    | some o =>
      cases o with
      | none => exact h0
      | some w =>
        rcases w with x | x | x
        · exact h0
        · show ((ls.map (mo ad)).set i (mo ad none)).set (i + 1) (mo ad (some v)) = ((ls.set i none).set (i + 1) (some v)).map (mo ad)
          rw [List.map_set, List.map_set]
        · exact h0
theorem nn_set2_map (ad : Nat → Nat → Nat) (ls : List (Option NV)) (i : Nat) (v : NV) : mm_set2 (ls.map (mo ad)) i (mv ad v) = (nn_set2 ls i v).map (mo ad) := by
  unfold mm_set2 nn_set2
  rw [nn_set1_map]
  show ((nn_set1 ls i v).map (mo ad)).set (i + 1) (mo ad none) = _
  rw [List.map_set]
theorem mem_set {α : Type} {l : List α} {i : Nat} {a b : α} (h : b ∈ l.set i a) : b ∈ l ∨ b = a := List.mem_or_eq_of_mem_set h
theorem nn_set1_ok {t : TS} {ls : List (Option NV)} {i : Nat} {v : NV} (hl : okL t ls) (hv : okv t v) : okL t (nn_set1 ls i v) := by
  have h1 : ∀ (l : List (Option NV)) j, okL t l → okL t (l.set j (some v)) := fun l j g w hw => by
    rcases mem_set hw with e | e
    · exact g w e
    · cases e; exact hv
  have h2 : ∀ (l : List (Option NV)) j, okL t l → okL t (l.set j none) := fun l j g w hw => by
    rcases mem_set hw with e | e
    · exact g w e
    · cases e
  cases i with
  | zero => exact h1 _ _ hl
  | succ i =>
    show okL t (match ls[i]? with
      | some (some (.inr (.inl _))) => (ls.set i none).set (i + 1) (some v)
      | _ => ls.set (i + 1) (some v))
    split
    · exact h1 _ _ (h2 _ _ hl)
    · exact h1 _ _ hl
theorem nn_set2_ok {t : TS} {ls : List (Option NV)} {i : Nat} {v : NV} (hl : okL t ls) (hv : okv t v) : okL t (nn_set2 ls i v) := by
  intro w hw
  rcases mem_set hw with e | e
  · exact nn_set1_ok hl hv w e
  · cases e
theorem okS_cons {t : TS} {v : NV} {st : List NV} (hv : okv t v) (h : okS t st) : okS t (v :: st) := fun w hw => by
  rcases List.mem_cons.mp hw with e | e
  · rw [e]; exact hv
  · exact h w e
theorem okS_tl {t : TS} {v : NV} {st : List NV} (h : okS t (v :: st)) : okS t st := fun w hw => h w (List.mem_cons_of_mem _ hw)
theorem okS_hd {t : TS} {v : NV} {st : List NV} (h : okS t (v :: st)) : okv t v := h v List.mem_cons_self
theorem okv_mono {a0 : Nat → Nat → Nat} {ad : Nat → Nat → Nat} {t t' : TS} (he : aext a0 (tE t) ad t') {v : NV} (h : okv t v) : okv t' v := by
  rcases v with x | x | _ | p
  · trivial
  · trivial
  · trivial
  · rcases h with h | h
    · exact Or.inl (he _ _ h).2
    · exact Or.inr h
theorem okL_mono {a0 ad : Nat → Nat → Nat} {t t' : TS} (he : aext a0 (tE t) ad t') {ls : List (Option NV)} (h : okL t ls) : okL t' ls := fun v hv => okv_mono he (h v hv)
theorem okS_mono {a0 ad : Nat → Nat → Nat} {t t' : TS} (he : aext a0 (tE t) ad t') {st : List NV} (h : okS t st) : okS t' st := fun v hv => okv_mono he (h v hv)
theorem mv_ext {W : NW} {a0 ad : Nat → Nat → Nat} {t t' : TS} {hs hs' : Nat} {h h' : Hp} (h0 : RV W a0 t hs h) (h1 : RV W ad t' hs' h') (he : aext a0 (tE t) ad t') {v : NV} (hv : okv t v) : mv a0 v = mv ad v := by
  rcases v with x | x | _ | p
  · rfl
  · rfl
  · rfl
  · show vR (some (a0 p.1 p.2)) = vR (some (ad p.1 p.2))
    rcases hv with h | h
    · rw [(he _ _ h).1]
    · have e1 := h0.2.2.2.2.2.1.1 (p.1 - 5000)
      have e2 := h1.2.2.2.2.2.1.1 (p.1 - 5000)
      rw [show 5000 + (p.1 - 5000) = p.1 by omega] at e1 e2
      rw [h.2, e1, e2]
theorem mvS_ext {W : NW} {a0 ad : Nat → Nat → Nat} {t t' : TS} {hs hs' : Nat} {h h' : Hp} (h0 : RV W a0 t hs h) (h1 : RV W ad t' hs' h') (he : aext a0 (tE t) ad t') {st : List NV} (hv : okS t st) : st.map (mv a0) = st.map (mv ad) := List.map_congr_left (fun v hm => mv_ext h0 h1 he (hv v hm))
theorem mvL_ext {W : NW} {a0 ad : Nat → Nat → Nat} {t t' : TS} {hs hs' : Nat} {h h' : Hp} (h0 : RV W a0 t hs h) (h1 : RV W ad t' hs' h') (he : aext a0 (tE t) ad t') {ls : List (Option NV)} (hv : okL t ls) : ls.map (mo a0) = ls.map (mo ad) := List.map_congr_left (fun o hm => by
  cases o with
  | none => rfl
  | some v => exact congrArg some (mv_ext h0 h1 he (hv v hm)))
theorem aext_rf {ad : Nat → Nat → Nat} {t : TS} : aext ad (tE t) ad t := fun _ _ h => ⟨rfl, h⟩
theorem aext_tr {a0 a1 a2 : Nat → Nat → Nat} {e0 : Nat → Nat → Bool} {t1 t2 : TS} (h1 : aext a0 e0 a1 t1) (h2 : aext a1 (tE t1) a2 t2) : aext a0 e0 a2 t2 := fun k i h => ⟨((h2 k i (h1 k i h).2).1).trans (h1 k i h).1, (h2 k i (h1 k i h).2).2⟩
/-- values of functions: none where the run would not go on -/
def wp {α : Type} (o : Option α) (Q : α → Prop) : Prop := ∃ a, o = some a ∧ Q a
def nxt {α β : Type} (v : α) (k : α → Option β) : Option β := k v
def oc {α : Type} (o : Option Nat) (a : Option α) (b : Nat → Option α) : Option α := match o with
  | none => a
  | some i => b i
def gd {α : Type} (i : Int32) (n : Nat) (k : Option α) : Option α := if i < 0 ∨ n ≤ i.toNatClampNeg then none else k
def gz {α : Type} (y : Int32) (k : Option α) : Option α := if y = 0 then none else k
def gzJ {α : Type} (y : Int64) (k : Option α) : Option α := if y = 0 then none else k
def gb {α : Type} (v : Int32) (k : Option α) : Option α := if v = 0 ∨ v = 1 then k else none
def gE {α : Type} (e : Bool) (k : Option α) : Option α := if e = true then none else k
def gn {α : Type} (n : Int32) (cap : Nat) (k : Option α) : Option α := if n < 0 ∨ cap < n.toNatClampNeg then none else k
def swi {α : Type} (x : Int32) (lo : Int) (bs : List (Option α)) (df : Option α) : Option α := match bs with
  | [] => df
  | b :: r => if x = Int32.ofInt lo then b else swi x (lo + 1) r df
def swl {α : Type} (x : Int32) (bs : List (Int × Option α)) (df : Option α) : Option α := match bs with
  | [] => df
  | b :: r => if x = Int32.ofInt b.1 then b.2 else swl x r df
theorem wp_some {α : Type} {a : α} {Q : α → Prop} (H : wp (some a) Q) : Q a := by
  obtain ⟨b, e, h⟩ := H
  cases e; exact h
theorem wp_none {α : Type} {Q : α → Prop} (H : wp (none : Option α) Q) : False := by
  obtain ⟨b, e, h⟩ := H
  cases e
theorem oc_no {α : Type} {a : Option α} {b : Nat → Option α} {Q : α → Prop} (H : wp (oc none a b) Q) : wp a Q := H
theorem oc_so {α : Type} {i : Nat} {a : Option α} {b : Nat → Option α} {Q : α → Prop} (H : wp (oc (some i) a b) Q) : wp (b i) Q := H
theorem gd_in {α : Type} {i : Int32} {n : Nat} {k : Option α} {Q : α → Prop} (H : wp (gd i n k) Q) : vp_in i n ∧ wp k Q := by
  unfold gd at H
  by_cases e : i < 0 ∨ n ≤ i.toNatClampNeg
  · rw [if_pos e] at H; exact (wp_none H).elim
  · rw [if_neg e] at H; exact ⟨e, H⟩
theorem gz_in {α : Type} {y : Int32} {k : Option α} {Q : α → Prop} (H : wp (gz y k) Q) : ¬ y = 0 ∧ wp k Q := by
  unfold gz at H
  by_cases e : y = 0
  · rw [if_pos e] at H; exact (wp_none H).elim
  · rw [if_neg e] at H; exact ⟨e, H⟩
theorem gzJ_in {α : Type} {y : Int64} {k : Option α} {Q : α → Prop} (H : wp (gzJ y k) Q) : ¬ y = 0 ∧ wp k Q := by
  unfold gzJ at H
  by_cases e : y = 0
  · rw [if_pos e] at H; exact (wp_none H).elim
  · rw [if_neg e] at H; exact ⟨e, H⟩
theorem gb_in {α : Type} {v : Int32} {k : Option α} {Q : α → Prop} (H : wp (gb v k) Q) : (v = 0 ∨ v = 1) ∧ wp k Q := by
  unfold gb at H
  by_cases e : v = 0 ∨ v = 1
  · rw [if_pos e] at H; exact ⟨e, H⟩
  · rw [if_neg e] at H; exact (wp_none H).elim
theorem gE_in {α : Type} {e : Bool} {k : Option α} {Q : α → Prop} (H : wp (gE e k) Q) : e = false ∧ wp k Q := by
  cases e
  · exact ⟨rfl, H⟩
  · exact (wp_none H).elim
theorem gn_in {α : Type} {n : Int32} {cap : Nat} {k : Option α} {Q : α → Prop} (H : wp (gn n cap k) Q) : (¬ n < 0 ∧ n.toNatClampNeg ≤ cap) ∧ wp k Q := by
  unfold gn at H
  by_cases e : n < 0 ∨ cap < n.toNatClampNeg
  · rw [if_pos e] at H; exact (wp_none H).elim
  · rw [if_neg e] at H; exact ⟨⟨fun g => e (Or.inl g), Nat.not_lt.mp (fun g => e (Or.inr g))⟩, H⟩
theorem ite_in {α : Type} {P : Prop} {dP : Decidable P} {a b : Option α} {Q : α → Prop} (H : wp (@ite _ P dP a b) Q) : (P → wp a Q) ∧ (¬ P → wp b Q) := by
  by_cases e : P
  · rw [if_pos e] at H; exact ⟨fun _ => H, fun g => absurd e g⟩
  · rw [if_neg e] at H; exact ⟨fun g => absurd g e, fun _ => H⟩
theorem nC_in {W : NW} {d x : Nat} {as : List NV} {t : TS} {bc bs : Nat} {Q : Option NV → TS → Prop} {T : Nat → Option En} {ls : List (Option NV)} (hT : mm_P x = some T) (hl : (nn_args as).length ≤ mm_mL x) (hls : nn_loc as (mm_mL x) = ls) (hX : ∀ a0 e0, nX W d T Q a0 e0 0 ls [] t bc bs) : nC W (d + 1) x as t bc bs Q := by
  intro ad hs h hR hok
  refine mm_C_in hT (by rw [nn_args_map, List.length_map]; exact hl) ?_
  rw [nn_loc_map, hls]
  refine hX ad (tE t) ad hs h hR aext_rf ?_ (fun v hv => by cases hv)
  subst hls
  intro v hv
  rcases List.mem_append.mp hv with g | g
  · have h1 : ∀ as : List NV, some v ∈ nn_args as → v ∈ as := by
      intro as
      induction as with
      | nil => intro g; cases g
      | cons w r ih =>
        intro g
        rcases w with x | x | x
        · rcases List.mem_cons.mp g with e | e
          · cases e; exact List.mem_cons_self
          · exact List.mem_cons_of_mem _ (ih e)
        · rcases List.mem_cons.mp g with e | e
          · cases e; exact List.mem_cons_self
          · rcases List.mem_cons.mp e with e | e
            · cases e
            · exact List.mem_cons_of_mem _ (ih e)
        · rcases List.mem_cons.mp g with e | e
          · cases e; exact List.mem_cons_self
          · exact List.mem_cons_of_mem _ (ih e)
    exact hok v (h1 as g)
  · have := List.eq_of_mem_replicate g
    cases this
section NX
variable {W : NW} {d : Nat} {T : Nat → Option En} {Q : Option NV → TS → Prop} {a0 : Nat → Nat → Nat} {e0 : Nat → Nat → Bool} {pc : Nat} {q : En} {ls : List (Option NV)} {st : List NV} {t : TS} {bc bs : Nat}
theorem nx_push (hT : T pc = some q) {v : MV} {w : NV} {n : Nat} (hs2 : mm_sem W.1 q = mm_push v n) (hv : ∀ ad, mv ad w = v) (ho : ∀ t, okv t w) (k : nX W d T Q a0 e0 (pc + n) ls (w :: st) t bc bs) : nX W d T Q a0 e0 pc ls st t bc bs := fun ad hs h hR he hl hst => rx_push (mm_C_mono d) hT hs2 (by rw [← hv ad]; exact k ad hs h hR he hl (okS_cons (ho t) hst))
theorem nx_int (hT : T pc = some q) {x : Int32} {n : Nat} (hs2 : mm_sem W.1 q = mm_push (vI x) n) (k : nX W d T Q a0 e0 (pc + n) ls (eI x :: st) t bc bs) : nX W d T Q a0 e0 pc ls st t bc bs := nx_push (w := eI x) hT hs2 (fun _ => rfl) (fun _ => trivial) k
theorem nx_long (hT : T pc = some q) {x : Int64} {n : Nat} (hs2 : mm_sem W.1 q = mm_push (vJ x) n) (k : nX W d T Q a0 e0 (pc + n) ls (eJ x :: st) t bc bs) : nX W d T Q a0 e0 pc ls st t bc bs := nx_push (w := eJ x) hT hs2 (fun _ => rfl) (fun _ => trivial) k
theorem nx_nul (c : Nat) (hT : T pc = some q) {n : Nat} (hs2 : mm_sem W.1 q = mm_push (vR none) n) (k : nX W d T Q a0 e0 (pc + n) ls (eO c none :: st) t bc bs) : nX W d T Q a0 e0 pc ls st t bc bs := nx_push (w := eO c none) hT hs2 (fun _ => rfl) (fun _ => trivial) k
theorem nx_sta (s : Nat) (hT : T pc = some q) {n : Nat} (hs2 : mm_sem W.1 q = mm_push (vR (some (W.1.2 s))) n) (k : nX W d T Q a0 e0 (pc + n) ls (eR (some (5000 + s, 0)) :: st) t bc bs) : nX W d T Q a0 e0 pc ls st t bc bs := fun ad hs h hR he hl hst => rx_push (mm_C_mono d) hT hs2 (by rw [← hR.2.2.2.2.2.1.1 s]; exact k ad hs h hR he hl (okS_cons (Or.inr ⟨Nat.le_add_right _ _, rfl⟩) hst))
theorem nx_ld (hT : T pc = some q) {v : NV} {i kd n : Nat} (hs2 : mm_sem W.1 q = mm_ld i kd n) (hl : ls[i]? = some (some v)) (hv : mm_k (mv (fun _ _ => 0) v) = kd) (k : nX W d T Q a0 e0 (pc + n) ls (v :: st) t bc bs) : nX W d T Q a0 e0 pc ls st t bc bs := fun ad hs h hR he hl2 hst => rx_ld (mm_C_mono d) hT hs2 (by rw [List.getElem?_map, hl]; rfl) (by rw [← hv]; rcases v with x | x | x <;> rfl) (k ad hs h hR he hl2 (okS_cons (hl2 v (List.mem_of_getElem? hl)) hst))
theorem nx_st (hT : T pc = some q) {v : NV} {i kd n : Nat} {ls' : List (Option NV)} (hs2 : mm_sem W.1 q = mm_st i kd n) (hv : mm_k (mv (fun _ _ => 0) v) = kd) (hi : i < ls.length) (hl : nn_set1 ls i v = ls') (k : nX W d T Q a0 e0 (pc + n) ls' st t bc bs) : nX W d T Q a0 e0 pc ls (v :: st) t bc bs := fun ad hs h hR he hl2 hst => rx_st (mm_C_mono d) hT hs2 (by rw [← hv]; rcases v with x | x | x <;> rfl) (by rw [List.length_map]; exact hi) (nn_set1_map ad ls i v) (by subst hl; exact k ad hs h hR he (nn_set1_ok hl2 (okS_hd hst)) (okS_tl hst))
theorem nx_st2 (hT : T pc = some q) {v : Int64} {i n : Nat} {ls' : List (Option NV)} (hs2 : mm_sem W.1 q = mm_st2 i n) (hi : i + 1 < ls.length) (hl : nn_set2 ls i (eJ v) = ls') (k : nX W d T Q a0 e0 (pc + n) ls' st t bc bs) : nX W d T Q a0 e0 pc ls (eJ v :: st) t bc bs := fun ad hs h hR he hl2 hst => rx_st2 (mm_C_mono d) hT hs2 (by rw [List.length_map]; exact hi) (nn_set2_map ad ls i (eJ v)) (by subst hl; exact k ad hs h hR he (nn_set2_ok hl2 trivial) (okS_tl hst))
theorem nx_iinc (hT : T pc = some q) {x : Int32} {i : Nat} {n : Int} {ls' : List (Option NV)} (hs2 : mm_sem W.1 q = mm_iinc i n) (hx : ls[i]? = some (some (eI x))) (hl : nn_set1 ls i (eI (x + Int32.ofInt n)) = ls') (k : nX W d T Q a0 e0 (pc + 3) ls' st t bc bs) : nX W d T Q a0 e0 pc ls st t bc bs := fun ad hs h hR he hl2 hst => rx_iinc (mm_C_mono d) hT hs2 (by rw [List.getElem?_map, hx]; rfl) (nn_set1_map ad ls i (eI _)) (by subst hl; exact k ad hs h hR he (nn_set1_ok hl2 trivial) hst)
theorem nx_ii (hT : T pc = some q) {x y : Int32} {f : Int32 → Int32 → Int32} (hs2 : mm_sem W.1 q = mm_ii f) (k : nX W d T Q a0 e0 (pc + 1) ls (eI (f x y) :: st) t bc bs) : nX W d T Q a0 e0 pc ls (eI y :: eI x :: st) t bc bs := fun ad hs h hR he hl hst => rx_ii (mm_C_mono d) hT hs2 (k ad hs h hR he hl (okS_cons trivial (okS_tl (okS_tl hst))))
theorem nx_jj (hT : T pc = some q) {x y : Int64} {f : Int64 → Int64 → Int64} (hs2 : mm_sem W.1 q = mm_jj f) (k : nX W d T Q a0 e0 (pc + 1) ls (eJ (f x y) :: st) t bc bs) : nX W d T Q a0 e0 pc ls (eJ y :: eJ x :: st) t bc bs := fun ad hs h hR he hl hst => rx_jj (mm_C_mono d) hT hs2 (k ad hs h hR he hl (okS_cons trivial (okS_tl (okS_tl hst))))
theorem nx_idiv (hT : T pc = some q) {x y : Int32} {f : Int32 → Int32 → Int32} (hs2 : mm_sem W.1 q = mm_idiv f) {α : Type} {b : Option α} {Qp : α → Prop} (H : wp (gz y b) Qp) (k : wp b Qp → nX W d T Q a0 e0 (pc + 1) ls (eI (f x y) :: st) t bc bs) : nX W d T Q a0 e0 pc ls (eI y :: eI x :: st) t bc bs := fun ad hs h hR he hl hst => rx_idiv (mm_C_mono d) hT hs2 (gz_in H).1 (k (gz_in H).2 ad hs h hR he hl (okS_cons trivial (okS_tl (okS_tl hst))))
/-- the divisor is a number -/
theorem nx_idivL (hT : T pc = some q) {x y : Int32} {f : Int32 → Int32 → Int32} (hs2 : mm_sem W.1 q = mm_idiv f) (hy : ¬ y = 0) (k : nX W d T Q a0 e0 (pc + 1) ls (eI (f x y) :: st) t bc bs) : nX W d T Q a0 e0 pc ls (eI y :: eI x :: st) t bc bs := fun ad hs h hR he hl hst => rx_idiv (mm_C_mono d) hT hs2 hy (k ad hs h hR he hl (okS_cons trivial (okS_tl (okS_tl hst))))
theorem nx_jdiv (hT : T pc = some q) {x y : Int64} {f : Int64 → Int64 → Int64} (hs2 : mm_sem W.1 q = mm_jdiv f) {α : Type} {b : Option α} {Qp : α → Prop} (H : wp (gzJ y b) Qp) (k : wp b Qp → nX W d T Q a0 e0 (pc + 1) ls (eJ (f x y) :: st) t bc bs) : nX W d T Q a0 e0 pc ls (eJ y :: eJ x :: st) t bc bs := fun ad hs h hR he hl hst => rx_jdiv (mm_C_mono d) hT hs2 (gzJ_in H).1 (k (gzJ_in H).2 ad hs h hR he hl (okS_cons trivial (okS_tl (okS_tl hst))))
theorem nx_lshl (hT : T pc = some q) {x : Int64} {y : Int32} (hs2 : mm_sem W.1 q = mm_lshl) (k : nX W d T Q a0 e0 (pc + 1) ls (eJ (x <<< (y.toInt64 &&& 63)) :: st) t bc bs) : nX W d T Q a0 e0 pc ls (eI y :: eJ x :: st) t bc bs := fun ad hs h hR he hl hst => rx_lshl (mm_C_mono d) hT hs2 (k ad hs h hR he hl (okS_cons trivial (okS_tl (okS_tl hst))))
theorem nx_lcmp (hT : T pc = some q) {x y : Int64} (hs2 : mm_sem W.1 q = mm_lcmp) (k : nX W d T Q a0 e0 (pc + 1) ls (eI (lg_cmp x y) :: st) t bc bs) : nX W d T Q a0 e0 pc ls (eJ y :: eJ x :: st) t bc bs := fun ad hs h hR he hl hst => rx_lcmp (mm_C_mono d) hT hs2 (k ad hs h hR he hl (okS_cons trivial (okS_tl (okS_tl hst))))
theorem nx_i1 (hT : T pc = some q) {x : Int32} {f : Int32 → Int32} (hs2 : mm_sem W.1 q = mm_i1 f) (k : nX W d T Q a0 e0 (pc + 1) ls (eI (f x) :: st) t bc bs) : nX W d T Q a0 e0 pc ls (eI x :: st) t bc bs := fun ad hs h hR he hl hst => rx_i1 (mm_C_mono d) hT hs2 (k ad hs h hR he hl (okS_cons trivial (okS_tl hst)))
theorem nx_i2l (hT : T pc = some q) {x : Int32} (hs2 : mm_sem W.1 q = mm_i2l) (k : nX W d T Q a0 e0 (pc + 1) ls (eJ x.toInt64 :: st) t bc bs) : nX W d T Q a0 e0 pc ls (eI x :: st) t bc bs := fun ad hs h hR he hl hst => rx_i2l (mm_C_mono d) hT hs2 (k ad hs h hR he hl (okS_cons trivial (okS_tl hst)))
theorem nx_l2i (hT : T pc = some q) {x : Int64} (hs2 : mm_sem W.1 q = mm_l2i) (k : nX W d T Q a0 e0 (pc + 1) ls (eI x.toInt32 :: st) t bc bs) : nX W d T Q a0 e0 pc ls (eJ x :: st) t bc bs := fun ad hs h hR he hl hst => rx_l2i (mm_C_mono d) hT hs2 (k ad hs h hR he hl (okS_cons trivial (okS_tl hst)))
theorem nn_k {v : NV} {ad : Nat → Nat → Nat} (hv : ¬ mm_k (mv (fun _ _ => 0) v) = 1) : ¬ mm_k (mv ad v) = 1 := by
  rcases v with x | x | x
  · exact hv
  · exact hv
  · exact hv
theorem nx_pop (hT : T pc = some q) {v : NV} (hs2 : mm_sem W.1 q = mm_pop) (hv : ¬ mm_k (mv (fun _ _ => 0) v) = 1) (k : nX W d T Q a0 e0 (pc + 1) ls st t bc bs) : nX W d T Q a0 e0 pc ls (v :: st) t bc bs := fun ad hs h hR he hl hst => rx_pop (mm_C_mono d) hT hs2 (nn_k hv) (k ad hs h hR he hl (okS_tl hst))
theorem nx_dup (hT : T pc = some q) {v : NV} (hs2 : mm_sem W.1 q = mm_dup) (hv : ¬ mm_k (mv (fun _ _ => 0) v) = 1) (k : nX W d T Q a0 e0 (pc + 1) ls (v :: v :: st) t bc bs) : nX W d T Q a0 e0 pc ls (v :: st) t bc bs := fun ad hs h hR he hl hst => rx_dup (mm_C_mono d) hT hs2 (nn_k hv) (k ad hs h hR he hl (okS_cons (okS_hd hst) hst))
theorem nx_dup2 (hT : T pc = some q) {v w : NV} (hs2 : mm_sem W.1 q = mm_dup2) (hv : ¬ mm_k (mv (fun _ _ => 0) v) = 1) (hw : ¬ mm_k (mv (fun _ _ => 0) w) = 1) (k : nX W d T Q a0 e0 (pc + 1) ls (v :: w :: v :: w :: st) t bc bs) : nX W d T Q a0 e0 pc ls (v :: w :: st) t bc bs := fun ad hs h hR he hl hst => rx_dup2 (mm_C_mono d) hT hs2 (nn_k hv) (nn_k hw) (k ad hs h hR he hl (okS_cons (okS_hd hst) (okS_cons (okS_hd (okS_tl hst)) hst)))
theorem nx_goto (hT : T pc = some q) {tg : Nat} (hs2 : mm_sem W.1 q = mm_goto tg) (k : nX W d T Q a0 e0 tg ls st t bc bs) : nX W d T Q a0 e0 pc ls st t bc bs := fun ad hs h hR he hl hst => rx_goto (mm_C_mono d) hT hs2 (k ad hs h hR he hl hst)
theorem nx_icmp (hT : T pc = some q) {x y : Int32} {c : Jvm.ClassFile.Cond} {tg : Nat} (hs2 : mm_sem W.1 q = mm_icmp c tg) {P : Prop} {dP : Decidable P} (hP : mm_ic c x y = P) {α : Type} {a b : Option α} {Qp : α → Prop} (H : wp (@ite _ P dP a b) Qp) (k1 : wp a Qp → nX W d T Q a0 e0 tg ls st t bc bs) (k2 : wp b Qp → nX W d T Q a0 e0 (pc + 3) ls st t bc bs) : nX W d T Q a0 e0 pc ls (eI y :: eI x :: st) t bc bs := fun ad hs h hR he hl hst => rx_icmp (mm_C_mono d) hT hs2 (fun g => k1 ((ite_in H).1 (cast hP g)) ad hs h hR he hl (okS_tl (okS_tl hst))) (fun g => k2 ((ite_in H).2 (fun g2 => g (cast hP.symm g2))) ad hs h hR he hl (okS_tl (okS_tl hst)))
theorem nx_if (hT : T pc = some q) {x : Int32} {c : Jvm.ClassFile.Cond} {tg : Nat} (hs2 : mm_sem W.1 q = mm_if c tg) {P : Prop} {dP : Decidable P} (hP : mm_ic c x 0 = P) {α : Type} {a b : Option α} {Qp : α → Prop} (H : wp (@ite _ P dP a b) Qp) (k1 : wp a Qp → nX W d T Q a0 e0 tg ls st t bc bs) (k2 : wp b Qp → nX W d T Q a0 e0 (pc + 3) ls st t bc bs) : nX W d T Q a0 e0 pc ls (eI x :: st) t bc bs := fun ad hs h hR he hl hst => rx_if (mm_C_mono d) hT hs2 (fun g => k1 ((ite_in H).1 (cast hP g)) ad hs h hR he hl (okS_tl hst)) (fun g => k2 ((ite_in H).2 (fun g2 => g (cast hP.symm g2))) ad hs h hR he hl (okS_tl hst))
/-- a branch whose way is known -/
theorem nx_ifT (hT : T pc = some q) {x : Int32} {c : Jvm.ClassFile.Cond} {tg : Nat} (hs2 : mm_sem W.1 q = mm_if c tg) (hP : mm_ic c x 0) (k : nX W d T Q a0 e0 tg ls st t bc bs) : nX W d T Q a0 e0 pc ls (eI x :: st) t bc bs := fun ad hs h hR he hl hst => rx_if (mm_C_mono d) hT hs2 (fun _ => k ad hs h hR he hl (okS_tl hst)) (fun g => absurd hP g)
theorem nx_ifF (hT : T pc = some q) {x : Int32} {c : Jvm.ClassFile.Cond} {tg : Nat} (hs2 : mm_sem W.1 q = mm_if c tg) (hP : ¬ mm_ic c x 0) (k : nX W d T Q a0 e0 (pc + 3) ls st t bc bs) : nX W d T Q a0 e0 pc ls (eI x :: st) t bc bs := fun ad hs h hR he hl hst => rx_if (mm_C_mono d) hT hs2 (fun g => absurd g hP) (fun _ => k ad hs h hR he hl (okS_tl hst))
theorem oad {W : NW} {ad : Nat → Nat → Nat} {t : TS} {hs : Nat} {h : Hp} (hR : RV W ad t hs h) {c : Nat} (hc : c < 5000) {o1 o2 : Option Nat} (h1 : okv t (eO c o1)) (h2 : okv t (eO c o2)) : ((o1.map (fun i => (c, i))).map (fun p => ad p.1 p.2) = (o2.map (fun i => (c, i))).map (fun p => ad p.1 p.2)) ↔ o1 = o2 := by
  cases o1 with
  | none => cases o2 with
    | none => exact ⟨fun _ => rfl, fun _ => rfl⟩
    | some j => exact ⟨fun g => (by cases g), fun g => (by cases g)⟩
  | some i => cases o2 with
    | none => exact ⟨fun g => (by cases g), fun g => (by cases g)⟩
    | some j =>
      have e1 : tE t c i = true := Or.resolve_right h1 (fun g => absurd g.1 (by show ¬ 5000 ≤ c; omega))
      have e2 : tE t c j = true := Or.resolve_right h2 (fun g => absurd g.1 (by show ¬ 5000 ≤ c; omega))
      refine ⟨fun g => ?_, fun g => by rw [g]⟩
      have g2 : ad c i = ad c j := Option.some.inj g
      rw [(hR.2.1 _ _ _ _ e1 e2 g2).2]
theorem nx_aeq (hT : T pc = some q) {c : Nat} {o1 o2 : Option Nat} {tg : Nat} (hs2 : mm_sem W.1 q = mm_acmp .eq tg) (hc : c < 5000) {dP : Decidable (o1 = o2)} {α : Type} {a b : Option α} {Qp : α → Prop} (H : wp (@ite _ (o1 = o2) dP a b) Qp) (k1 : wp a Qp → nX W d T Q a0 e0 tg ls st t bc bs) (k2 : wp b Qp → nX W d T Q a0 e0 (pc + 3) ls st t bc bs) : nX W d T Q a0 e0 pc ls (eO c o2 :: eO c o1 :: st) t bc bs := fun ad hs h hR he hl hst => rx_aeq (mm_C_mono d) hT hs2 (fun g => k1 ((ite_in H).1 ((oad hR hc (okS_hd (okS_tl hst)) (okS_hd hst)).mp g)) ad hs h hR he hl (okS_tl (okS_tl hst))) (fun g => k2 ((ite_in H).2 (fun g2 => g ((oad hR hc (okS_hd (okS_tl hst)) (okS_hd hst)).mpr g2))) ad hs h hR he hl (okS_tl (okS_tl hst)))
/-- other: 'a' is where they are the same -/
theorem nx_ane (hT : T pc = some q) {c : Nat} {o1 o2 : Option Nat} {tg : Nat} (hs2 : mm_sem W.1 q = mm_acmp .ne tg) (hc : c < 5000) {dP : Decidable (o1 = o2)} {α : Type} {a b : Option α} {Qp : α → Prop} (H : wp (@ite _ (o1 = o2) dP a b) Qp) (k1 : wp b Qp → nX W d T Q a0 e0 tg ls st t bc bs) (k2 : wp a Qp → nX W d T Q a0 e0 (pc + 3) ls st t bc bs) : nX W d T Q a0 e0 pc ls (eO c o2 :: eO c o1 :: st) t bc bs := fun ad hs h hR he hl hst => rx_ane (mm_C_mono d) hT hs2 (fun g => k1 ((ite_in H).2 (fun g2 => g ((oad hR hc (okS_hd (okS_tl hst)) (okS_hd hst)).mpr g2))) ad hs h hR he hl (okS_tl (okS_tl hst))) (fun g => k2 ((ite_in H).1 ((oad hR hc (okS_hd (okS_tl hst)) (okS_hd hst)).mp g)) ad hs h hR he hl (okS_tl (okS_tl hst)))
theorem nx_null0 (hT : T pc = some q) {c tg : Nat} (hs2 : mm_sem W.1 q = mm_ifnull tg) (k : nX W d T Q a0 e0 tg ls st t bc bs) : nX W d T Q a0 e0 pc ls (eO c none :: st) t bc bs := fun ad hs h hR he hl hst => rx_null (mm_C_mono d) hT hs2 (fun _ => k ad hs h hR he hl (okS_tl hst)) (fun g => absurd rfl g)
theorem nx_null1 (hT : T pc = some q) {p : Nat × Nat} {tg : Nat} (hs2 : mm_sem W.1 q = mm_ifnull tg) (k : nX W d T Q a0 e0 (pc + 3) ls st t bc bs) : nX W d T Q a0 e0 pc ls (eR (some p) :: st) t bc bs := fun ad hs h hR he hl hst => rx_null (mm_C_mono d) hT hs2 (fun g => by cases g) (fun _ => k ad hs h hR he hl (okS_tl hst))
theorem nx_non0 (hT : T pc = some q) {c tg : Nat} (hs2 : mm_sem W.1 q = mm_ifnonnull tg) (k : nX W d T Q a0 e0 (pc + 3) ls st t bc bs) : nX W d T Q a0 e0 pc ls (eO c none :: st) t bc bs := fun ad hs h hR he hl hst => rx_nonnull (mm_C_mono d) hT hs2 (fun g => absurd rfl g) (fun _ => k ad hs h hR he hl (okS_tl hst))
theorem nx_non1 (hT : T pc = some q) {p : Nat × Nat} {tg : Nat} (hs2 : mm_sem W.1 q = mm_ifnonnull tg) (k : nX W d T Q a0 e0 tg ls st t bc bs) : nX W d T Q a0 e0 pc ls (eR (some p) :: st) t bc bs := fun ad hs h hR he hl hst => rx_nonnull (mm_C_mono d) hT hs2 (fun _ => k ad hs h hR he hl (okS_tl hst)) (fun g => by cases g)
end NX
