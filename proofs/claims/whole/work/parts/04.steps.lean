/-! PART 04: the small machine's steps are the Java machine's. What a heap of components says of the real one; what stays known; a state to go on with; steps that need no link. -/
def mm_isR (t : FieldType) : Bool := match t with
  | .object _ => true
  | .array _ => true
  | _ => false
def hp_f (h : Hp) (x a : Nat) : Value := bif mm_isR (mm_fty x) then va_rf (hp_R h x a) else .int (hp_I h x a)
def hp_e (h : Hp) (a j : Nat) : Value := if hp_K h a = 23 then .long (hp_J h a j) else if hp_K h a < 23 then .int (hp_A h a j) else va_rf (hp_Q h a j)
def hp_at (D : va_G) (cA : Nat → ClassId) (h : Hp) (a : Nat) (H : Heap) : Prop :=
  (19 < hp_K h a → hp_K h a < 29 ∧ H[a]? = some (arrV (cA (hp_K h a)) (hp_L h a) (hp_e h a))) ∧
  (hp_K h a ≤ 19 → ∃ q : vw_C, vwCl[hp_K h a - 1]? = some q ∧ t_OB a (D.1 (hp_K h a - 1)) q.2.2 (D.2 (hp_K h a - 1)) H (fun k => hp_f h (100 * (hp_K h a - 1) + k) a))
def hp_W (D : va_G) (cA : Nat → ClassId) (B : Nat) (h : Hp) (H : Heap) : Prop := ∀ a, ¬ hp_K h a = 0 → B ≤ a ∧ hp_at D cA h a H
def mm_tys (cA : Nat → ClassId) : List (ClassId × FieldType) := [(cA 20, mm_aty 20), (cA 21, mm_aty 21), (cA 22, mm_aty 22), (cA 23, mm_aty 23), (cA 24, mm_aty 24), (cA 25, mm_aty 25), (cA 26, mm_aty 26), (cA 27, mm_aty 27), (cA 28, mm_aty 28)]
theorem mm_tys_at (cA : Nat → ClassId) {k : Nat} (h1 : 19 < k) (h2 : k < 29) : (mm_tys cA)[k - 20]? = some (cA k, mm_aty k) := by
  have : k = 20 ∨ k = 21 ∨ k = 22 ∨ k = 23 ∨ k = 24 ∨ k = 25 ∨ k = 26 ∨ k = 27 ∨ k = 28 := by omega
  rcases this with h | h | h | h | h | h | h | h | h <;> subst h <;> rfl
/-- what is known at a state and stays so -/
def mm_Kn (D : va_G) (cA : Nat → ClassId) (B : Nat) (z : Rm) (U : State) (H : Heap) : Prop :=
  va_K D vwCl (mm_tys cA) U ∧ (∀ a n f, z.1 a = some (n, f) → va_T .int a n (fun j => .int (f j)) (fun q => B ≤ q) U H) ∧
  (∀ i q, mm_sta[i]? = some q → va_Z q.1 q.2.1 q.2.2 (.ref (z.2 i)) (fun q => B ≤ q) U H) ∧ (∀ q ∈ mm_sn, va_Nw (.fieldLinkNest (mm_on q.1) q.2.1 (mm_sta.getD q.2.2 ("", "", "")).1 (mm_sta.getD q.2.2 ("", "", "")).2.1 (mm_sta.getD q.2.2 ("", "", "")).2.2 RX12) U) ∧ (∀ q ∈ mm_ml, 2 < q.2.2.2.1 → va_Nw (.methodLinkNest (mm_on q.1) q.2.1 (mm_mn q.2.2.1) RX12) U) ∧ (∀ k, 23 < k → k < 29 → va_AO (mm_on (mm_comp k)) U) ∧
  (∀ q ∈ mm_ss, vk_R (mm_on q.1) q.2 "akhnywctildm" (z.2 100) U) ∧ vk_S 1 [12] [mm_nm] (fun _ => z.2 100) (fun _ => z.2 101) (fun q => B ≤ q) U H ∧
  va_Z "java/lang/String" "COMPACT_STRINGS" "Z" (.int 1) (fun q => B ≤ q) U H
theorem mm_Kn.kept {D : va_G} {cA : Nat → ClassId} {B : Nat} {z : Rm} {U : State} {H H1 : Heap} (h : mm_Kn D cA B z U H) (hq : ∀ a : Nat, a < H.size → ¬ B ≤ a → H1[a]? = H[a]?) : mm_Kn D cA B z U H1 := by
  obtain ⟨h1, h2, h3, h4, h5, h6, h7, h8, h9⟩ := h
  exact ⟨h1, fun a n f e => (h2 a n f e).kept hq, fun i q e => (h3 i q e).kept hq, h4, h5, h6, h7, h8.kept hq, h9.kept hq⟩
theorem mm_Kn.warm {D : va_G} {cA : Nat → ClassId} {B : Nat} {z : Rm} {s U : State} {H : Heap} (hW : s.WarmedH U.vm) (h : mm_Kn D cA B z s H) : mm_Kn D cA B z U H := by
  obtain ⟨h1, h2, h3, h4, h5, h6, h7, h8, h9⟩ := h
  exact ⟨va_K.moved hW.alike h1, fun a n f e => (h2 a n f e).moved hW.alike, fun i q e => (h3 i q e).moved hW.alike, fun q e => (h4 q e).warmF hW, fun q e e2 => (h5 q e e2).warmM hW, fun k e1 e2 => (h6 k e1 e2).moved hW.alike, fun q e => (h7 q e).warm hW, h8.moved hW.alike, h9.moved hW.alike⟩
theorem mm_Kn.same {D : va_G} {cA : Nat → ClassId} {B : Nat} {z : Rm} {s U : State} {H : Heap} (hv : U.vm = s.vm) (h : mm_Kn D cA B z s H) : mm_Kn D cA B z U H := by
  obtain ⟨h1, h2, h3, h4, h5, h6, h7, h8, h9⟩ := h
  have ha : s.vm.Alike U.vm := by rw [hv]; exact Vm.Alike.refl _
  exact ⟨va_K.moved ha h1, fun a n f e => (h2 a n f e).moved ha, fun i q e => (h3 i q e).moved ha, fun q e => (h4 q e).same rfl hv.symm, fun q e e2 => (h5 q e e2).same rfl hv.symm, fun k e1 e2 => (h6 k e1 e2).moved ha, fun q e => (h7 q e).same hv, h8.moved ha, h9.moved ha⟩
/-- locals -/
def mm_ls (A : Array Slot) (ls : List (Option MV)) : Prop := A.size = ls.length ∧ lv_wf A ∧ ∀ (i : Nat) (v : MV), ls[i]? = some (some v) → A[i]? = some (.val (mm_v v))
def mm_en (ls : List (Option MV)) : List (Nat × Value) := (List.range ls.length).filterMap (fun i => match ls[i]? with
  | some (some v) => some (i, mm_v v)
  | _ => none)
theorem mm_en_mem {ls : List (Option MV)} {q : Nat × Value} (h : q ∈ mm_en ls) : ∃ v, ls[q.1]? = some (some v) ∧ q.2 = mm_v v := by
  obtain ⟨i, -, hi⟩ := List.mem_filterMap.mp h
  split at hi
  · rename_i v e
    cases hi
    exact ⟨v, e, rfl⟩
  · cases hi
theorem mm_en_in {ls : List (Option MV)} {i : Nat} {v : MV} (h : ls[i]? = some (some v)) : (i, mm_v v) ∈ mm_en ls := by
  refine List.mem_filterMap.mpr ⟨i, List.mem_range.mpr (List.getElem?_eq_some_iff.mp h).1, ?_⟩
  rw [h]
theorem mm_ls.has {A : Array Slot} {ls : List (Option MV)} (h : mm_ls A ls) : lv_has A ls.length (mm_en ls) := by
  refine ⟨h.1, h.2.1, fun q hq => ?_⟩
  obtain ⟨v, h1, h2⟩ := mm_en_mem hq
  rw [h2]
  exact h.2.2 q.1 v h1
theorem mm_set1_len (ls : List (Option MV)) (i : Nat) (v : MV) : (mm_set1 ls i v).length = ls.length := by
  cases i with
  | zero => simp [mm_set1]
  | succ i =>
    show List.length (match ls[i]? with
      | some (some (.inr (.inl _))) => (ls.set i none).set (i + 1) (some v)
      | _ => ls.set (i + 1) (some v)) = ls.length
    split <;> simp
theorem mm_k_cat (v : MV) : (mm_v v).category = (if mm_k v = 1 then 2 else 1) := by
  rcases v with x | x | o
  · rfl
  · rfl
  · cases o <;> rfl
theorem mm_set1_get {ls : List (Option MV)} {i : Nat} {v : MV} {j : Nat} {w : MV} (h : (mm_set1 ls i v)[j]? = some (some w)) : (j = i ∧ w = v) ∨ (¬ j = i ∧ ls[j]? = some (some w) ∧ ¬ (j + 1 = i ∧ mm_k w = 1)) := by
  cases i with
  | zero =>
    simp only [mm_set1, List.getElem?_set] at h
    by_cases hj : 0 = j
    · rw [if_pos hj] at h
      split at h
      · cases h; exact Or.inl ⟨hj.symm, rfl⟩
      · cases h
    · rw [if_neg hj] at h
      exact Or.inr ⟨fun e => hj e.symm, h, fun e => by omega⟩
  | succ i =>
    change (match ls[i]? with
      | some (some (.inr (.inl _))) => (ls.set i none).set (i + 1) (some v)
      | _ => ls.set (i + 1) (some v))[j]? = _ at h
    split at h
    · rename_i x e
      rw [List.getElem?_set] at h
      by_cases hj : i + 1 = j
      · rw [if_pos hj] at h
        split at h
        · cases h; exact Or.inl ⟨hj.symm, rfl⟩
        · cases h
      · rw [if_neg hj, List.getElem?_set] at h
        by_cases hi : i = j
        · rw [if_pos hi] at h
          split at h <;> cases h
        · rw [if_neg hi] at h
          exact Or.inr ⟨fun e => hj e.symm, h, fun e => hi (by omega)⟩
    · rename_i e
      rw [List.getElem?_set] at h
      by_cases hj : i + 1 = j
      · rw [if_pos hj] at h
        split at h
        · cases h; exact Or.inl ⟨hj.symm, rfl⟩
        · cases h
      · rw [if_neg hj] at h
        refine Or.inr ⟨fun e => hj e.symm, h, fun e2 => ?_⟩
        obtain ⟨e3, e4⟩ := e2
        have : j = i := by omega
        subst this
        rcases w with x | x | o
        · cases e4
        · exact e x h
        · cases e4
theorem mm_ls.set1 {A' : Array Slot} {ls : List (Option MV)} {i : Nat} {v : MV} (h : lv_has A' ls.length ((i, mm_v v) :: (mm_en ls).filter (fun q => !(q.1 == i) && !(q.1 + 1 == i && q.2.category == 2)))) : mm_ls A' (mm_set1 ls i v) := by
  refine ⟨by rw [mm_set1_len]; exact h.1, h.2.1, fun j w hj => ?_⟩
  refine h.2.2 (j, mm_v w) ?_
  rcases mm_set1_get hj with ⟨e1, e2⟩ | ⟨e1, e2, e3⟩
  · subst e1; subst e2
    exact List.mem_cons_self
  · refine List.mem_cons_of_mem _ (List.mem_filter.mpr ⟨mm_en_in e2, ?_⟩)
    have hc := mm_k_cat w
    by_cases hk : mm_k w = 1
    · have : ¬ j + 1 = i := fun e => e3 ⟨e, hk⟩
      simp [e1, this]
    · rw [if_neg hk] at hc
      simp [e1, hc]
theorem mm_ls.set2 {A' : Array Slot} {ls : List (Option MV)} {i : Nat} {x : Int64} (h : lv_has A' ls.length ((i, Value.long x) :: (mm_en ls).filter (fun q => !(q.1 == i) && (!(q.1 == i + 1) && !(q.1 + 1 == i && q.2.category == 2))))) : mm_ls A' (mm_set2 ls i (vJ x)) := by
  refine ⟨by unfold mm_set2; rw [List.length_set, mm_set1_len]; exact h.1, h.2.1, fun j w hj => ?_⟩
  refine h.2.2 (j, mm_v w) ?_
  unfold mm_set2 at hj
  rw [List.getElem?_set] at hj
  by_cases hj1 : i + 1 = j
  · rw [if_pos hj1] at hj
    split at hj <;> cases hj
  · rw [if_neg hj1] at hj
    rcases mm_set1_get hj with ⟨e1, e2⟩ | ⟨e1, e2, e3⟩
    · subst e1; subst e2
      exact List.mem_cons_self
    · refine List.mem_cons_of_mem _ (List.mem_filter.mpr ⟨mm_en_in e2, ?_⟩)
      have hc := mm_k_cat w
      have hj2 : ¬ j = i + 1 := fun e => hj1 e.symm
      by_cases hk : mm_k w = 1
      · have : ¬ j + 1 = i := fun e => e3 ⟨e, hk⟩
        simp [e1, this, hj2]
      · rw [if_neg hk] at hc
        simp [e1, hc, hj2]
/-- the fixed things of a method's run -/
def mm_Cx (p : Program) (s : State) (m : MethodId) (args : Array Value) (meth : Method) (c : Code) (cc : ByteArray) (nL own : Nat) (D : va_G) (cA : Nat → ClassId) (B : Nat) (z : Rm) : Prop :=
  p.tables.exec = Jvm.exec ∧ c.code = cc ∧ c.maxLocals = nL ∧ s.vm.findClass (mm_on own) = some m.cls ∧ (∀ w ∈ mm_T, w.before args s = true) ∧ mm_Kn D cA B z s s.heap ∧ B ≤ s.heap.size ∧ meth.locks = false
/-- a state of the small machine from which the Java machine comes to QQ -/
def mm_G (p : Program) (l : Launch) (e : Env) (R : Room) (s : State) (m : MethodId) (args : Array Value) (below : List Frame) (meth : Method) (c : Code) (D : va_G) (cA : Nat → ClassId) (B nL : Nat) (QQ : State → Prop) : Kt := fun pc ls st hs h bc bs =>
  ∀ (H : Heap) (locs : List Loc) (cells slots : Nat) (A : Array Slot), H.size = hs → hp_W D cA B h H → va_S (fun q => B ≤ q) s.heap H locs → mm_ls A ls → ls.length = nL → cells + bc ≤ R.cells → slots + bs ≤ R.slots →
    W p l e R s m args below meth c H locs cells slots QQ (F0 m pc A (st.map mm_v))
section MMA
variable {p : Program} {l : Launch} {e : Env} {R : Room} {s : State} {m : MethodId} {args : Array Value} {below : List Frame} {meth : Method} {c : Code} {D : va_G} {cA : Nat → ClassId} {B : Nat} {QQ : State → Prop}
variable {cc : ByteArray} {nL own : Nat} {z : Rm} {pc : Nat} {ls : List (Option MV)} {st : List MV} {hs : Nat} {h : Hp} {bc bs : Nat} {C : Ct} {Q : Qt} {k : Kt}
/-- what is asked of a step -/
def mm_Ok (p : Program) (l : Launch) (e : Env) (R : Room) (s : State) (m : MethodId) (args : Array Value) (below : List Frame) (meth : Method) (c : Code) (D : va_G) (cA : Nat → ClassId) (B nL : Nat) (QQ : State → Prop) (C : Ct) (k : Kt) (Q : Qt) (pc : Nat) (f : MStep) : Prop :=
  (∀ pc ls st hs h bc bs, k pc ls st hs h bc bs → mm_G p l e R s m args below meth c D cA B nL QQ pc ls st hs h bc bs) → ∀ ls st hs h bc bs, f C k Q pc ls st hs h bc bs → mm_G p l e R s m args below meth c D cA B nL QQ pc ls st hs h bc bs
/-- a step that moves stack and place alone -/
theorem mm_G.go {pc' : Nat} {st' : List MV} (hk : mm_G p l e R s m args below meth c D cA B nL QQ pc' ls st' hs h bc bs) (hw : ∀ (H : Heap) (locs : List Loc) (cells slots : Nat) (A : Array Slot), W p l e R s m args below meth c H locs cells slots QQ (F0 m pc' A (st'.map mm_v)) → W p l e R s m args below meth c H locs cells slots QQ (F0 m pc A (st.map mm_v))) :
    mm_G p l e R s m args below meth c D cA B nL QQ pc ls st hs h bc bs :=
  fun H locs cells slots A h1 h2 h3 h4 h5 h6 h7 => hw H locs cells slots A (hk H locs cells slots A h1 h2 h3 h4 h5 h6 h7)
theorem so_no : mm_Ok p l e R s m args below meth c D cA B nL QQ C k Q pc mm_no := fun _ _ _ _ _ _ _ hf => hf.elim
theorem so_iconst (X : mm_Cx p s m args meth c cc nL own D cA B z) {n : Int} (hd : decode cc pc = .ok (.iconst n, 1)) : mm_Ok p l e R s m args below meth c D cA B nL QQ C k Q pc (mm_push (vI (Int32.ofInt n)) 1) :=
  fun hk _ _ _ _ _ _ hf => (hk _ _ _ _ _ _ _ hf).go fun _ _ _ _ _ w => lv_iconst X.1 X.2.1 hd rfl w
theorem so_bipush (X : mm_Cx p s m args meth c cc nL own D cA B z) {n : Int} (hd : decode cc pc = .ok (.bipush n, 2)) : mm_Ok p l e R s m args below meth c D cA B nL QQ C k Q pc (mm_push (vI (Int8.ofInt n).toInt32) 2) :=
  fun hk _ _ _ _ _ _ hf => (hk _ _ _ _ _ _ _ hf).go fun _ _ _ _ _ w => lv_bipush X.1 X.2.1 hd rfl w
theorem so_sipush (X : mm_Cx p s m args meth c cc nL own D cA B z) {n : Int} (hd : decode cc pc = .ok (.sipush n, 3)) : mm_Ok p l e R s m args below meth c D cA B nL QQ C k Q pc (mm_push (vI (Int16.ofInt n).toInt32) 3) :=
  fun hk _ _ _ _ _ _ hf => (hk _ _ _ _ _ _ _ hf).go fun _ _ _ _ _ w => lv_sipush X.1 X.2.1 hd rfl w
theorem so_lconst (X : mm_Cx p s m args meth c cc nL own D cA B z) {n : Fin 2} (hd : decode cc pc = .ok (.lconst n, 1)) : mm_Ok p l e R s m args below meth c D cA B nL QQ C k Q pc (mm_push (vJ (Int64.ofNat n.val)) 1) :=
  fun hk _ _ _ _ _ _ hf => (hk _ _ _ _ _ _ _ hf).go fun _ _ _ _ _ w => lv_lconst X.1 X.2.1 hd rfl w
theorem so_null (X : mm_Cx p s m args meth c cc nL own D cA B z) (hd : decode cc pc = .ok (.aconst_null, 1)) : mm_Ok p l e R s m args below meth c D cA B nL QQ C k Q pc (mm_push (vR none) 1) :=
  fun hk _ _ _ _ _ _ hf => (hk _ _ _ _ _ _ _ hf).go fun _ _ _ _ _ w => lv_null X.1 X.2.1 hd w
theorem so_ii (X : mm_Cx p s m args meth c cc nL own D cA B z) {f : Int32 → Int32 → Int32} (hw : ∀ (H : Heap) (locs : List Loc) (cells slots : Nat) (A : Array Slot) (x y : Int32) (r : List Value), W p l e R s m args below meth c H locs cells slots QQ (F0 m (pc + 1) A (.int (f x y) :: r)) → W p l e R s m args below meth c H locs cells slots QQ (F0 m pc A (.int y :: .int x :: r))) : mm_Ok p l e R s m args below meth c D cA B nL QQ C k Q pc (mm_ii f) := by
  intro hk ls st hs h bc bs hf
  unfold mm_ii at hf
  split at hf
  · exact (hk _ _ _ _ _ _ _ hf).go fun _ _ _ _ _ w => hw _ _ _ _ _ _ _ _ w
  · exact hf.elim
theorem so_idiv (X : mm_Cx p s m args meth c cc nL own D cA B z) {f : Int32 → Int32 → Int32} (hw : ∀ (H : Heap) (locs : List Loc) (cells slots : Nat) (A : Array Slot) (x y : Int32) (r : List Value), ¬ y = 0 → W p l e R s m args below meth c H locs cells slots QQ (F0 m (pc + 1) A (.int (f x y) :: r)) → W p l e R s m args below meth c H locs cells slots QQ (F0 m pc A (.int y :: .int x :: r))) : mm_Ok p l e R s m args below meth c D cA B nL QQ C k Q pc (mm_idiv f) := by
  intro hk ls st hs h bc bs hf
  unfold mm_idiv at hf
  split at hf
  · exact (hk _ _ _ _ _ _ _ hf.2).go fun _ _ _ _ _ w => hw _ _ _ _ _ _ _ _ hf.1 w
  · exact hf.elim
theorem so_jj (X : mm_Cx p s m args meth c cc nL own D cA B z) {f : Int64 → Int64 → Int64} (hw : ∀ (H : Heap) (locs : List Loc) (cells slots : Nat) (A : Array Slot) (x y : Int64) (r : List Value), W p l e R s m args below meth c H locs cells slots QQ (F0 m (pc + 1) A (.long (f x y) :: r)) → W p l e R s m args below meth c H locs cells slots QQ (F0 m pc A (.long y :: .long x :: r))) : mm_Ok p l e R s m args below meth c D cA B nL QQ C k Q pc (mm_jj f) := by
  intro hk ls st hs h bc bs hf
  unfold mm_jj at hf
  split at hf
  · exact (hk _ _ _ _ _ _ _ hf).go fun _ _ _ _ _ w => hw _ _ _ _ _ _ _ _ w
  · exact hf.elim
theorem so_jdiv (X : mm_Cx p s m args meth c cc nL own D cA B z) {f : Int64 → Int64 → Int64} (hw : ∀ (H : Heap) (locs : List Loc) (cells slots : Nat) (A : Array Slot) (x y : Int64) (r : List Value), ¬ y = 0 → W p l e R s m args below meth c H locs cells slots QQ (F0 m (pc + 1) A (.long (f x y) :: r)) → W p l e R s m args below meth c H locs cells slots QQ (F0 m pc A (.long y :: .long x :: r))) : mm_Ok p l e R s m args below meth c D cA B nL QQ C k Q pc (mm_jdiv f) := by
  intro hk ls st hs h bc bs hf
  unfold mm_jdiv at hf
  split at hf
  · exact (hk _ _ _ _ _ _ _ hf.2).go fun _ _ _ _ _ w => hw _ _ _ _ _ _ _ _ hf.1 w
  · exact hf.elim
theorem so_lshl (X : mm_Cx p s m args meth c cc nL own D cA B z) (hd : decode cc pc = .ok (.lshl, 1)) : mm_Ok p l e R s m args below meth c D cA B nL QQ C k Q pc mm_lshl := by
  intro hk ls st hs h bc bs hf
  unfold mm_lshl at hf
  split at hf
  · exact (hk _ _ _ _ _ _ _ hf).go fun _ _ _ _ _ w => lv_lshl X.1 X.2.1 hd rfl w
  · exact hf.elim
theorem so_lcmp (X : mm_Cx p s m args meth c cc nL own D cA B z) (hd : decode cc pc = .ok (.lcmp, 1)) : mm_Ok p l e R s m args below meth c D cA B nL QQ C k Q pc mm_lcmp := by
  intro hk ls st hs h bc bs hf
  unfold mm_lcmp at hf
  split at hf
  · exact (hk _ _ _ _ _ _ _ hf).go fun _ _ _ _ _ w => W.lcmp X.1 X.2.1 hd w
  · exact hf.elim
theorem so_i1 (X : mm_Cx p s m args meth c cc nL own D cA B z) {f : Int32 → Int32} (hw : ∀ (H : Heap) (locs : List Loc) (cells slots : Nat) (A : Array Slot) (x : Int32) (r : List Value), W p l e R s m args below meth c H locs cells slots QQ (F0 m (pc + 1) A (.int (f x) :: r)) → W p l e R s m args below meth c H locs cells slots QQ (F0 m pc A (.int x :: r))) : mm_Ok p l e R s m args below meth c D cA B nL QQ C k Q pc (mm_i1 f) := by
  intro hk ls st hs h bc bs hf
  unfold mm_i1 at hf
  split at hf
  · exact (hk _ _ _ _ _ _ _ hf).go fun _ _ _ _ _ w => hw _ _ _ _ _ _ _ w
  · exact hf.elim
theorem so_i2l (X : mm_Cx p s m args meth c cc nL own D cA B z) (hd : decode cc pc = .ok (.i2l, 1)) : mm_Ok p l e R s m args below meth c D cA B nL QQ C k Q pc mm_i2l := by
  intro hk ls st hs h bc bs hf
  unfold mm_i2l at hf
  split at hf
  · exact (hk _ _ _ _ _ _ _ hf).go fun _ _ _ _ _ w => lv_i2l X.1 X.2.1 hd rfl w
  · exact hf.elim
theorem so_l2i (X : mm_Cx p s m args meth c cc nL own D cA B z) (hd : decode cc pc = .ok (.l2i, 1)) : mm_Ok p l e R s m args below meth c D cA B nL QQ C k Q pc mm_l2i := by
  intro hk ls st hs h bc bs hf
  unfold mm_l2i at hf
  split at hf
  · exact (hk _ _ _ _ _ _ _ hf).go fun _ _ _ _ _ w => lv_l2i X.1 X.2.1 hd rfl w
  · exact hf.elim
theorem mm_cat1 {v : MV} (h : ¬ mm_k v = 1) : (mm_v v).category = 1 := by rw [mm_k_cat, if_neg h]
theorem so_pop (X : mm_Cx p s m args meth c cc nL own D cA B z) (hd : decode cc pc = .ok (.pop, 1)) : mm_Ok p l e R s m args below meth c D cA B nL QQ C k Q pc mm_pop := by
  intro hk ls st hs h bc bs hf
  unfold mm_pop at hf
  split at hf
  · exact (hk _ _ _ _ _ _ _ hf.2).go fun _ _ _ _ _ w => lv_pop X.1 X.2.1 hd (mm_cat1 hf.1) w
  · exact hf.elim
theorem so_dup (X : mm_Cx p s m args meth c cc nL own D cA B z) (hd : decode cc pc = .ok (.dup, 1)) : mm_Ok p l e R s m args below meth c D cA B nL QQ C k Q pc mm_dup := by
  intro hk ls st hs h bc bs hf
  unfold mm_dup at hf
  split at hf
  · exact (hk _ _ _ _ _ _ _ hf.2).go fun _ _ _ _ _ w => lv_dup X.1 X.2.1 hd (mm_cat1 hf.1) w
  · exact hf.elim
theorem so_dup2 (X : mm_Cx p s m args meth c cc nL own D cA B z) (hd : decode cc pc = .ok (.dup2, 1)) : mm_Ok p l e R s m args below meth c D cA B nL QQ C k Q pc mm_dup2 := by
  intro hk ls st hs h bc bs hf
  unfold mm_dup2 at hf
  split at hf
  · exact (hk _ _ _ _ _ _ _ hf.2.2).go fun _ _ _ _ _ w => lv_dup2_11 X.1 X.2.1 hd (mm_cat1 hf.1) (mm_cat1 hf.2.1) w
  · exact hf.elim
theorem so_goto (X : mm_Cx p s m args meth c cc nL own D cA B z) {off : Int} {t : Nat} (hd : decode cc pc = .ok (.goto off, 3)) (ht : (pc : Int) + off = (t : Int)) : mm_Ok p l e R s m args below meth c D cA B nL QQ C k Q pc (mm_goto t) :=
  fun hk _ _ _ _ _ _ hf => (hk _ _ _ _ _ _ _ hf).go fun _ _ _ _ _ w => lv_goto X.1 X.2.1 hd ht w
/-- a fork -/
theorem mm_G.fork {t1 t2 : Nat} {P : Prop} {st' : List MV} (h1 : P → mm_G p l e R s m args below meth c D cA B nL QQ t1 ls st' hs h bc bs) (h2 : ¬ P → mm_G p l e R s m args below meth c D cA B nL QQ t2 ls st' hs h bc bs)
    (hw : ∀ (H : Heap) (locs : List Loc) (cells slots : Nat) (A : Array Slot), (P → W p l e R s m args below meth c H locs cells slots QQ (F0 m t1 A (st'.map mm_v))) → (¬ P → W p l e R s m args below meth c H locs cells slots QQ (F0 m t2 A (st'.map mm_v))) → W p l e R s m args below meth c H locs cells slots QQ (F0 m pc A (st.map mm_v))) :
    mm_G p l e R s m args below meth c D cA B nL QQ pc ls st hs h bc bs :=
  fun H locs cells slots A e1 e2 e3 e4 e5 e6 e7 => hw H locs cells slots A (fun q => h1 q H locs cells slots A e1 e2 e3 e4 e5 e6 e7) (fun q => h2 q H locs cells slots A e1 e2 e3 e4 e5 e6 e7)
theorem so_icmp (X : mm_Cx p s m args meth c cc nL own D cA B z) {cd : Jvm.ClassFile.Cond} {off : Int} {t : Nat} (hd : decode cc pc = .ok (.if_icmp cd off, 3)) (ht : (pc : Int) + off = (t : Int)) : mm_Ok p l e R s m args below meth c D cA B nL QQ C k Q pc (mm_icmp cd t) := by
  intro hk ls st hs h bc bs hf
  unfold mm_icmp at hf
  split at hf
  · refine mm_G.fork (fun q => hk _ _ _ _ _ _ _ (hf.1 q)) (fun q => hk _ _ _ _ _ _ _ (hf.2 q)) ?_
    intro H locs cells slots A w1 w2
    cases cd with
    | eq => exact lv_icmp_eq X.1 X.2.1 hd ht w1 w2
    | ne => exact lv_icmp_ne X.1 X.2.1 hd ht w1 (fun q => w2 (fun n => n q))
    | lt => exact lv_icmp_lt X.1 X.2.1 hd ht w1 w2
    | ge => exact lv_icmp_ge X.1 X.2.1 hd ht w1 w2
    | gt => exact lv_icmp_gt X.1 X.2.1 hd ht w1 w2
    | le => exact lv_icmp_le X.1 X.2.1 hd ht w1 w2
  · exact hf.elim
theorem so_if (X : mm_Cx p s m args meth c cc nL own D cA B z) {cd : Jvm.ClassFile.Cond} {off : Int} {t : Nat} (hd : decode cc pc = .ok (.ifCond cd off, 3)) (ht : (pc : Int) + off = (t : Int)) : mm_Ok p l e R s m args below meth c D cA B nL QQ C k Q pc (mm_if cd t) := by
  intro hk ls st hs h bc bs hf
  unfold mm_if at hf
  split at hf
  · refine mm_G.fork (fun q => hk _ _ _ _ _ _ _ (hf.1 q)) (fun q => hk _ _ _ _ _ _ _ (hf.2 q)) ?_
    intro H locs cells slots A w1 w2
    cases cd with
    | eq => exact lv_if_eq X.1 X.2.1 hd ht w1 w2
    | ne => exact lv_if_ne X.1 X.2.1 hd ht w1 (fun q => w2 (fun n => n q))
    | lt => exact lv_if_lt X.1 X.2.1 hd ht w1 w2
    | ge => exact lv_if_ge X.1 X.2.1 hd ht w1 w2
    | gt => exact lv_if_gt X.1 X.2.1 hd ht w1 w2
    | le => exact lv_if_le X.1 X.2.1 hd ht w1 w2
  · exact hf.elim
theorem so_acmp (X : mm_Cx p s m args meth c cc nL own D cA B z) {cd : Jvm.ClassFile.ACond} {off : Int} {t : Nat} (hd : decode cc pc = .ok (.if_acmp cd off, 3)) (ht : (pc : Int) + off = (t : Int)) : mm_Ok p l e R s m args below meth c D cA B nL QQ C k Q pc (mm_acmp cd t) := by
  intro hk ls st hs h bc bs hf
  unfold mm_acmp at hf
  split at hf
  · cases cd with
    | eq => exact mm_G.fork (fun q => hk _ _ _ _ _ _ _ (hf.1 q)) (fun q => hk _ _ _ _ _ _ _ (hf.2 q)) fun H locs cells slots A w1 w2 => lv_acmp_eq X.1 X.2.1 hd ht w1 w2
    | ne => exact mm_G.fork (fun q => hk _ _ _ _ _ _ _ (hf.1 q)) (fun q => hk _ _ _ _ _ _ _ (hf.2 (Classical.not_not.mp q))) fun H locs cells slots A w1 w2 => lv_acmp_ne X.1 X.2.1 hd ht w1 (fun q => w2 (fun n => n q))
  · exact hf.elim
theorem so_ifnull (X : mm_Cx p s m args meth c cc nL own D cA B z) {off : Int} {t : Nat} (hd : decode cc pc = .ok (.ifnull off, 3)) (ht : (pc : Int) + off = (t : Int)) : mm_Ok p l e R s m args below meth c D cA B nL QQ C k Q pc (mm_ifnull t) := by
  intro hk ls st hs h bc bs hf
  unfold mm_ifnull at hf
  split at hf
  · rename_i x st'
    refine mm_G.fork (fun q => hk _ _ _ _ _ _ _ (hf.1 q)) (fun q => hk _ _ _ _ _ _ _ (hf.2 q)) ?_
    intro H locs cells slots A w1 w2
    cases x with
    | none => exact lv_ifnullN X.1 X.2.1 hd ht (w1 rfl)
    | some a => exact lv_ifnull X.1 X.2.1 hd (w2 (fun q => by cases q))
  · exact hf.elim
theorem so_ifnonnull (X : mm_Cx p s m args meth c cc nL own D cA B z) {off : Int} {t : Nat} (hd : decode cc pc = .ok (.ifnonnull off, 3)) (ht : (pc : Int) + off = (t : Int)) : mm_Ok p l e R s m args below meth c D cA B nL QQ C k Q pc (mm_ifnonnull t) := by
  intro hk ls st hs h bc bs hf
  unfold mm_ifnonnull at hf
  split at hf
  · rename_i x st'
    refine mm_G.fork (fun q => hk _ _ _ _ _ _ _ (hf.1 q)) (fun q => hk _ _ _ _ _ _ _ (hf.2 (Classical.not_not.mp q))) ?_
    intro H locs cells slots A w1 w2
    cases x with
    | none => exact lv_ifnonnullN X.1 X.2.1 hd (w2 (fun n => n rfl))
    | some a => exact lv_ifnonnull X.1 X.2.1 hd ht (w1 (fun q => by cases q))
  · exact hf.elim
theorem mm_tsw1_at {K : Nat → Prop} {x : Int32} : ∀ (os : List Int) (lo : Int), mm_tsw1 K x pc lo os → ∀ (j : Nat) (o : Int), os[j]? = some o → x.toInt = lo + j → K ((pc : Int) + o).toNat
  | [], _, _, j, o, hj, _ => by simp at hj
  | a :: os, lo, hf, 0, o, hj, hx => by
    simp at hj
    subst hj
    exact hf.1 (by simpa using hx)
  | a :: os, lo, hf, j + 1, o, hj, hx => mm_tsw1_at os (lo + 1) hf.2 j o (by simpa using hj) (by rw [hx]; push_cast; omega)
theorem so_tsw (X : mm_Cx p s m args meth c cc nL own D cA B z) {d lo hi : Int} {os : Array Int} {n : Nat} (hd : decode cc pc = .ok (.tableswitch d lo hi os, n)) (h1 : 0 ≤ (pc : Int) + d) (h2 : ∀ o ∈ os.toList, 0 ≤ (pc : Int) + o) (h3 : (os.toList.length : Int) = hi - lo + 1) : mm_Ok p l e R s m args below meth c D cA B nL QQ C k Q pc (mm_tsw d lo hi os) := by
  intro hk ls st hs h bc bs hf
  unfold mm_tsw at hf
  split at hf
  · rename_i x st'
    by_cases hx : x.toInt < lo ∨ hi < x.toInt
    · exact (hk _ _ _ _ _ _ _ (hf.1 hx)).go fun _ _ _ _ _ w => lv_tableOut X.1 X.2.1 hd hx (by omega) w
    · have hx1 : ¬ x.toInt < lo := fun q => hx (Or.inl q)
      have hx2 : ¬ hi < x.toInt := fun q => hx (Or.inr q)
      have hlt : (x.toInt - lo).toNat < os.toList.length := by omega
      have hg : os.toList[(x.toInt - lo).toNat]? = some os.toList[(x.toInt - lo).toNat] := List.getElem?_eq_getElem hlt
      have hk2 := mm_tsw1_at os.toList lo hf.2 (x.toInt - lo).toNat _ hg (by omega)
      have ho := h2 _ (List.getElem_mem hlt)
      refine (hk _ _ _ _ _ _ _ hk2).go fun _ _ _ _ _ w => lv_tableIn X.1 X.2.1 hd hx1 hx2 (by rw [← Array.getElem?_toList]; exact hg) (by omega) w
  · exact hf.elim
theorem mm_lsw1_at {K : Nat → Prop} {x : Int32} {d : Int} : ∀ (os : List (Int × Int)), mm_lsw1 K x pc d os → K ((pc : Int) + Op.lookupswitch.offset os d x.toInt).toNat
  | [], hf => hf
  | a :: os, hf => by
    rw [Op.lookupswitch.offset_cons]
    by_cases hx : x.toInt = a.1
    · rw [if_pos (by first | exact hx.symm | exact hx)]
      exact hf.1 hx
    · rw [if_neg (by first | exact hx | exact fun q => hx q.symm)]
      exact mm_lsw1_at os (hf.2 hx)
theorem mm_lsw1_ge {x : Int} {d : Int} (h1 : 0 ≤ (pc : Int) + d) : ∀ (os : List (Int × Int)), (∀ o ∈ os, 0 ≤ (pc : Int) + o.2) → 0 ≤ (pc : Int) + Op.lookupswitch.offset os d x
  | [], _ => h1
  | a :: os, h2 => by
    rw [Op.lookupswitch.offset_cons]
    split
    · exact h2 a List.mem_cons_self
    · exact mm_lsw1_ge h1 os (fun o ho => h2 o (List.mem_cons_of_mem _ ho))
theorem so_lsw (X : mm_Cx p s m args meth c cc nL own D cA B z) {d : Int} {os : Array (Int × Int)} {n : Nat} (hd : decode cc pc = .ok (.lookupswitch d os, n)) (hp : (os.toList.zip (os.toList.drop 1)).all (fun (a, next) => a.1 < next.1) = true) (h1 : 0 ≤ (pc : Int) + d) (h2 : ∀ o ∈ os.toList, 0 ≤ (pc : Int) + o.2) : mm_Ok p l e R s m args below meth c D cA B nL QQ C k Q pc (mm_lsw d os) := by
  intro hk ls st hs h bc bs hf
  unfold mm_lsw at hf
  split at hf
  · rename_i x st'
    have hk2 := mm_lsw1_at os.toList hf
    have h3 := mm_lsw1_ge (x := x.toInt) h1 os.toList h2
    exact (hk _ _ _ _ _ _ _ hk2).go fun _ _ _ _ _ w => lv_lookup X.1 X.2.1 hd hp rfl (by omega) w
  · exact hf.elim
/-! locals -/
theorem so_ld (X : mm_Cx p s m args meth c cc nL own D cA B z) {i kd n : Nat} (hw : ∀ (H : Heap) (locs : List Loc) (cells slots : Nat) (A : Array Slot) (v : MV) (r : List Value), mm_k v = kd → A[i]? = some (.val (mm_v v)) → W p l e R s m args below meth c H locs cells slots QQ (F0 m (pc + n) A (mm_v v :: r)) → W p l e R s m args below meth c H locs cells slots QQ (F0 m pc A r)) : mm_Ok p l e R s m args below meth c D cA B nL QQ C k Q pc (mm_ld i kd n) := by
  intro hk ls st hs h bc bs hf
  unfold mm_ld at hf
  split at hf
  · rename_i v hv
    intro H locs cells slots A e1 e2 e3 e4 e5 e6 e7
    exact hw H locs cells slots A v _ hf.1 (e4.2.2 _ _ hv) (hk _ _ _ _ _ _ _ hf.2 H locs cells slots A e1 e2 e3 e4 e5 e6 e7)
  · exact hf.elim
theorem so_iload_n (X : mm_Cx p s m args meth c cc nL own D cA B z) {n : Fin 4} (hd : decode cc pc = .ok (.iload_n n, 1)) : mm_Ok p l e R s m args below meth c D cA B nL QQ C k Q pc (mm_ld n.val 0 1) := so_ld X fun H locs cells slots A v r hv ha w => by
  rcases v with x | x | o
  · exact lv_iload_n X.1 X.2.1 hd rfl ha w
  · cases hv
  · cases hv
theorem so_iload (X : mm_Cx p s m args meth c cc nL own D cA B z) {n : Nat} (hd : decode cc pc = .ok (.iload n, 2)) : mm_Ok p l e R s m args below meth c D cA B nL QQ C k Q pc (mm_ld n 0 2) := so_ld X fun H locs cells slots A v r hv ha w => by
  rcases v with x | x | o
  · exact lv_iload X.1 X.2.1 hd ha w
  · cases hv
  · cases hv
theorem so_lload_n (X : mm_Cx p s m args meth c cc nL own D cA B z) {n : Fin 4} (hd : decode cc pc = .ok (.lload_n n, 1)) : mm_Ok p l e R s m args below meth c D cA B nL QQ C k Q pc (mm_ld n.val 1 1) := so_ld X fun H locs cells slots A v r hv ha w => by
  rcases v with x | x | o
  · cases hv
  · exact lv_lload_n X.1 X.2.1 hd rfl ha w
  · cases hv
theorem so_lload (X : mm_Cx p s m args meth c cc nL own D cA B z) {n : Nat} (hd : decode cc pc = .ok (.lload n, 2)) : mm_Ok p l e R s m args below meth c D cA B nL QQ C k Q pc (mm_ld n 1 2) := so_ld X fun H locs cells slots A v r hv ha w => by
  rcases v with x | x | o
  · cases hv
  · exact lv_lload X.1 X.2.1 hd ha w
  · cases hv
theorem so_aload_n (X : mm_Cx p s m args meth c cc nL own D cA B z) {n : Fin 4} (hd : decode cc pc = .ok (.aload_n n, 1)) : mm_Ok p l e R s m args below meth c D cA B nL QQ C k Q pc (mm_ld n.val 2 1) := so_ld X fun H locs cells slots A v r hv ha w => by
  rcases v with x | x | o
  · cases hv
  · cases hv
  · cases o with
    | none => exact lv_aload_nN X.1 X.2.1 hd rfl ha w
    | some a => exact lv_aload_n X.1 X.2.1 hd rfl ha w
theorem so_aload (X : mm_Cx p s m args meth c cc nL own D cA B z) {n : Nat} (hd : decode cc pc = .ok (.aload n, 2)) : mm_Ok p l e R s m args below meth c D cA B nL QQ C k Q pc (mm_ld n 2 2) := so_ld X fun H locs cells slots A v r hv ha w => by
  rcases v with x | x | o
  · cases hv
  · cases hv
  · cases o with
    | none => exact lv_aloadN X.1 X.2.1 hd ha w
    | some a => exact lv_aload X.1 X.2.1 hd ha w
theorem so_st (X : mm_Cx p s m args meth c cc nL own D cA B z) {i kd n : Nat} (hw : ∀ (H : Heap) (locs : List Loc) (cells slots : Nat) (A : Array Slot) (ls : List (Option MV)) (v : MV) (r : List Value), mm_k v = kd → mm_ls A ls → i < ls.length → (∀ A', lv_has A' ls.length ((i, mm_v v) :: (mm_en ls).filter (fun q => !(q.1 == i) && !(q.1 + 1 == i && q.2.category == 2))) → W p l e R s m args below meth c H locs cells slots QQ (F0 m (pc + n) A' r)) → W p l e R s m args below meth c H locs cells slots QQ (F0 m pc A (mm_v v :: r))) : mm_Ok p l e R s m args below meth c D cA B nL QQ C k Q pc (mm_st i kd n) := by
  intro hk ls st hs h bc bs hf
  unfold mm_st at hf
  split at hf
  · rename_i v st'
    obtain ⟨f1, f2, f3⟩ := hf
    intro H locs cells slots A e1 e2 e3 e4 e5 e6 e7
    exact hw H locs cells slots A ls v _ f1 e4 f2 fun A' hA' => hk _ _ _ _ _ _ _ f3 H locs cells slots A' e1 e2 e3 (mm_ls.set1 hA') (by rw [mm_set1_len]; exact e5) e6 e7
  · exact hf.elim
theorem so_istore_n (X : mm_Cx p s m args meth c cc nL own D cA B z) {n : Fin 4} (hd : decode cc pc = .ok (.istore_n n, 1)) : mm_Ok p l e R s m args below meth c D cA B nL QQ C k Q pc (mm_st n.val 0 1) := so_st X fun H locs cells slots A ls v r hv ha hi w => by
  rcases v with x | x | o
  · exact lv_istore_n X.1 X.2.1 hd rfl ha.has hi rfl w
  · cases hv
  · cases hv
theorem so_istore (X : mm_Cx p s m args meth c cc nL own D cA B z) {n : Nat} (hd : decode cc pc = .ok (.istore n, 2)) : mm_Ok p l e R s m args below meth c D cA B nL QQ C k Q pc (mm_st n 0 2) := so_st X fun H locs cells slots A ls v r hv ha hi w => by
  rcases v with x | x | o
  · exact lv_istore X.1 X.2.1 hd ha.has hi rfl w
  · cases hv
  · cases hv
theorem so_astore_n (X : mm_Cx p s m args meth c cc nL own D cA B z) {n : Fin 4} (hd : decode cc pc = .ok (.astore_n n, 1)) : mm_Ok p l e R s m args below meth c D cA B nL QQ C k Q pc (mm_st n.val 2 1) := so_st X fun H locs cells slots A ls v r hv ha hi w => by
  rcases v with x | x | o
  · cases hv
  · cases hv
  · cases o with
    | none => exact lv_astore_nN X.1 X.2.1 hd rfl ha.has hi rfl w
    | some a => exact lv_astore_n X.1 X.2.1 hd rfl ha.has hi rfl w
theorem so_astore (X : mm_Cx p s m args meth c cc nL own D cA B z) {n : Nat} (hd : decode cc pc = .ok (.astore n, 2)) : mm_Ok p l e R s m args below meth c D cA B nL QQ C k Q pc (mm_st n 2 2) := so_st X fun H locs cells slots A ls v r hv ha hi w => by
  rcases v with x | x | o
  · cases hv
  · cases hv
  · cases o with
    | none => exact lv_astoreN X.1 X.2.1 hd ha.has hi rfl w
    | some a => exact lv_astore X.1 X.2.1 hd ha.has hi rfl w
theorem mm_set2_len (ls : List (Option MV)) (i : Nat) (v : MV) : (mm_set2 ls i v).length = ls.length := by unfold mm_set2; rw [List.length_set, mm_set1_len]
theorem so_st2 (X : mm_Cx p s m args meth c cc nL own D cA B z) {i n : Nat} (hw : ∀ (H : Heap) (locs : List Loc) (cells slots : Nat) (A : Array Slot) (ls : List (Option MV)) (v : Int64) (r : List Value), mm_ls A ls → i + 1 < ls.length → (∀ A', lv_has A' ls.length ((i, Value.long v) :: (mm_en ls).filter (fun q => !(q.1 == i) && (!(q.1 == i + 1) && !(q.1 + 1 == i && q.2.category == 2)))) → W p l e R s m args below meth c H locs cells slots QQ (F0 m (pc + n) A' r)) → W p l e R s m args below meth c H locs cells slots QQ (F0 m pc A (.long v :: r))) : mm_Ok p l e R s m args below meth c D cA B nL QQ C k Q pc (mm_st2 i n) := by
  intro hk ls st hs h bc bs hf
  unfold mm_st2 at hf
  split at hf
  · rename_i v st'
    obtain ⟨f2, f3⟩ := hf
    intro H locs cells slots A e1 e2 e3 e4 e5 e6 e7
    exact hw H locs cells slots A ls v _ e4 f2 fun A' hA' => hk _ _ _ _ _ _ _ f3 H locs cells slots A' e1 e2 e3 (mm_ls.set2 hA') (by rw [mm_set2_len]; exact e5) e6 e7
  · exact hf.elim
theorem so_lstore_n (X : mm_Cx p s m args meth c cc nL own D cA B z) {n : Fin 4} (hd : decode cc pc = .ok (.lstore_n n, 1)) : mm_Ok p l e R s m args below meth c D cA B nL QQ C k Q pc (mm_st2 n.val 1) := so_st2 X fun H locs cells slots A ls v r ha hi w => lv_lstore_n X.1 X.2.1 hd rfl ha.has hi rfl w
theorem so_lstore (X : mm_Cx p s m args meth c cc nL own D cA B z) {n : Nat} (hd : decode cc pc = .ok (.lstore n, 2)) : mm_Ok p l e R s m args below meth c D cA B nL QQ C k Q pc (mm_st2 n 2) := so_st2 X fun H locs cells slots A ls v r ha hi w => lv_lstore X.1 X.2.1 hd ha.has hi rfl w
theorem so_iinc (X : mm_Cx p s m args meth c cc nL own D cA B z) {i : Nat} {n : Int} (hd : decode cc pc = .ok (.iinc i n, 3)) : mm_Ok p l e R s m args below meth c D cA B nL QQ C k Q pc (mm_iinc i n) := by
  intro hk ls st hs h bc bs hf
  unfold mm_iinc at hf
  split at hf
  · rename_i x hx
    intro H locs cells slots A e1 e2 e3 e4 e5 e6 e7
    obtain ⟨j, hj⟩ := List.getElem?_of_mem (mm_en_in hx)
    refine lv_iinc X.1 X.2.1 hd e4.has (k := j) hj rfl (List.getElem?_eq_some_iff.mp hx).1 rfl fun A' hA' => ?_
    exact hk _ _ _ _ _ _ _ hf H locs cells slots A' e1 e2 e3 (mm_ls.set1 (v := vI (x + Int32.ofInt n)) hA') (by rw [mm_set1_len]; exact e5) e6 e7
  · exact hf.elim
end MMA
