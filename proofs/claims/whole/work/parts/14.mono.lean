/-! PART 14: steps grow with what may follow; so a run may be taken step by step. -/
def mm_CM (C : Ct) : Prop := ∀ x as hs h bc bs (Q Q' : Qt), (∀ r hs h, Q r hs h → Q' r hs h) → C x as hs h bc bs Q → C x as hs h bc bs Q'
def mm_Mo (f : MStep) : Prop := ∀ (C : Ct) (k k' : Kt) (Q Q' : Qt), mm_CM C → (∀ pc ls st hs h bc bs, k pc ls st hs h bc bs → k' pc ls st hs h bc bs) → (∀ r hs h, Q r hs h → Q' r hs h) → ∀ pc ls st hs h bc bs, f C k Q pc ls st hs h bc bs → f C k' Q' pc ls st hs h bc bs
theorem mo_no : mm_Mo mm_no := fun _ _ _ _ _ _ _ _ _ _ _ _ _ _ _ h => h
theorem mo_push (v : MV) (n : Nat) : mm_Mo (mm_push v n) := fun _ _ _ _ _ _ hk _ _ _ _ _ _ _ _ h => hk _ _ _ _ _ _ _ h
theorem mo_goto (t : Nat) : mm_Mo (mm_goto t) := fun _ _ _ _ _ _ hk _ _ _ _ _ _ _ _ h => hk _ _ _ _ _ _ _ h
theorem mo_ld (i kd n : Nat) : mm_Mo (mm_ld i kd n) := by
  intro C k k' Q Q' _ hk _ pc ls st hs h bc bs hf
  unfold mm_ld at hf ⊢
  split at hf
  · exact ⟨hf.1, hk _ _ _ _ _ _ _ hf.2⟩
  · exact hf.elim
theorem mo_st (i kd n : Nat) : mm_Mo (mm_st i kd n) := by
  intro C k k' Q Q' _ hk _ pc ls st hs h bc bs hf
  unfold mm_st at hf ⊢
  split at hf
  · exact ⟨hf.1, hf.2.1, hk _ _ _ _ _ _ _ hf.2.2⟩
  · exact hf.elim
theorem mo_st2 (i n : Nat) : mm_Mo (mm_st2 i n) := by
  intro C k k' Q Q' _ hk _ pc ls st hs h bc bs hf
  unfold mm_st2 at hf ⊢
  split at hf
  · exact ⟨hf.1, hk _ _ _ _ _ _ _ hf.2⟩
  · exact hf.elim
theorem mo_iinc (i : Nat) (n : Int) : mm_Mo (mm_iinc i n) := by
  intro C k k' Q Q' _ hk _ pc ls st hs h bc bs hf
  unfold mm_iinc at hf ⊢
  split at hf
  · exact hk _ _ _ _ _ _ _ hf
  · exact hf.elim
theorem mo_ii (f : Int32 → Int32 → Int32) : mm_Mo (mm_ii f) := by
  intro C k k' Q Q' _ hk _ pc ls st hs h bc bs hf
  unfold mm_ii at hf ⊢
  split at hf
  · exact hk _ _ _ _ _ _ _ hf
  · exact hf.elim
theorem mo_idiv (f : Int32 → Int32 → Int32) : mm_Mo (mm_idiv f) := by
  intro C k k' Q Q' _ hk _ pc ls st hs h bc bs hf
  unfold mm_idiv at hf ⊢
  split at hf
  · exact ⟨hf.1, hk _ _ _ _ _ _ _ hf.2⟩
  · exact hf.elim
theorem mo_jj (f : Int64 → Int64 → Int64) : mm_Mo (mm_jj f) := by
  intro C k k' Q Q' _ hk _ pc ls st hs h bc bs hf
  unfold mm_jj at hf ⊢
  split at hf
  · exact hk _ _ _ _ _ _ _ hf
  · exact hf.elim
theorem mo_jdiv (f : Int64 → Int64 → Int64) : mm_Mo (mm_jdiv f) := by
  intro C k k' Q Q' _ hk _ pc ls st hs h bc bs hf
  unfold mm_jdiv at hf ⊢
  split at hf
  · exact ⟨hf.1, hk _ _ _ _ _ _ _ hf.2⟩
  · exact hf.elim
theorem mo_lshl : mm_Mo mm_lshl := by
  intro C k k' Q Q' _ hk _ pc ls st hs h bc bs hf
  unfold mm_lshl at hf ⊢
  split at hf
  · exact hk _ _ _ _ _ _ _ hf
  · exact hf.elim
theorem mo_lcmp : mm_Mo mm_lcmp := by
  intro C k k' Q Q' _ hk _ pc ls st hs h bc bs hf
  unfold mm_lcmp at hf ⊢
  split at hf
  · exact hk _ _ _ _ _ _ _ hf
  · exact hf.elim
theorem mo_i1 (f : Int32 → Int32) : mm_Mo (mm_i1 f) := by
  intro C k k' Q Q' _ hk _ pc ls st hs h bc bs hf
  unfold mm_i1 at hf ⊢
  split at hf
  · exact hk _ _ _ _ _ _ _ hf
  · exact hf.elim
theorem mo_i2l : mm_Mo mm_i2l := by
  intro C k k' Q Q' _ hk _ pc ls st hs h bc bs hf
  unfold mm_i2l at hf ⊢
  split at hf
  · exact hk _ _ _ _ _ _ _ hf
  · exact hf.elim
theorem mo_l2i : mm_Mo mm_l2i := by
  intro C k k' Q Q' _ hk _ pc ls st hs h bc bs hf
  unfold mm_l2i at hf ⊢
  split at hf
  · exact hk _ _ _ _ _ _ _ hf
  · exact hf.elim
theorem mo_pop : mm_Mo mm_pop := by
  intro C k k' Q Q' _ hk _ pc ls st hs h bc bs hf
  unfold mm_pop at hf ⊢
  split at hf
  · exact ⟨hf.1, hk _ _ _ _ _ _ _ hf.2⟩
  · exact hf.elim
theorem mo_dup : mm_Mo mm_dup := by
  intro C k k' Q Q' _ hk _ pc ls st hs h bc bs hf
  unfold mm_dup at hf ⊢
  split at hf
  · exact ⟨hf.1, hk _ _ _ _ _ _ _ hf.2⟩
  · exact hf.elim
theorem mo_dup2 : mm_Mo mm_dup2 := by
  intro C k k' Q Q' _ hk _ pc ls st hs h bc bs hf
  unfold mm_dup2 at hf ⊢
  split at hf
  · exact ⟨hf.1, hf.2.1, hk _ _ _ _ _ _ _ hf.2.2⟩
  · exact hf.elim
theorem mo_icmp (c : Jvm.ClassFile.Cond) (t : Nat) : mm_Mo (mm_icmp c t) := by
  intro C k k' Q Q' _ hk _ pc ls st hs h bc bs hf
  unfold mm_icmp at hf ⊢
  split at hf
  · exact ⟨fun q => hk _ _ _ _ _ _ _ (hf.1 q), fun q => hk _ _ _ _ _ _ _ (hf.2 q)⟩
  · exact hf.elim
theorem mo_if (c : Jvm.ClassFile.Cond) (t : Nat) : mm_Mo (mm_if c t) := by
  intro C k k' Q Q' _ hk _ pc ls st hs h bc bs hf
  unfold mm_if at hf ⊢
  split at hf
  · exact ⟨fun q => hk _ _ _ _ _ _ _ (hf.1 q), fun q => hk _ _ _ _ _ _ _ (hf.2 q)⟩
  · exact hf.elim
theorem mo_acmp (c : Jvm.ClassFile.ACond) (t : Nat) : mm_Mo (mm_acmp c t) := by
  intro C k k' Q Q' _ hk _ pc ls st hs h bc bs hf
  unfold mm_acmp at hf ⊢
  split at hf
  · cases c
    · exact ⟨fun q => hk _ _ _ _ _ _ _ (hf.1 q), fun q => hk _ _ _ _ _ _ _ (hf.2 q)⟩
    · exact ⟨fun q => hk _ _ _ _ _ _ _ (hf.1 q), fun q => hk _ _ _ _ _ _ _ (hf.2 q)⟩
  · exact hf.elim
theorem mo_ifnull (t : Nat) : mm_Mo (mm_ifnull t) := by
  intro C k k' Q Q' _ hk _ pc ls st hs h bc bs hf
  unfold mm_ifnull at hf ⊢
  split at hf
  · exact ⟨fun q => hk _ _ _ _ _ _ _ (hf.1 q), fun q => hk _ _ _ _ _ _ _ (hf.2 q)⟩
  · exact hf.elim
theorem mo_ifnonnull (t : Nat) : mm_Mo (mm_ifnonnull t) := by
  intro C k k' Q Q' _ hk _ pc ls st hs h bc bs hf
  unfold mm_ifnonnull at hf ⊢
  split at hf
  · exact ⟨fun q => hk _ _ _ _ _ _ _ (hf.1 q), fun q => hk _ _ _ _ _ _ _ (hf.2 q)⟩
  · exact hf.elim
theorem mo_tsw1 {K K' : Nat → Prop} (hk : ∀ t, K t → K' t) {x : Int32} {pc : Nat} : ∀ (os : List Int) (lo : Int), mm_tsw1 K x pc lo os → mm_tsw1 K' x pc lo os
  | [], _, _ => trivial
  | _ :: os, lo, h => ⟨fun q => hk _ (h.1 q), mo_tsw1 hk os (lo + 1) h.2⟩
theorem mo_tsw (d lo hi : Int) (os : Array Int) : mm_Mo (mm_tsw d lo hi os) := by
  intro C k k' Q Q' _ hk _ pc ls st hs h bc bs hf
  unfold mm_tsw at hf ⊢
  split at hf
  · exact ⟨fun q => hk _ _ _ _ _ _ _ (hf.1 q), mo_tsw1 (fun t g => hk _ _ _ _ _ _ _ g) _ _ hf.2⟩
  · exact hf.elim
theorem mo_lsw1 {K K' : Nat → Prop} (hk : ∀ t, K t → K' t) {x : Int32} {pc : Nat} {d : Int} : ∀ (os : List (Int × Int)), mm_lsw1 K x pc d os → mm_lsw1 K' x pc d os
  | [], h => hk _ h
  | _ :: os, h => ⟨fun q => hk _ (h.1 q), fun q => mo_lsw1 hk os (h.2 q)⟩
theorem mo_lsw (d : Int) (os : Array (Int × Int)) : mm_Mo (mm_lsw d os) := by
  intro C k k' Q Q' _ hk _ pc ls st hs h bc bs hf
  unfold mm_lsw at hf ⊢
  split at hf
  · exact mo_lsw1 (fun t g => hk _ _ _ _ _ _ _ g) _ hf
  · exact hf.elim
theorem mo_getf (x y : Nat) : mm_Mo (mm_getf x y) := by
  intro C k k' Q Q' _ hk _ pc ls st hs h bc bs hf
  unfold mm_getf at hf ⊢
  split at hf
  · refine ⟨hf.1, ?_⟩
    cases y with
    | zero => exact hk _ _ _ _ _ _ _ hf.2
    | succ y => exact hk _ _ _ _ _ _ _ hf.2
  · exact hf.elim
theorem mo_putfR (x : Nat) : mm_Mo (mm_putfR x) := by
  intro C k k' Q Q' _ hk _ pc ls st hs h bc bs hf
  unfold mm_putfR at hf ⊢
  split at hf
  · exact ⟨hf.1, hk _ _ _ _ _ _ _ hf.2⟩
  · exact hf.elim
theorem mo_putfZ (x : Nat) : mm_Mo (mm_putfZ x) := by
  intro C k k' Q Q' _ hk _ pc ls st hs h bc bs hf
  unfold mm_putfZ at hf ⊢
  split at hf
  · exact ⟨hf.1, hf.2.1, hk _ _ _ _ _ _ _ hf.2.2⟩
  · exact hf.elim
theorem mo_putfI (x : Nat) : mm_Mo (mm_putfI x) := by
  intro C k k' Q Q' _ hk _ pc ls st hs h bc bs hf
  unfold mm_putfI at hf ⊢
  split at hf
  · exact ⟨hf.1, hk _ _ _ _ _ _ _ hf.2⟩
  · exact hf.elim
theorem mo_putf (x y : Nat) : mm_Mo (mm_putf x y) := by
  match y with
  | 0 => exact mo_putfI x
  | 1 => exact mo_putfZ x
  | 2 => exact mo_putfR x
  | _ + 3 => exact mo_putfI x
theorem mo_iald (z : Rm) : mm_Mo (mm_iald z) := by
  intro C k k' Q Q' _ hk _ pc ls st hs h bc bs hf
  unfold mm_iald at hf ⊢
  split at hf
  · rcases hf with ⟨g1, g2, g3⟩ | ⟨q, g1, g2, g3⟩
    · exact Or.inl ⟨g1, g2, hk _ _ _ _ _ _ _ g3⟩
    · exact Or.inr ⟨q, g1, g2, hk _ _ _ _ _ _ _ g3⟩
  · exact hf.elim
theorem mo_bald (z : Rm) : mm_Mo (mm_bald z) := by
  intro C k k' Q Q' _ hk _ pc ls st hs h bc bs hf
  unfold mm_bald at hf ⊢
  split at hf
  · rcases hf with ⟨g1, g2, g3⟩ | ⟨g1, g2, g3⟩
    · exact Or.inl ⟨g1, g2, hk _ _ _ _ _ _ _ g3⟩
    · exact Or.inr ⟨g1, g2, hk _ _ _ _ _ _ _ g3⟩
  · exact hf.elim
theorem mo_gsv (z : Rm) : mm_Mo (mm_gsv z) := by
  intro C k k' Q Q' _ hk _ pc ls st hs h bc bs hf
  unfold mm_gsv at hf ⊢
  split at hf
  · exact ⟨hf.1, hk _ _ _ _ _ _ _ hf.2⟩
  · exact hf.elim
theorem mo_gsc (z : Rm) : mm_Mo (mm_gsc z) := by
  intro C k k' Q Q' _ hk _ pc ls st hs h bc bs hf
  unfold mm_gsc at hf ⊢
  split at hf
  · exact ⟨hf.1, hk _ _ _ _ _ _ _ hf.2⟩
  · exact hf.elim
theorem mo_lald : mm_Mo mm_lald := by
  intro C k k' Q Q' _ hk _ pc ls st hs h bc bs hf
  unfold mm_lald at hf ⊢
  split at hf
  · exact ⟨hf.1, hf.2.1, hk _ _ _ _ _ _ _ hf.2.2⟩
  · exact hf.elim
theorem mo_aald : mm_Mo mm_aald := by
  intro C k k' Q Q' _ hk _ pc ls st hs h bc bs hf
  unfold mm_aald at hf ⊢
  split at hf
  · exact ⟨hf.1, hf.2.1, hk _ _ _ _ _ _ _ hf.2.2⟩
  · exact hf.elim
theorem mo_iast : mm_Mo mm_iast := by
  intro C k k' Q Q' _ hk _ pc ls st hs h bc bs hf
  unfold mm_iast at hf ⊢
  split at hf
  · exact ⟨hf.1, hf.2.1, hk _ _ _ _ _ _ _ hf.2.2⟩
  · exact hf.elim
theorem mo_bast : mm_Mo mm_bast := by
  intro C k k' Q Q' _ hk _ pc ls st hs h bc bs hf
  unfold mm_bast at hf ⊢
  split at hf
  · obtain ⟨g0, ⟨g1, g2⟩ | ⟨g1, g2⟩⟩ := hf
    · exact ⟨g0, Or.inl ⟨g1, hk _ _ _ _ _ _ _ g2⟩⟩
    · exact ⟨g0, Or.inr ⟨g1, hk _ _ _ _ _ _ _ g2⟩⟩
  · exact hf.elim
theorem mo_last : mm_Mo mm_last := by
  intro C k k' Q Q' _ hk _ pc ls st hs h bc bs hf
  unfold mm_last at hf ⊢
  split at hf
  · exact ⟨hf.1, hf.2.1, hk _ _ _ _ _ _ _ hf.2.2⟩
  · exact hf.elim
theorem mo_aast : mm_Mo mm_aast := by
  intro C k k' Q Q' _ hk _ pc ls st hs h bc bs hf
  unfold mm_aast at hf ⊢
  split at hf
  · exact ⟨hf.1, hf.2.1, hf.2.2.1, hk _ _ _ _ _ _ _ hf.2.2.2⟩
  · exact hf.elim
theorem mo_alen (z : Rm) : mm_Mo (mm_alen z) := by
  intro C k k' Q Q' _ hk _ pc ls st hs h bc bs hf
  unfold mm_alen at hf ⊢
  split at hf
  · rcases hf with ⟨g1, g3⟩ | ⟨q, g1, g3⟩ | ⟨g1, g3⟩
    · exact Or.inl ⟨g1, hk _ _ _ _ _ _ _ g3⟩
    · exact Or.inr (Or.inl ⟨q, g1, hk _ _ _ _ _ _ _ g3⟩)
    · exact Or.inr (Or.inr ⟨g1, hk _ _ _ _ _ _ _ g3⟩)
  · exact hf.elim
theorem mo_new (ci n : Nat) : mm_Mo (mm_new ci n) := fun _ _ _ _ _ _ hk _ _ _ _ _ _ _ _ h => ⟨h.1, h.2.1, hk _ _ _ _ _ _ _ h.2.2⟩
theorem mo_newa (kd len : Nat) : mm_Mo (mm_newa kd len) := by
  intro C k k' Q Q' _ hk _ pc ls st hs h bc bs hf
  unfold mm_newa at hf ⊢
  split at hf
  · exact ⟨hf.1, hf.2.1, hf.2.2.1, hf.2.2.2.1, hk _ _ _ _ _ _ _ hf.2.2.2.2⟩
  · exact hf.elim
theorem mo_objI : mm_Mo mm_objI := by
  intro C k k' Q Q' _ hk _ pc ls st hs h bc bs hf
  unfold mm_objI at hf ⊢
  split at hf
  · exact ⟨hf.1, hk _ _ _ _ _ _ _ hf.2⟩
  · exact hf.elim
theorem mo_call (x y : Nat) : mm_Mo (mm_call x y) := by
  intro C k k' Q Q' hC hk _ pc ls st hs h bc bs hf
  obtain ⟨g1, g2, c1, s1, f1, f2, hc⟩ := hf
  exact ⟨g1, g2, c1, s1, f1, f2, hC _ _ _ _ _ _ _ _ (fun r hs h g => hk _ _ _ _ _ _ _ g) hc⟩
theorem mo_callV (x y : Nat) (z : Int) : mm_Mo (mm_callV x y z) := fun C k k' Q Q' hC hk hQ pc ls st hs h bc bs hf => ⟨hf.1, mo_call x y C k k' Q Q' hC hk hQ pc ls st hs h bc bs hf.2⟩
theorem mo_callT (z : Rm) (x y : Nat) : mm_Mo (mm_callT z x y) := fun C k k' Q Q' hC hk hQ pc ls st hs h bc bs hf => ⟨hf.1, mo_call x y C k k' Q Q' hC hk hQ pc ls st hs h bc bs hf.2⟩
theorem mo_ext2 (f : Int32 → Int32 → Int32) : mm_Mo (mm_ext2 f) := by
  intro C k k' Q Q' _ hk _ pc ls st hs h bc bs hf
  unfold mm_ext2 at hf ⊢
  split at hf
  · exact ⟨hf.1, hk _ _ _ _ _ _ _ hf.2⟩
  · exact hf.elim
theorem mo_copy : mm_Mo mm_copy := by
  intro C k k' Q Q' _ hk _ pc ls st hs h bc bs hf
  unfold mm_copy at hf ⊢
  split at hf
  · obtain ⟨g0, g1, g2, g3, g4, g5, ⟨g6, g7, g8, g9⟩ | ⟨g6, g7, g9⟩⟩ := hf
    · exact ⟨g0, g1, g2, g3, g4, g5, Or.inl ⟨g6, g7, g8, hk _ _ _ _ _ _ _ g9⟩⟩
    · exact ⟨g0, g1, g2, g3, g4, g5, Or.inr ⟨g6, g7, hk _ _ _ _ _ _ _ g9⟩⟩
  · exact hf.elim
theorem mo_iret (y : Nat) : mm_Mo (mm_iret y) := by
  intro C k k' Q Q' _ _ hQ pc ls st hs h bc bs hf
  unfold mm_iret at hf ⊢
  split at hf
  · exact ⟨hf.1, hf.2.1, hQ _ _ _ hf.2.2⟩
  · exact hf.elim
theorem mo_lret : mm_Mo mm_lret := by
  intro C k k' Q Q' _ _ hQ pc ls st hs h bc bs hf
  unfold mm_lret at hf ⊢
  split at hf
  · exact hQ _ _ _ hf
  · exact hf.elim
theorem mo_aret : mm_Mo mm_aret := by
  intro C k k' Q Q' _ _ hQ pc ls st hs h bc bs hf
  unfold mm_aret at hf ⊢
  split at hf
  · exact hQ _ _ _ hf
  · exact hf.elim
theorem mo_vret : mm_Mo mm_vret := by
  intro C k k' Q Q' _ _ hQ pc ls st hs h bc bs hf
  unfold mm_vret at hf ⊢
  split at hf
  · exact hQ _ _ _ hf
  · exact hf.elim
theorem mo_ite {P : Prop} {hd : Decidable P} {f g : MStep} (hf : mm_Mo f) (hg : mm_Mo g) : mm_Mo (@ite MStep P hd f g) := by
  split
  · exact hf
  · exact hg
theorem mo_sem (z : Rm) (q : En) : mm_Mo (mm_sem z q) := by
  obtain ⟨ins, len, x, y, v⟩ := q
  cases ins with
  | aload_n n => exact mo_ld _ _ _
  | iload_n n => exact mo_ld _ _ _
  | lload_n n => exact mo_ld _ _ _
  | aload n => exact mo_ld _ _ _
  | iload n => exact mo_ld _ _ _
  | lload n => exact mo_ld _ _ _
  | astore_n n => exact mo_st _ _ _
  | istore_n n => exact mo_st _ _ _
  | lstore_n n => exact mo_st2 _ _
  | astore n => exact mo_st _ _ _
  | istore n => exact mo_st _ _ _
  | lstore n => exact mo_st2 _ _
  | iinc i n => exact mo_iinc _ _
  | iconst n => exact mo_push _ _
  | bipush n => exact mo_push _ _
  | sipush n => exact mo_push _ _
  | lconst n => exact mo_push _ _
  | aconst_null => exact mo_push _ _
  | ldc i => exact mo_ite (mo_push _ _) (mo_push _ _)
  | ldc_w i => exact mo_ite (mo_push _ _) (mo_push _ _)
  | ldc2_w i => exact mo_push _ _
  | iadd => exact mo_ii _
  | isub => exact mo_ii _
  | imul => exact mo_ii _
  | iand => exact mo_ii _
  | ior => exact mo_ii _
  | ixor => exact mo_ii _
  | ishl => exact mo_ii _
  | ishr => exact mo_ii _
  | iushr => exact mo_ii _
  | idiv => exact mo_idiv _
  | irem => exact mo_idiv _
  | ladd => exact mo_jj _
  | lsub => exact mo_jj _
  | lmul => exact mo_jj _
  | land => exact mo_jj _
  | lor => exact mo_jj _
  | ldiv => exact mo_jdiv _
  | lrem => exact mo_jdiv _
  | lshl => exact mo_lshl
  | lcmp => exact mo_lcmp
  | ineg => exact mo_i1 _
  | i2b => exact mo_i1 _
  | i2s => exact mo_i1 _
  | i2c => exact mo_i1 _
  | i2l => exact mo_i2l
  | l2i => exact mo_l2i
  | pop => exact mo_pop
  | dup => exact mo_dup
  | dup2 => exact mo_dup2
  | if_icmp c _ => exact mo_icmp _ _
  | ifCond c _ => exact mo_if _ _
  | if_acmp c _ => exact mo_acmp _ _
  | ifnull _ => exact mo_ifnull _
  | ifnonnull _ => exact mo_ifnonnull _
  | goto _ => exact mo_goto _
  | tableswitch d lo hi os => exact mo_tsw _ _ _ _
  | lookupswitch d os => exact mo_lsw _ _
  | getfield _ => exact mo_ite (mo_gsv z) (mo_ite (mo_gsc z) (mo_getf _ _))
  | putfield _ => exact mo_putf _ _
  | iaload => exact mo_iald z
  | baload => exact mo_bald z
  | laload => exact mo_lald
  | aaload => exact mo_aald
  | iastore => exact mo_iast
  | bastore => exact mo_bast
  | lastore => exact mo_last
  | aastore => exact mo_aast
  | arraylength => exact mo_alen z
  | new _ => exact mo_new _ _
  | newarray _ => exact mo_newa _ _
  | anewarray _ => exact mo_newa _ _
  | getstatic _ => exact mo_ite (mo_push _ _) (mo_push _ _)
  | invokespecial _ => exact mo_ite mo_objI (mo_callV _ _ _)
  | invokestatic _ => exact mo_ite (mo_ext2 _) (mo_ite (mo_ext2 _) (mo_ite mo_copy (mo_call _ _)))
  | invokevirtual _ => exact mo_ite (mo_callT z _ _) (mo_callV _ _ _)
  | ireturn => exact mo_iret _
  | lreturn => exact mo_lret
  | areturn => exact mo_aret
  | return_ => exact mo_vret
  | _ => exact mo_no
/-- a run grows with what is wanted behind it -/
theorem mm_X_mono {z : Rm} {C : Ct} {T : Nat → Option En} {Q Q' : Qt} (hC : mm_CM C) (hQ : ∀ r hs h, Q r hs h → Q' r hs h) {pc : Nat} {ls : List (Option MV)} {st : List MV} {hs : Nat} {h : Hp} {bc bs : Nat} (hX : mm_X z C T Q pc ls st hs h bc bs) : mm_X z C T Q' pc ls st hs h bc bs := by
  intro K hK
  refine hX K fun pc ls st hs h bc bs hf => hK pc ls st hs h bc bs ?_
  cases hq : T pc with
  | none => rw [hq] at hf; exact hf.elim
  | some q =>
    rw [hq] at hf
    exact mo_sem z q C K K Q Q' hC (fun _ _ _ _ _ _ _ g => g) hQ _ _ _ _ _ _ _ hf
/-- ONE STEP -/
theorem mm_X_step {z : Rm} {C : Ct} {T : Nat → Option En} {Q : Qt} (hC : mm_CM C) {pc : Nat} {q : En} {ls : List (Option MV)} {st : List MV} {hs : Nat} {h : Hp} {bc bs : Nat} (hT : T pc = some q) (hf : mm_sem z q C (mm_X z C T Q) Q pc ls st hs h bc bs) : mm_X z C T Q pc ls st hs h bc bs := by
  intro K hK
  refine hK pc ls st hs h bc bs ?_
  rw [hT]
  exact mo_sem z q C (mm_X z C T Q) K Q Q hC (fun _ _ _ _ _ _ _ g => g K hK) (fun _ _ _ g => g) _ _ _ _ _ _ _ hf
theorem mm_C_mono {z : Rm} {mL : Nat → Nat} {P : Nat → Option (Nat → Option En)} : ∀ d, mm_CM (mm_C z mL P d) := by
  intro d
  induction d with
  | zero => intro x as hs h bc bs Q Q' _ hf; exact hf.elim
  | succ d ih =>
    intro x as hs h bc bs Q Q' hQ hf
    cases hT : P x with
    | none =>
      have hf : (match P x with
        | none => False
        | some T => (mm_args as).length ≤ mL x ∧ mm_X z (mm_C z mL P d) T Q 0 (mm_loc as (mL x)) [] hs h bc bs) := hf
      rw [hT] at hf
      exact hf.elim
    | some T =>
      have hf : (match P x with
        | none => False
        | some T => (mm_args as).length ≤ mL x ∧ mm_X z (mm_C z mL P d) T Q 0 (mm_loc as (mL x)) [] hs h bc bs) := hf
      rw [hT] at hf
      show (match P x with
        | none => False
        | some T => (mm_args as).length ≤ mL x ∧ mm_X z (mm_C z mL P d) T Q' 0 (mm_loc as (mL x)) [] hs h bc bs)
      rw [hT]
      exact ⟨hf.1, mm_X_mono ih hQ hf.2⟩
/-- A CALL, from the run of its table -/
theorem mm_C_in {z : Rm} {mL : Nat → Nat} {P : Nat → Option (Nat → Option En)} {d x : Nat} {as : List MV} {hs : Nat} {h : Hp} {bc bs : Nat} {Q : Qt} {T : Nat → Option En} (hT : P x = some T) (hl : (mm_args as).length ≤ mL x) (hX : mm_X z (mm_C z mL P d) T Q 0 (mm_loc as (mL x)) [] hs h bc bs) : mm_C z mL P (d + 1) x as hs h bc bs Q := by
  show (match P x with
    | none => False
    | some T => (mm_args as).length ≤ mL x ∧ mm_X z (mm_C z mL P d) T Q 0 (mm_loc as (mL x)) [] hs h bc bs)
  rw [hT]
  exact ⟨hl, hX⟩
