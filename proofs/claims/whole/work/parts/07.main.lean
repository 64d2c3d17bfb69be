/-! PART 07: what a table must fulfil, and that then the small machine's runs are the Java machine's. -/
def mm_hfl (o i x : Nat) : Bool := mm_fl.any (fun q => Nat.beq q.1 o && (Nat.beq q.2.1 i && Nat.beq q.2.2.1 x))
def mm_hck (o i : Nat) (v : Int) : Bool := mm_ck.any (fun q => Nat.beq q.1 o && (Nat.beq q.2.1 i && decide (q.2.2.1 = v)))
def mm_hcj (o i : Nat) (v : Int) : Bool := mm_cj.any (fun q => Nat.beq q.1 o && (Nat.beq q.2.1 i && decide (q.2.2.1 = v)))
def mm_hcl (o i x : Nat) : Bool := mm_cl.any (fun q => Nat.beq q.1 o && (Nat.beq q.2.1 i && Nat.beq q.2.2.1 x))
def mm_hol (o i x : Nat) : Bool := mm_ol.any (fun q => Nat.beq q.1 o && (Nat.beq q.2.1 i && Nat.beq q.2.2.1 x))
def mm_hex (o i x : Nat) : Bool := mm_ex.any (fun q => Nat.beq q.1 o && (Nat.beq q.2.1 i && Nat.beq q.2.2.1 x))
def mm_hsl (o i x : Nat) : Bool := mm_sl.any (fun q => Nat.beq q.1 o && (Nat.beq q.2.1 i && Nat.beq q.2.2.1 x)) || mm_sn.any (fun q => Nat.beq q.1 o && (Nat.beq q.2.1 i && Nat.beq q.2.2 x))
def mm_hss (o i : Nat) : Bool := mm_ss.any (fun q => Nat.beq q.1 o && Nat.beq q.2 i)
def mm_hoi (o i : Nat) : Bool := mm_oi.any (fun q => Nat.beq q.1 o && Nat.beq q.2.1 i)
def mm_hal (x : Nat) : Bool := mm_al.any (fun q => Nat.beq q.1 x)
def mm_hml (o i x k1 k2 : Nat) : Bool := mm_ml.any (fun q => Nat.beq q.1 o && (Nat.beq q.2.1 i && (Nat.beq q.2.2.1 x && (Nat.beq q.2.2.2.1 k1 || Nat.beq q.2.2.2.1 k2))))
def mm_hfs (o i x : Nat) : Bool := mm_fs.any (fun q => Nat.beq q.1 o && (Nat.beq q.2.1 i && Nat.beq q.2.2.1 x))
def mm_hs2 (o i : Nat) : Bool := mm_s2.any (fun q => Nat.beq q.1 o && Nat.beq q.2.1 i)
theorem mm_beq {a b : Nat} (h : Nat.beq a b = true) : a = b := Nat.eq_of_beq_eq_true h
theorem mm_hfl_s {o i x : Nat} (h : mm_hfl o i x = true) : ∃ j, (o, i, x, j) ∈ mm_fl := by
  obtain ⟨q, hq, h⟩ := List.any_eq_true.mp h
  simp only [Bool.and_eq_true] at h
  obtain ⟨h1, h2, h3⟩ := h
  exact ⟨q.2.2.2, by rw [← mm_beq h1, ← mm_beq h2, ← mm_beq h3]; exact hq⟩
theorem mm_hfs_s {o i x : Nat} (h : mm_hfs o i x = true) : ∃ j, (o, i, x, j) ∈ mm_fs := by
  obtain ⟨q, hq, h⟩ := List.any_eq_true.mp h
  simp only [Bool.and_eq_true] at h
  obtain ⟨h1, h2, h3⟩ := h
  exact ⟨q.2.2.2, by rw [← mm_beq h1, ← mm_beq h2, ← mm_beq h3]; exact hq⟩
theorem mm_hs2_s {o i : Nat} (h : mm_hs2 o i = true) : ∃ j, (o, i, j) ∈ mm_s2 := by
  obtain ⟨q, hq, h⟩ := List.any_eq_true.mp h
  simp only [Bool.and_eq_true] at h
  exact ⟨q.2.2, by rw [← mm_beq h.1, ← mm_beq h.2]; exact hq⟩
theorem mm_hck_s {o i : Nat} {v : Int} (h : mm_hck o i v = true) : ∃ j, (o, i, v, j) ∈ mm_ck := by
  obtain ⟨q, hq, h⟩ := List.any_eq_true.mp h
  simp only [Bool.and_eq_true, decide_eq_true_eq] at h
  obtain ⟨h1, h2, h3⟩ := h
  exact ⟨q.2.2.2, by rw [← mm_beq h1, ← mm_beq h2, ← h3]; exact hq⟩
theorem mm_hcj_s {o i : Nat} {v : Int} (h : mm_hcj o i v = true) : ∃ j, (o, i, v, j) ∈ mm_cj := by
  obtain ⟨q, hq, h⟩ := List.any_eq_true.mp h
  simp only [Bool.and_eq_true, decide_eq_true_eq] at h
  obtain ⟨h1, h2, h3⟩ := h
  exact ⟨q.2.2.2, by rw [← mm_beq h1, ← mm_beq h2, ← h3]; exact hq⟩
theorem mm_hcl_s {o i x : Nat} (h : mm_hcl o i x = true) : ∃ j1 j2 j3, (o, i, x, j1, j2, j3) ∈ mm_cl := by
  obtain ⟨q, hq, h⟩ := List.any_eq_true.mp h
  simp only [Bool.and_eq_true] at h
  obtain ⟨h1, h2, h3⟩ := h
  exact ⟨q.2.2.2.1, q.2.2.2.2.1, q.2.2.2.2.2, by rw [← mm_beq h1, ← mm_beq h2, ← mm_beq h3]; exact hq⟩
theorem mm_hol_s {o i x : Nat} (h : mm_hol o i x = true) : ∃ j, (o, i, x, j) ∈ mm_ol := by
  obtain ⟨q, hq, h⟩ := List.any_eq_true.mp h
  simp only [Bool.and_eq_true] at h
  obtain ⟨h1, h2, h3⟩ := h
  exact ⟨q.2.2.2, by rw [← mm_beq h1, ← mm_beq h2, ← mm_beq h3]; exact hq⟩
theorem mm_hex_s {o i x : Nat} (h : mm_hex o i x = true) : ∃ j, (o, i, x, j) ∈ mm_ex := by
  obtain ⟨q, hq, h⟩ := List.any_eq_true.mp h
  simp only [Bool.and_eq_true] at h
  obtain ⟨h1, h2, h3⟩ := h
  exact ⟨q.2.2.2, by rw [← mm_beq h1, ← mm_beq h2, ← mm_beq h3]; exact hq⟩
theorem mm_hsl_s {o i x : Nat} (h : mm_hsl o i x = true) : (∃ j, (o, i, x, j) ∈ mm_sl) ∨ (o, i, x) ∈ mm_sn := by
  rcases (Bool.or_eq_true _ _).mp h with h | h
  · obtain ⟨q, hq, h⟩ := List.any_eq_true.mp h
    simp only [Bool.and_eq_true] at h
    obtain ⟨h1, h2, h3⟩ := h
    exact Or.inl ⟨q.2.2.2, by rw [← mm_beq h1, ← mm_beq h2, ← mm_beq h3]; exact hq⟩
  · obtain ⟨q, hq, h⟩ := List.any_eq_true.mp h
    simp only [Bool.and_eq_true] at h
    obtain ⟨h1, h2, h3⟩ := h
    exact Or.inr (by rw [← mm_beq h1, ← mm_beq h2, ← mm_beq h3]; exact hq)
theorem mm_hss_s {o i : Nat} (h : mm_hss o i = true) : (o, i) ∈ mm_ss := by
  obtain ⟨q, hq, h⟩ := List.any_eq_true.mp h
  simp only [Bool.and_eq_true] at h
  rw [← mm_beq h.1, ← mm_beq h.2]
  exact hq
theorem mm_hoi_s {o i : Nat} (h : mm_hoi o i = true) : ∃ j, (o, i, j) ∈ mm_oi := by
  obtain ⟨q, hq, h⟩ := List.any_eq_true.mp h
  simp only [Bool.and_eq_true] at h
  exact ⟨q.2.2, by rw [← mm_beq h.1, ← mm_beq h.2]; exact hq⟩
theorem mm_hal_s {x : Nat} (h : mm_hal x = true) : ∃ j, (x, j) ∈ mm_al := by
  obtain ⟨q, hq, h⟩ := List.any_eq_true.mp h
  exact ⟨q.2, by rw [← mm_beq h]; exact hq⟩
theorem mm_hml_s {o i x k1 k2 : Nat} (h : mm_hml o i x k1 k2 = true) : ∃ kd j1 j2 j3 j4, (o, i, x, kd, j1, j2, j3, j4) ∈ mm_ml ∧ (kd = k1 ∨ kd = k2) := by
  obtain ⟨q, hq, h⟩ := List.any_eq_true.mp h
  simp only [Bool.and_eq_true, Bool.or_eq_true] at h
  obtain ⟨h1, h2, h3, h4⟩ := h
  exact ⟨q.2.2.2.1, q.2.2.2.2.1, q.2.2.2.2.2.1, q.2.2.2.2.2.2.1, q.2.2.2.2.2.2.2, by rw [← mm_beq h1, ← mm_beq h2, ← mm_beq h3]; exact hq, by
    rcases h4 with g | g
    · exact Or.inl (mm_beq g)
    · exact Or.inr (mm_beq g)⟩
/-- what a row of a table must fulfil: class number, constructor or not, answer's type, place -/
def mm_ok2 (o : Nat) (ini : Bool) (ret : Option FieldType) (pc : Nat) (ins : Instr) (len x y : Nat) (v : Int) : Bool := match ins with
  | .aload_n _ => decide (len = 1)
  | .iload_n _ => decide (len = 1)
  | .lload_n _ => decide (len = 1)
  | .aload _ => decide (len = 2)
  | .iload _ => decide (len = 2)
  | .lload _ => decide (len = 2)
  | .astore_n _ => decide (len = 1)
  | .istore_n _ => decide (len = 1)
  | .lstore_n _ => decide (len = 1)
  | .astore _ => decide (len = 2)
  | .istore _ => decide (len = 2)
  | .lstore _ => decide (len = 2)
  | .iinc _ _ => decide (len = 3)
  | .iconst _ => decide (len = 1)
  | .bipush _ => decide (len = 2)
  | .sipush _ => decide (len = 3)
  | .lconst _ => decide (len = 1)
  | .aconst_null => decide (len = 1)
  | .ldc i => decide (len = 2) && (bif Nat.beq x 1 then mm_hss o i else mm_hck o i v)
  | .ldc_w i => decide (len = 3) && (bif Nat.beq x 1 then mm_hss o i else mm_hck o i v)
  | .ldc2_w i => decide (len = 3) && mm_hcj o i v
  | .iadd => decide (len = 1)
  | .isub => decide (len = 1)
  | .imul => decide (len = 1)
  | .iand => decide (len = 1)
  | .ior => decide (len = 1)
  | .ixor => decide (len = 1)
  | .ishl => decide (len = 1)
  | .ishr => decide (len = 1)
  | .iushr => decide (len = 1)
  | .idiv => decide (len = 1)
  | .irem => decide (len = 1)
  | .ladd => decide (len = 1)
  | .lsub => decide (len = 1)
  | .lmul => decide (len = 1)
  | .land => decide (len = 1)
  | .lor => decide (len = 1)
  | .ldiv => decide (len = 1)
  | .lrem => decide (len = 1)
  | .lshl => decide (len = 1)
  | .lcmp => decide (len = 1)
  | .ineg => decide (len = 1)
  | .i2b => decide (len = 1)
  | .i2s => decide (len = 1)
  | .i2c => decide (len = 1)
  | .i2l => decide (len = 1)
  | .l2i => decide (len = 1)
  | .pop => decide (len = 1)
  | .dup => decide (len = 1)
  | .dup2 => decide (len = 1)
  | .if_icmp _ t => decide (len = 3 ∧ (pc : Int) + t = (x : Int))
  | .ifCond _ t => decide (len = 3 ∧ (pc : Int) + t = (x : Int))
  | .if_acmp _ t => decide (len = 3 ∧ (pc : Int) + t = (x : Int))
  | .ifnull t => decide (len = 3 ∧ (pc : Int) + t = (x : Int))
  | .ifnonnull t => decide (len = 3 ∧ (pc : Int) + t = (x : Int))
  | .goto t => decide (len = 3 ∧ (pc : Int) + t = (x : Int))
  | .tableswitch d lo hi os => decide (0 ≤ (pc : Int) + d ∧ (os.toList.length : Int) = hi - lo + 1) && os.toList.all (fun t => decide (0 ≤ (pc : Int) + t))
  | .lookupswitch d os => decide (0 ≤ (pc : Int) + d) && (os.toList.all (fun t => decide (0 ≤ (pc : Int) + t.2)) && (os.toList.zip (os.toList.drop 1)).all (fun (a, next) => a.1 < next.1))
  | .getfield i => bif Nat.beq x 9100 then mm_hfs o i 9100 && decide (len = 3) else bif Nat.beq x 9101 then mm_hfs o i 9101 && decide (len = 3) else mm_hfl o i x && decide (len = 3 ∧ x / 100 < 14 ∧ x % 100 < mm_fN (x / 100) ∧ ((y = 0 ∧ mm_isR (mm_fty x) = false) ∨ (y = 2 ∧ mm_isR (mm_fty x) = true)))
  | .putfield i => mm_hfl o i x && decide (len = 3 ∧ x / 100 < 14 ∧ x % 100 < mm_fN (x / 100) ∧ ((mm_fT x).2.2.2 = false ∨ (ini = true ∧ (mm_fT x).1 = mm_on o)) ∧ ((y = 0 ∧ mm_fty x = .int) ∨ (y = 1 ∧ mm_fty x = .boolean) ∨ (y = 2 ∧ mm_isR (mm_fty x) = true)))
  | .iaload => decide (len = 1)
  | .baload => decide (len = 1)
  | .laload => decide (len = 1)
  | .aaload => decide (len = 1)
  | .iastore => decide (len = 1)
  | .bastore => decide (len = 1)
  | .lastore => decide (len = 1)
  | .aastore => decide (len = 1)
  | .arraylength => decide (len = 1)
  | .new i => mm_hcl o i x && decide (len = 3 ∧ x < 14 ∧ y = mm_fN x)
  | .newarray t => mm_hal x && decide (len = 2 ∧ 19 < x ∧ x < 24 ∧ newarray.typeOf t = mm_aty x)
  | .anewarray i => mm_hol o i x && decide (len = 3)
  | .getstatic i => bif Nat.beq x 9100 then mm_hs2 o i && decide (len = 3) else mm_hsl o i x && decide (len = 3 ∧ x < 5)
  | .invokespecial i => decide (len = 3) && (bif Nat.beq x 9999 then mm_hoi o i else mm_hml o i x 2 5 && decide (y = mm_np x + 1 ∧ v = (mm_mcl x : Nat) ∧ mm_mcl x < 14 ∧ mm_ini x = true ∧ mm_mR x = none ∧ mm_mL x ≤ 41))
  | .invokestatic i => decide (len = 3) && (bif Nat.beq x 9001 then mm_hex o i 9001 else bif Nat.beq x 9002 then mm_hex o i 9002 else bif Nat.beq x 9003 then mm_hex o i 9003 else mm_hml o i x 0 3 && decide (y = mm_np x ∧ mm_mL x ≤ 41))
  | .invokevirtual i => decide (len = 3) && (mm_hml o i x 1 4 && decide (y = mm_np x + 1 ∧ mm_mL x ≤ 41 ∧ ((v = 99 ∧ mm_mcl x = 16) ∨ (¬ v = 99 ∧ v = (mm_mcl x : Nat) ∧ mm_mcl x < 14))))
  | .ireturn => decide (len = 1 ∧ ((x = 0 ∧ ret = some .int) ∨ (x = 1 ∧ ret = some .boolean) ∨ (x = 2 ∧ ret = some .byte)))
  | .lreturn => decide (len = 1 ∧ ret = some .long)
  | .areturn => decide (len = 1) && (match ret with
    | some t => mm_isR t
    | none => false)
  | .return_ => decide (len = 1 ∧ ret = none)
  | _ => true
def mm_ok (o : Nat) (ini : Bool) (cc : ByteArray) (ret : Option FieldType) (pc : Nat) (q : En) : Bool := decide (decode cc pc = .ok (q.1, q.2.1)) && mm_ok2 o ini ret pc q.1 q.2.1 q.2.2.1 q.2.2.2.1 q.2.2.2.2
section MMD
variable {p : Program} {l : Launch} {e : Env} {R : Room} {s : State} {m : MethodId} {args : Array Value} {below : List Frame} {meth : Method} {c : Code} {D : va_G} {cA : Nat → ClassId} {B : Nat}
variable {cc : ByteArray} {nL own : Nat} {z : Rm} {pc : Nat} {C : Ct} {Q : Qt} {k : Kt}
theorem so_ldcS (X : mm_Cx p s m args meth c cc nL own D cA B z) {QQ : State → Prop} {idx : Nat} (hq : (own, idx) ∈ mm_ss) (hd : decode cc pc = .ok (.ldc idx, 2)) : mm_Ok p l e R s m args below meth c D cA B nL QQ C k Q pc (mm_push (vR (some (z.2 100))) 2) := by
  obtain ⟨x1, x2, x3, x4, x5, ⟨-, -, -, -, -, -, y7, -, -⟩, x7, x8⟩ := X
  have hz : vk_R (mm_on own) idx "akhnywctildm" (z.2 100) s := y7 (own, idx) hq
  intro hk ls st hs h bc bs hf
  refine (hk _ _ _ _ _ _ _ hf).go ?_
  intro H locs cells slots A w
  exact va_ldcS (tx := "akhnywctildm") (q := z.2 100) x1 x2 x4 hz hd w
theorem so_ldcwS (X : mm_Cx p s m args meth c cc nL own D cA B z) {QQ : State → Prop} {idx : Nat} (hq : (own, idx) ∈ mm_ss) (hd : decode cc pc = .ok (.ldc_w idx, 3)) : mm_Ok p l e R s m args below meth c D cA B nL QQ C k Q pc (mm_push (vR (some (z.2 100))) 3) := by
  obtain ⟨x1, x2, x3, x4, x5, ⟨-, -, -, -, -, -, y7, -, -⟩, x7, x8⟩ := X
  have hz : vk_R (mm_on own) idx "akhnywctildm" (z.2 100) s := y7 (own, idx) hq
  intro hk ls st hs h bc bs hf
  refine (hk _ _ _ _ _ _ _ hf).go ?_
  intro H locs cells slots A w T hT XX
  obtain ⟨t, a1, b1⟩ := w T hT XX
  refine ⟨t, ?_, b1⟩
  obtain ⟨k1, cf, i, a', hk1, hcf, hcp, -, hr, hev⟩ := Cond.stringRef_spec x4 hz.1
  cases hz.2.symm.trans hev
  obtain ⟨k2, hk2, he⟩ := XX.warmed.alike.2.2 _ _ hk1
  have hr2 : k2.resolved[idx]? = some (some (.string (z.2 100))) := by
    rcases XX.warmed.entry hk1 hk2 idx with g | ⟨g, -⟩
    · rw [g]; exact hr
    · rw [hr] at g; cases g
  have hd2 : decode c.code pc = .ok (.ldc_w idx, 3) := by rw [x2]; exact hd
  jvm_step XX.here [XX.here.top, x1, hd2, ldc_w.wp_string (e := e) (s := T) (f := F0 m pc A (st.map mm_v)) XX.here.top hk2 (by rw [he]; exact hcf) hcp hr2]
  exact a1
theorem mm_step {QQ : State → Prop} (X : mm_Cx p s m args meth c cc nL own D cA B z) {ini : Bool} {ret : Option FieldType} (hini : ini = true → meth.name = "<init>") {d : Nat} (hC : mm_CS l D cA B z d C) (hd3 : 3 ≤ d) (hR : d + 2 ≤ R.frames ∧ 60 * d + 100 ≤ R.locals)
    (hI : ∀ y, ((y = 0 ∧ ret = some .int) ∨ (y = 1 ∧ ret = some .boolean) ∨ (y = 2 ∧ ret = some .byte)) → decode cc pc = .ok (.ireturn, 1) → mm_Ok p l e R s m args below meth c D cA B nL QQ C k Q pc (mm_iret y))
    (hJ : ret = some .long → decode cc pc = .ok (.lreturn, 1) → mm_Ok p l e R s m args below meth c D cA B nL QQ C k Q pc mm_lret)
    (hA : ∀ t, ret = some t → mm_isR t = true → decode cc pc = .ok (.areturn, 1) → mm_Ok p l e R s m args below meth c D cA B nL QQ C k Q pc mm_aret)
    (hV : ret = none → decode cc pc = .ok (.return_, 1) → mm_Ok p l e R s m args below meth c D cA B nL QQ C k Q pc mm_vret)
    {q : En} (h : mm_ok own ini cc ret pc q = true) :
    mm_Ok p l e R s m args below meth c D cA B nL QQ C k Q pc (mm_sem z q) := by
  obtain ⟨ins, len, x, y, v⟩ := q
  have hR1 : 1 ≤ R.frames ∧ 40 ≤ R.locals := ⟨by omega, by omega⟩
  have hR2 := hR
  unfold mm_ok at h
  simp only [Bool.and_eq_true, decide_eq_true_eq] at h
  obtain ⟨hd, h⟩ := h
  cases ins with
  | aload_n n => have hl := of_decide_eq_true h; subst hl; exact so_aload_n X hd
  | iload_n n => have hl := of_decide_eq_true h; subst hl; exact so_iload_n X hd
  | lload_n n => have hl := of_decide_eq_true h; subst hl; exact so_lload_n X hd
  | aload n => have hl := of_decide_eq_true h; subst hl; exact so_aload X hd
  | iload n => have hl := of_decide_eq_true h; subst hl; exact so_iload X hd
  | lload n => have hl := of_decide_eq_true h; subst hl; exact so_lload X hd
  | astore_n n => have hl := of_decide_eq_true h; subst hl; exact so_astore_n X hd
  | istore_n n => have hl := of_decide_eq_true h; subst hl; exact so_istore_n X hd
  | lstore_n n => have hl := of_decide_eq_true h; subst hl; exact so_lstore_n X hd
  | astore n => have hl := of_decide_eq_true h; subst hl; exact so_astore X hd
  | istore n => have hl := of_decide_eq_true h; subst hl; exact so_istore X hd
  | lstore n => have hl := of_decide_eq_true h; subst hl; exact so_lstore X hd
  | iinc i n => have hl := of_decide_eq_true h; subst hl; exact so_iinc X hd
  | iconst n => have hl := of_decide_eq_true h; subst hl; exact so_iconst X hd
  | bipush n => have hl := of_decide_eq_true h; subst hl; exact so_bipush X hd
  | sipush n => have hl := of_decide_eq_true h; subst hl; exact so_sipush X hd
  | lconst n => have hl := of_decide_eq_true h; subst hl; exact so_lconst X hd
  | aconst_null => have hl := of_decide_eq_true h; subst hl; exact so_null X hd
  | ldc i =>
    obtain ⟨hl, h'⟩ := (Bool.and_eq_true _ _).mp h
    have hl := of_decide_eq_true hl
    subst hl
    show mm_Ok p l e R s m args below meth c D cA B nL _ C k Q pc (if x = 1 then mm_push (vR (some (z.2 100))) 2 else mm_push (vI (Int32.ofInt v)) 2)
    by_cases hx : x = 1
    · subst hx
      exact so_ldcS X (mm_hss_s h') hd
    · rw [if_neg hx]
      have hb : Nat.beq x 1 = false := by
        cases hb : Nat.beq x 1
        · rfl
        · exact absurd (mm_beq hb) hx
      rw [hb] at h'
      obtain ⟨j, hj⟩ := mm_hck_s h'
      exact so_ldc X hj hd
  | ldc_w i =>
    obtain ⟨hl, h'⟩ := (Bool.and_eq_true _ _).mp h
    have hl := of_decide_eq_true hl
    subst hl
    show mm_Ok p l e R s m args below meth c D cA B nL _ C k Q pc (if x = 1 then mm_push (vR (some (z.2 100))) 3 else mm_push (vI (Int32.ofInt v)) 3)
    by_cases hx : x = 1
    · subst hx
      exact so_ldcwS X (mm_hss_s h') hd
    · rw [if_neg hx]
      have hb : Nat.beq x 1 = false := by
        cases hb : Nat.beq x 1
        · rfl
        · exact absurd (mm_beq hb) hx
      rw [hb] at h'
      obtain ⟨j, hj⟩ := mm_hck_s h'
      exact so_ldcw X hj hd
  | ldc2_w i =>
    obtain ⟨hl, h⟩ := (Bool.and_eq_true _ _).mp h
    have hl := of_decide_eq_true hl
    subst hl
    obtain ⟨j, hj⟩ := mm_hcj_s h
    exact so_ldc2 X hj hd
  | iadd => have hl := of_decide_eq_true h; subst hl; exact so_ii X fun H locs cells slots A x y r w => lv_iadd X.1 X.2.1 hd w
  | isub => have hl := of_decide_eq_true h; subst hl; exact so_ii X fun H locs cells slots A x y r w => lv_isub X.1 X.2.1 hd w
  | imul => have hl := of_decide_eq_true h; subst hl; exact so_ii X fun H locs cells slots A x y r w => lv_imul X.1 X.2.1 hd w
  | iand => have hl := of_decide_eq_true h; subst hl; exact so_ii X fun H locs cells slots A x y r w => lv_iand X.1 X.2.1 hd w
  | ior => have hl := of_decide_eq_true h; subst hl; exact so_ii X fun H locs cells slots A x y r w => lv_ior X.1 X.2.1 hd w
  | ixor => have hl := of_decide_eq_true h; subst hl; exact so_ii X fun H locs cells slots A x y r w => lv_ixor X.1 X.2.1 hd w
  | ishl => have hl := of_decide_eq_true h; subst hl; exact so_ii X fun H locs cells slots A x y r w => lv_ishl X.1 X.2.1 hd w
  | ishr => have hl := of_decide_eq_true h; subst hl; exact so_ii X fun H locs cells slots A x y r w => lv_ishr X.1 X.2.1 hd w
  | iushr => have hl := of_decide_eq_true h; subst hl; exact so_ii X fun H locs cells slots A x y r w => lv_iushr X.1 X.2.1 hd rfl w
  | idiv => have hl := of_decide_eq_true h; subst hl; exact so_idiv X fun H locs cells slots A x y r hy w => lv_idiv X.1 X.2.1 hd hy w
  | irem => have hl := of_decide_eq_true h; subst hl; exact so_idiv X fun H locs cells slots A x y r hy w => lv_irem X.1 X.2.1 hd hy w
  | ladd => have hl := of_decide_eq_true h; subst hl; exact so_jj X fun H locs cells slots A x y r w => lv_ladd X.1 X.2.1 hd w
  | lsub => have hl := of_decide_eq_true h; subst hl; exact so_jj X fun H locs cells slots A x y r w => lv_lsub X.1 X.2.1 hd w
  | lmul => have hl := of_decide_eq_true h; subst hl; exact so_jj X fun H locs cells slots A x y r w => lv_lmul X.1 X.2.1 hd w
  | land => have hl := of_decide_eq_true h; subst hl; exact so_jj X fun H locs cells slots A x y r w => lv_land X.1 X.2.1 hd w
  | lor => have hl := of_decide_eq_true h; subst hl; exact so_jj X fun H locs cells slots A x y r w => lv_lor X.1 X.2.1 hd w
  | ldiv => have hl := of_decide_eq_true h; subst hl; exact so_jdiv X fun H locs cells slots A x y r hy w => lv_ldiv X.1 X.2.1 hd hy w
  | lrem => have hl := of_decide_eq_true h; subst hl; exact so_jdiv X fun H locs cells slots A x y r hy w => lv_lrem X.1 X.2.1 hd hy w
  | lshl => have hl := of_decide_eq_true h; subst hl; exact so_lshl X hd
  | lcmp => have hl := of_decide_eq_true h; subst hl; exact so_lcmp X hd
  | ineg => have hl := of_decide_eq_true h; subst hl; exact so_i1 X fun H locs cells slots A x r w => lv_ineg X.1 X.2.1 hd w
  | i2b => have hl := of_decide_eq_true h; subst hl; exact so_i1 X fun H locs cells slots A x r w => lv_i2b X.1 X.2.1 hd rfl w
  | i2s => have hl := of_decide_eq_true h; subst hl; exact so_i1 X fun H locs cells slots A x r w => lv_i2s X.1 X.2.1 hd rfl w
  | i2c => have hl := of_decide_eq_true h; subst hl; exact so_i1 X fun H locs cells slots A x r w => lv_i2c X.1 X.2.1 hd rfl w
  | i2l => have hl := of_decide_eq_true h; subst hl; exact so_i2l X hd
  | l2i => have hl := of_decide_eq_true h; subst hl; exact so_l2i X hd
  | pop => have hl := of_decide_eq_true h; subst hl; exact so_pop X hd
  | dup => have hl := of_decide_eq_true h; subst hl; exact so_dup X hd
  | dup2 => have hl := of_decide_eq_true h; subst hl; exact so_dup2 X hd
  | if_icmp cd t => obtain ⟨hl, ht⟩ := of_decide_eq_true h; subst hl; exact so_icmp X hd ht
  | ifCond cd t => obtain ⟨hl, ht⟩ := of_decide_eq_true h; subst hl; exact so_if X hd ht
  | if_acmp cd t => obtain ⟨hl, ht⟩ := of_decide_eq_true h; subst hl; exact so_acmp X hd ht
  | ifnull t => obtain ⟨hl, ht⟩ := of_decide_eq_true h; subst hl; exact so_ifnull X hd ht
  | ifnonnull t => obtain ⟨hl, ht⟩ := of_decide_eq_true h; subst hl; exact so_ifnonnull X hd ht
  | goto t => obtain ⟨hl, ht⟩ := of_decide_eq_true h; subst hl; exact so_goto X hd ht
  | tableswitch dd lo hi os =>
    obtain ⟨h1, h2⟩ := (Bool.and_eq_true _ _).mp h
    obtain ⟨h1, h3⟩ := of_decide_eq_true h1
    exact so_tsw X hd h1 (fun o ho => of_decide_eq_true (List.all_eq_true.mp h2 o ho)) h3
  | lookupswitch dd os =>
    obtain ⟨h1, h2⟩ := (Bool.and_eq_true _ _).mp h
    obtain ⟨h2, h3⟩ := (Bool.and_eq_true _ _).mp h2
    exact so_lsw X hd h3 (of_decide_eq_true h1) (fun o ho => of_decide_eq_true (List.all_eq_true.mp h2 o ho))
  | getfield i =>
    have hb : ∀ n, ¬ x = n → Nat.beq x n = false := fun n hx => by
      cases hb : Nat.beq x n
      · rfl
      · exact absurd (mm_beq hb) hx
    have h' : (bif Nat.beq x 9100 then mm_hfs own i 9100 && decide (len = 3) else bif Nat.beq x 9101 then mm_hfs own i 9101 && decide (len = 3) else mm_hfl own i x && decide (len = 3 ∧ x / 100 < 14 ∧ x % 100 < mm_fN (x / 100) ∧ ((y = 0 ∧ mm_isR (mm_fty x) = false) ∨ (y = 2 ∧ mm_isR (mm_fty x) = true)))) = true := h
    show mm_Ok p l e R s m args below meth c D cA B nL _ C k Q pc (if x = 9100 then mm_gsv z else if x = 9101 then mm_gsc z else mm_getf x y)
    by_cases hx : x = 9100
    · subst hx
      obtain ⟨h1, h2⟩ := (Bool.and_eq_true _ _).mp h'
      obtain ⟨j, hj⟩ := mm_hfs_s h1
      have hl := of_decide_eq_true h2
      subst hl
      exact so_gsv X hj hd
    · rw [if_neg hx]
      rw [hb _ hx] at h'
      by_cases hx2 : x = 9101
      · subst hx2
        obtain ⟨h1, h2⟩ := (Bool.and_eq_true _ _).mp h'
        obtain ⟨j, hj⟩ := mm_hfs_s h1
        have hl := of_decide_eq_true h2
        subst hl
        exact so_gsc X hj hd
      · rw [if_neg hx2]
        rw [hb _ hx2] at h'
        obtain ⟨h1, h2⟩ := (Bool.and_eq_true _ _).mp h'
        obtain ⟨j, hj⟩ := mm_hfl_s h1
        obtain ⟨hl, h3, h4, h5⟩ := of_decide_eq_true h2
        subst hl
        exact so_getf X hj h3 h4 h5 hd
  | putfield i =>
    obtain ⟨h1, h2⟩ := (Bool.and_eq_true _ _).mp h
    obtain ⟨j, hj⟩ := mm_hfl_s h1
    obtain ⟨hl, h3, h4, h5, h6⟩ := of_decide_eq_true h2
    subst hl
    refine so_putf X hj h3 h4 ?_ h6 hd
    rcases h5 with g | g
    · exact Or.inl g
    · exact Or.inr ⟨hini g.1, g.2⟩
  | iaload => have hl := of_decide_eq_true h; subst hl; exact so_iald X hd
  | baload => have hl := of_decide_eq_true h; subst hl; exact so_bald X hd
  | laload => have hl := of_decide_eq_true h; subst hl; exact so_lald X hd
  | aaload => have hl := of_decide_eq_true h; subst hl; exact so_aald X hd
  | iastore => have hl := of_decide_eq_true h; subst hl; exact so_iast X hd
  | bastore => have hl := of_decide_eq_true h; subst hl; exact so_bast X hd
  | lastore => have hl := of_decide_eq_true h; subst hl; exact so_last X hd
  | aastore => have hl := of_decide_eq_true h; subst hl; exact so_aast X hd
  | arraylength => have hl := of_decide_eq_true h; subst hl; exact so_alen X hd
  | new i =>
    obtain ⟨h1, h2⟩ := (Bool.and_eq_true _ _).mp h
    obtain ⟨j1, j2, j3, hj⟩ := mm_hcl_s h1
    obtain ⟨hl, h3, h4⟩ := of_decide_eq_true h2
    subst hl
    subst h4
    exact so_new X hj h3 hd
  | newarray t =>
    obtain ⟨h1, h2⟩ := (Bool.and_eq_true _ _).mp h
    obtain ⟨j, hj⟩ := mm_hal_s h1
    obtain ⟨hl, h3, h4, h5⟩ := of_decide_eq_true h2
    subst hl
    exact so_newa X hj h3 h4 h5 hd
  | anewarray i =>
    obtain ⟨h1, h2⟩ := (Bool.and_eq_true _ _).mp h
    obtain ⟨j, hj⟩ := mm_hol_s h1
    have hl := of_decide_eq_true h2
    subst hl
    exact so_newq X hj hd
  | getstatic i =>
    have h' : (bif Nat.beq x 9100 then mm_hs2 own i && decide (len = 3) else mm_hsl own i x && decide (len = 3 ∧ x < 5)) = true := h
    show mm_Ok p l e R s m args below meth c D cA B nL _ C k Q pc (if x = 9100 then mm_push (vI 1) 3 else mm_push (vR (some (z.2 x))) 3)
    by_cases hx : x = 9100
    · subst hx
      obtain ⟨h1, h2⟩ := (Bool.and_eq_true _ _).mp h'
      obtain ⟨j, hj⟩ := mm_hs2_s h1
      have hl := of_decide_eq_true h2
      subst hl
      exact so_gets2 X hj hd
    · rw [if_neg hx]
      have hb : Nat.beq x 9100 = false := by
        cases hb : Nat.beq x 9100
        · rfl
        · exact absurd (mm_beq hb) hx
      rw [hb] at h'
      obtain ⟨h1, h2⟩ := (Bool.and_eq_true _ _).mp h'
      obtain ⟨hl, h3⟩ := of_decide_eq_true h2
      subst hl
      exact so_gets X (mm_hsl_s h1) h3 hd
  | invokespecial i =>
    obtain ⟨hl, h'⟩ := (Bool.and_eq_true _ _).mp h
    have hl := of_decide_eq_true hl
    subst hl
    show mm_Ok p l e R s m args below meth c D cA B nL _ C k Q pc (if x = 9999 then mm_objI else mm_callV x y v)
    by_cases hx : x = 9999
    · subst hx
      obtain ⟨j, hj⟩ := mm_hoi_s h'
      exact so_objI X hR1 hj hd
    · rw [if_neg hx]
      have hb : Nat.beq x 9999 = false := by
        cases hb : Nat.beq x 9999
        · rfl
        · exact absurd (mm_beq hb) hx
      rw [hb] at h'
      obtain ⟨h1, h2⟩ := (Bool.and_eq_true _ _).mp h'
      obtain ⟨kd, j1, j2, j3, j4, hj, hkd⟩ := mm_hml_s h1
      obtain ⟨g1, g2, g3, g4, g5, g6⟩ := of_decide_eq_true h2
      subst g1
      exact so_callV X hC hR2 hj g2 g3 (Or.inr ⟨hkd, g4, g5, hd⟩) g6
  | invokestatic i =>
    obtain ⟨hl, h'⟩ := (Bool.and_eq_true _ _).mp h
    have hl := of_decide_eq_true hl
    subst hl
    show mm_Ok p l e R s m args below meth c D cA B nL _ C k Q pc (if x = 9001 then mm_ext2 (fun x y => if x < y then y else x) else if x = 9002 then mm_ext2 (fun x y => if y < x then y else x) else if x = 9003 then mm_copy else mm_call x y)
    have hb : ∀ n, ¬ x = n → Nat.beq x n = false := fun n hx => by
      cases hb : Nat.beq x n
      · rfl
      · exact absurd (mm_beq hb) hx
    by_cases hx : x = 9001
    · subst hx
      obtain ⟨j, hj⟩ := mm_hex_s h'
      exact so_max X hR1 hj hd
    · rw [if_neg hx]
      rw [hb _ hx] at h'
      by_cases hx2 : x = 9002
      · subst hx2
        obtain ⟨j, hj⟩ := mm_hex_s h'
        exact so_min X hR1 hj hd
      · rw [if_neg hx2]
        rw [hb _ hx2] at h'
        by_cases hx3 : x = 9003
        · subst hx3
          obtain ⟨j, hj⟩ := mm_hex_s h'
          exact so_copy X hR1 hj hd
        · rw [if_neg hx3]
          rw [hb _ hx3] at h'
          obtain ⟨h1, h2⟩ := (Bool.and_eq_true _ _).mp h'
          obtain ⟨kd, j1, j2, j3, j4, hj, hkd⟩ := mm_hml_s h1
          obtain ⟨g1, g2⟩ := of_decide_eq_true h2
          subst g1
          exact so_callS X hC hR2 hj hkd g2 hd
  | invokevirtual i =>
    obtain ⟨hl, h'⟩ := (Bool.and_eq_true _ _).mp h
    have hl := of_decide_eq_true hl
    subst hl
    show mm_Ok p l e R s m args below meth c D cA B nL _ C k Q pc (if v = 99 then mm_callT z x y else mm_callV x y v)
    obtain ⟨h1, h2⟩ := (Bool.and_eq_true _ _).mp h'
    obtain ⟨kd, j1, j2, j3, j4, hj, hkd⟩ := mm_hml_s h1
    obtain ⟨g1, g2, g3⟩ := of_decide_eq_true h2
    subst g1
    rcases g3 with ⟨g3, g4⟩ | ⟨g3, g4, g5⟩
    · rw [if_pos g3]
      exact so_callT X hC hR2 hj g4 hkd hd g2
    · rw [if_neg g3]
      exact so_callV X hC hR2 hj g4 g5 (Or.inl ⟨hkd, hd⟩) g2
  | ireturn => obtain ⟨hl, h1⟩ := of_decide_eq_true h; subst hl; exact hI _ h1 hd
  | lreturn => obtain ⟨hl, h1⟩ := of_decide_eq_true h; subst hl; exact hJ h1 hd
  | areturn =>
    obtain ⟨hl, h⟩ := (Bool.and_eq_true _ _).mp h
    have hl := of_decide_eq_true hl
    subst hl
    cases ret with
    | none => cases h
    | some t => exact hA t rfl h hd
  | return_ => obtain ⟨hl, h1⟩ := of_decide_eq_true h; subst hl; exact hV h1 hd
  | _ => exact so_no
theorem mm_run {QQ : State → Prop} (X : mm_Cx p s m args meth c cc nL own D cA B z) {ini : Bool} {ret : Option FieldType} (hini : ini = true → meth.name = "<init>") {d : Nat} (hC : mm_CS l D cA B z d C) (hd3 : 3 ≤ d) (hR : d + 2 ≤ R.frames ∧ 60 * d + 100 ≤ R.locals)
    (hI : ∀ pc k y, ((y = 0 ∧ ret = some .int) ∨ (y = 1 ∧ ret = some .boolean) ∨ (y = 2 ∧ ret = some .byte)) → decode cc pc = .ok (.ireturn, 1) → mm_Ok p l e R s m args below meth c D cA B nL QQ C k Q pc (mm_iret y))
    (hJ : ∀ pc k, ret = some .long → decode cc pc = .ok (.lreturn, 1) → mm_Ok p l e R s m args below meth c D cA B nL QQ C k Q pc mm_lret)
    (hA : ∀ pc k t, ret = some t → mm_isR t = true → decode cc pc = .ok (.areturn, 1) → mm_Ok p l e R s m args below meth c D cA B nL QQ C k Q pc mm_aret)
    (hV : ∀ pc k, ret = none → decode cc pc = .ok (.return_, 1) → mm_Ok p l e R s m args below meth c D cA B nL QQ C k Q pc mm_vret)
    {T : Nat → Option En} (hT : ∀ pc q, T pc = some q → mm_ok own ini cc ret pc q = true) :
    ∀ (pc : Nat) (ls : List (Option MV)) (st : List MV) (hs : Nat) (h : Hp) (bc bs : Nat), mm_X z C T Q pc ls st hs h bc bs → mm_G p l e R s m args below meth c D cA B nL QQ pc ls st hs h bc bs := by
  intro pc ls st hs h bc bs hf
  refine hf (mm_G p l e R s m args below meth c D cA B nL QQ) ?_
  intro pc ls st hs h bc bs hf
  cases hq : T pc with
  | none =>
    rw [hq] at hf
    exact hf.elim
  | some q =>
    rw [hq] at hf
    exact mm_step X hini hC hd3 hR (hI pc _) (hJ pc _) (hA pc _) (hV pc _) (hT pc q hq) (fun _ _ _ _ _ _ _ g => g) ls st hs h bc bs hf
end MMD
def mm_PT (P : Nat → Option (Nat → Option En)) : Prop := ∀ x T, P x = some T → x < 284 ∧ ¬ x = 273 ∧ ∀ pc q, T pc = some q → mm_ok (mm_mcl x) (mm_ini x) (mm_mc x) (mm_mR x) pc q = true
theorem mm_CS_all {l : Launch} {D : va_G} {cA : Nat → ClassId} {B : Nat} {z : Rm} {P : Nat → Option (Nat → Option En)} (hP : mm_PT P) : ∀ d, mm_CS l D cA B z (d + 3) (mm_C z mm_mL P d) := by
  intro d
  induction d with
  | zero => intro x as hs h bc bs Q hf; exact hf.elim
  | succ d ih =>
    intro x as hs h bc bs Q hf
    cases hT : P x with
    | none =>
      have hf : (match P x with
        | none => False
        | some T => (mm_args as).length ≤ mm_mL x ∧ mm_X z (mm_C z mm_mL P d) T Q 0 (mm_loc as (mm_mL x)) [] hs h bc bs) := hf
      rw [hT] at hf
      exact hf.elim
    | some T =>
      have hf : (match P x with
        | none => False
        | some T => (mm_args as).length ≤ mm_mL x ∧ mm_X z (mm_C z mm_mL P d) T Q 0 (mm_loc as (mm_mL x)) [] hs h bc bs) := hf
      rw [hT] at hf
      obtain ⟨hlen, hf⟩ := hf
      obtain ⟨hx, hx2, hok⟩ := hP x T hT
      obtain ⟨-, p2, p3, p4, p5⟩ := mm_np_ok x hx
      refine ⟨hx, hx2, ?_⟩
      refine Met.ofW (cc := mm_mc x) (maxL := mm_mL x) (ret := mm_mR x) p3 rfl ?_
      intro p e s m args below meth c s₁ Bd hml hv
      obtain ⟨rfl, hsz, hW, hK, hBs⟩ := hv
      have hts := atoms_spec (ws := mm_ws x) Bd.pre
      have hown : s.vm.findClass (mm_mn x).cls = some m.cls := findClass_of_methodNamed Bd.named
      have hin : mm_ini x = true → meth.name = "<init>" := fun g => (name_of_methodNamed Bd.named Bd.method).1.trans (p5 g)
      rw [p2] at hown
      have X : mm_Cx p s m (as.map mm_v).toArray meth c (mm_mc x) (mm_mL x) (mm_mcl x) D cA B z := ⟨Bd.exec, Bd.bytes, hml, hown, fun w hw => hts w (List.mem_cons_of_mem _ hw), hK, by rw [hsz]; exact hBs, Bd.notSynchronized⟩
      obtain ⟨hloc, hll⟩ := mm_loc_ok hlen
      rw [lg_entry_eq]
      exact mm_run (R := (headSpec (mm_ws x) (mm_rm (d + 1 + 3) bc bs)).room) X hin ih (by omega) ⟨by show d + 3 + 2 ≤ d + 1 + 3 + 1; omega, by show 60 * (d + 3) + 100 ≤ 60 * (d + 1 + 3) + 40; omega⟩
        (fun pc k y g hd => so_iret X (by rw [Bd.returns]; exact g) hd) (fun pc k g hd => so_lret X (Bd.returns.trans g) hd) (fun pc k t g g2 hd => so_aret X (Bd.returns.trans g) g2 hd) (fun pc k g hd => so_vret X (Bd.returns.trans g) hd) hok 0 _ [] hs h bc bs hf s.heap [] 0 0 _ hsz hW va_S.rf hloc hll (by show 0 + bc ≤ bc; omega) (by show 0 + bs ≤ bs; omega)
