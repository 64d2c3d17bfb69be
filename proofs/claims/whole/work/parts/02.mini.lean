/-! PART 02: a small machine over a heap of components. A method's body is run in it by steps; 'mm_X' says what must hold for the run to end and its end to be as wanted. Part 03 shows that the Java machine does the same. -/
abbrev MV : Type := Int32 ⊕ (Int64 ⊕ Option Nat)
abbrev vI (x : Int32) : MV := Sum.inl x
abbrev vJ (x : Int64) : MV := Sum.inr (Sum.inl x)
abbrev vR (o : Option Nat) : MV := Sum.inr (Sum.inr o)
def mm_v (v : MV) : Value := match v with
  | .inl x => .int x
  | .inr (.inl x) => .long x
  | .inr (.inr o) => va_rf o
def mm_k (v : MV) : Nat := match v with
  | .inl _ => 0
  | .inr (.inl _) => 1
  | .inr (.inr _) => 2
/-- the heap: kind of a cell (0 none, class number and 1, 20 on: arrays), int fields and reference fields by number and cell, lengths, contents of int, long and reference arrays by cell and place -/
abbrev Hp : Type := (Nat → Nat) × (Nat → Nat → Int32) × (Nat → Nat → Option Nat) × (Nat → Nat) × (Nat → Nat → Int32) × (Nat → Nat → Int64) × (Nat → Nat → Option Nat)
abbrev hp_K (h : Hp) : Nat → Nat := h.1
abbrev hp_I (h : Hp) : Nat → Nat → Int32 := h.2.1
abbrev hp_R (h : Hp) : Nat → Nat → Option Nat := h.2.2.1
abbrev hp_L (h : Hp) : Nat → Nat := h.2.2.2.1
abbrev hp_A (h : Hp) : Nat → Nat → Int32 := h.2.2.2.2.1
abbrev hp_J (h : Hp) : Nat → Nat → Int64 := h.2.2.2.2.2.1
abbrev hp_Q (h : Hp) : Nat → Nat → Option Nat := h.2.2.2.2.2.2
def mm_u1 {α : Type} (f : Nat → α) (a : Nat) (v : α) : Nat → α := fun b => if b = a then v else f b
def mm_u2 {α : Type} (f : Nat → Nat → α) (a b : Nat) (v : α) : Nat → Nat → α := fun x y => if x = a then (if y = b then v else f x y) else f x y
def hp_setI (h : Hp) (k a : Nat) (v : Int32) : Hp := (hp_K h, mm_u2 (hp_I h) k a v, hp_R h, hp_L h, hp_A h, hp_J h, hp_Q h)
def hp_setR (h : Hp) (k a : Nat) (v : Option Nat) : Hp := (hp_K h, hp_I h, mm_u2 (hp_R h) k a v, hp_L h, hp_A h, hp_J h, hp_Q h)
def hp_setA (h : Hp) (a j : Nat) (v : Int32) : Hp := (hp_K h, hp_I h, hp_R h, hp_L h, mm_u2 (hp_A h) a j v, hp_J h, hp_Q h)
def hp_setJ (h : Hp) (a j : Nat) (v : Int64) : Hp := (hp_K h, hp_I h, hp_R h, hp_L h, hp_A h, mm_u2 (hp_J h) a j v, hp_Q h)
def hp_setQ (h : Hp) (a j : Nat) (v : Option Nat) : Hp := (hp_K h, hp_I h, hp_R h, hp_L h, hp_A h, hp_J h, mm_u2 (hp_Q h) a j v)
def hp_newO (h : Hp) (ci a : Nat) : Hp := (mm_u1 (hp_K h) a (ci + 1), (fun k b => if b = a then 0 else hp_I h k b), (fun k b => if b = a then none else hp_R h k b), hp_L h, hp_A h, hp_J h, hp_Q h)
def hp_newA (h : Hp) (kd n a : Nat) : Hp := (mm_u1 (hp_K h) a kd, hp_I h, hp_R h, mm_u1 (hp_L h) a n, (fun b j => if b = a then 0 else hp_A h b j), (fun b j => if b = a then 0 else hp_J h b j), (fun b j => if b = a then none else hp_Q h b j))
def hp_copA (h : Hp) (a i b j n : Nat) : Hp := (hp_K h, hp_I h, hp_R h, hp_L h, (fun x => if x = b then va_cpy (hp_A h a) (hp_A h b) i j n else hp_A h x), hp_J h, hp_Q h)
def hp_copJ (h : Hp) (a i b j n : Nat) : Hp := (hp_K h, hp_I h, hp_R h, hp_L h, hp_A h, (fun x => if x = b then va_cpy (hp_J h a) (hp_J h b) i j n else hp_J h x), hp_Q h)
/-- int arrays that nobody writes (statics, the script), by address; and the addresses of statics -/
abbrev Rm : Type := (Nat → Option (Nat × (Nat → Int32))) × (Nat → Nat)
/-- a state to go on with: place, locals, stack, the heap's size, the heap, room left (cells, slots) -/
abbrev Kt : Type := Nat → List (Option MV) → List MV → Nat → Hp → Nat → Nat → Prop
abbrev Qt : Type := Option MV → Nat → Hp → Prop
/-- a call: number, arguments, the heap's size, the heap, its room, what must hold behind it -/
abbrev Ct : Type := Nat → List MV → Nat → Hp → Nat → Nat → Qt → Prop
abbrev MStep : Type := Ct → Kt → Qt → Nat → List (Option MV) → List MV → Nat → Hp → Nat → Nat → Prop
/-- an instruction, its length, and three numbers that say what it links to -/
abbrev En : Type := Instr × Nat × Nat × Nat × Int
def mm_no : MStep := fun _ _ _ _ _ _ _ _ _ _ => False
def mm_push (v : MV) (n : Nat) : MStep := fun _ k _ pc ls st hs h bc bs => k (pc + n) ls (v :: st) hs h bc bs
def mm_ld (i kd n : Nat) : MStep := fun _ k _ pc ls st hs h bc bs => match ls[i]? with
  | some (some v) => mm_k v = kd ∧ k (pc + n) ls (v :: st) hs h bc bs
  | _ => False
/-- one slot: what lay there goes; a long that lay just ahead goes, too -/
def mm_set1 (ls : List (Option MV)) (i : Nat) (v : MV) : List (Option MV) := match i with
  | 0 => ls.set 0 (some v)
  | i + 1 => match ls[i]? with
    | some (some (.inr (.inl _))) => (ls.set i none).set (i + 1) (some v)
    | _ => ls.set (i + 1) (some v)
def mm_set2 (ls : List (Option MV)) (i : Nat) (v : MV) : List (Option MV) := (mm_set1 ls i v).set (i + 1) none
def mm_st (i kd n : Nat) : MStep := fun _ k _ pc ls st hs h bc bs => match st with
  | v :: st' => mm_k v = kd ∧ i < ls.length ∧ k (pc + n) (mm_set1 ls i v) st' hs h bc bs
  | _ => False
def mm_st2 (i n : Nat) : MStep := fun _ k _ pc ls st hs h bc bs => match st with
  | .inr (.inl v) :: st' => i + 1 < ls.length ∧ k (pc + n) (mm_set2 ls i (vJ v)) st' hs h bc bs
  | _ => False
def mm_iinc (i : Nat) (n : Int) : MStep := fun _ k _ pc ls st hs h bc bs => match ls[i]? with
  | some (some (.inl x)) => k (pc + 3) (mm_set1 ls i (vI (x + Int32.ofInt n))) st hs h bc bs
  | _ => False
def mm_ii (f : Int32 → Int32 → Int32) : MStep := fun _ k _ pc ls st hs h bc bs => match st with
  | .inl y :: .inl x :: st' => k (pc + 1) ls (vI (f x y) :: st') hs h bc bs
  | _ => False
def mm_idiv (f : Int32 → Int32 → Int32) : MStep := fun _ k _ pc ls st hs h bc bs => match st with
  | .inl y :: .inl x :: st' => ¬ y = 0 ∧ k (pc + 1) ls (vI (f x y) :: st') hs h bc bs
  | _ => False
def mm_jj (f : Int64 → Int64 → Int64) : MStep := fun _ k _ pc ls st hs h bc bs => match st with
  | .inr (.inl y) :: .inr (.inl x) :: st' => k (pc + 1) ls (vJ (f x y) :: st') hs h bc bs
  | _ => False
def mm_jdiv (f : Int64 → Int64 → Int64) : MStep := fun _ k _ pc ls st hs h bc bs => match st with
  | .inr (.inl y) :: .inr (.inl x) :: st' => ¬ y = 0 ∧ k (pc + 1) ls (vJ (f x y) :: st') hs h bc bs
  | _ => False
def mm_lshl : MStep := fun _ k _ pc ls st hs h bc bs => match st with
  | .inl y :: .inr (.inl x) :: st' => k (pc + 1) ls (vJ (x <<< (y.toInt64 &&& 63)) :: st') hs h bc bs
  | _ => False
def mm_lcmp : MStep := fun _ k _ pc ls st hs h bc bs => match st with
  | .inr (.inl y) :: .inr (.inl x) :: st' => k (pc + 1) ls (vI (lg_cmp x y) :: st') hs h bc bs
  | _ => False
def mm_i1 (f : Int32 → Int32) : MStep := fun _ k _ pc ls st hs h bc bs => match st with
  | .inl x :: st' => k (pc + 1) ls (vI (f x) :: st') hs h bc bs
  | _ => False
def mm_i2l : MStep := fun _ k _ pc ls st hs h bc bs => match st with
  | .inl x :: st' => k (pc + 1) ls (vJ x.toInt64 :: st') hs h bc bs
  | _ => False
def mm_l2i : MStep := fun _ k _ pc ls st hs h bc bs => match st with
  | .inr (.inl x) :: st' => k (pc + 1) ls (vI x.toInt32 :: st') hs h bc bs
  | _ => False
def mm_pop : MStep := fun _ k _ pc ls st hs h bc bs => match st with
  | v :: st' => ¬ mm_k v = 1 ∧ k (pc + 1) ls st' hs h bc bs
  | _ => False
def mm_dup : MStep := fun _ k _ pc ls st hs h bc bs => match st with
  | v :: st' => ¬ mm_k v = 1 ∧ k (pc + 1) ls (v :: v :: st') hs h bc bs
  | _ => False
def mm_dup2 : MStep := fun _ k _ pc ls st hs h bc bs => match st with
  | v :: w :: st' => ¬ mm_k v = 1 ∧ ¬ mm_k w = 1 ∧ k (pc + 1) ls (v :: w :: v :: w :: st') hs h bc bs
  | _ => False
def mm_ic (c : Jvm.ClassFile.Cond) (x y : Int32) : Prop := match c with
  | .eq => x = y
  | .ne => ¬ x = y
  | .lt => x < y
  | .ge => y ≤ x
  | .gt => y < x
  | .le => x ≤ y
def mm_icmp (c : Jvm.ClassFile.Cond) (t : Nat) : MStep := fun _ k _ pc ls st hs h bc bs => match st with
  | .inl y :: .inl x :: st' => (mm_ic c x y → k t ls st' hs h bc bs) ∧ (¬ mm_ic c x y → k (pc + 3) ls st' hs h bc bs)
  | _ => False
def mm_if (c : Jvm.ClassFile.Cond) (t : Nat) : MStep := fun _ k _ pc ls st hs h bc bs => match st with
  | .inl x :: st' => (mm_ic c x 0 → k t ls st' hs h bc bs) ∧ (¬ mm_ic c x 0 → k (pc + 3) ls st' hs h bc bs)
  | _ => False
def mm_acmp (c : Jvm.ClassFile.ACond) (t : Nat) : MStep := fun _ k _ pc ls st hs h bc bs => match st with
  | .inr (.inr y) :: .inr (.inr x) :: st' => match c with
    | .eq => (x = y → k t ls st' hs h bc bs) ∧ (¬ x = y → k (pc + 3) ls st' hs h bc bs)
    | .ne => (¬ x = y → k t ls st' hs h bc bs) ∧ (x = y → k (pc + 3) ls st' hs h bc bs)
  | _ => False
def mm_ifnull (t : Nat) : MStep := fun _ k _ pc ls st hs h bc bs => match st with
  | .inr (.inr x) :: st' => (x = none → k t ls st' hs h bc bs) ∧ (¬ x = none → k (pc + 3) ls st' hs h bc bs)
  | _ => False
def mm_ifnonnull (t : Nat) : MStep := fun _ k _ pc ls st hs h bc bs => match st with
  | .inr (.inr x) :: st' => (¬ x = none → k t ls st' hs h bc bs) ∧ (x = none → k (pc + 3) ls st' hs h bc bs)
  | _ => False
def mm_goto (t : Nat) : MStep := fun _ k _ _ ls st hs h bc bs => k t ls st hs h bc bs
def mm_tsw1 (K : Nat → Prop) (x : Int32) (pc : Nat) : Int → List Int → Prop
  | _, [] => True
  | lo, o :: os => (x.toInt = lo → K ((pc : Int) + o).toNat) ∧ mm_tsw1 K x pc (lo + 1) os
def mm_tsw (d lo hi : Int) (os : Array Int) : MStep := fun _ k _ pc ls st hs h bc bs => match st with
  | .inl x :: st' => ((x.toInt < lo ∨ hi < x.toInt) → k ((pc : Int) + d).toNat ls st' hs h bc bs) ∧ mm_tsw1 (fun t => k t ls st' hs h bc bs) x pc lo os.toList
  | _ => False
def mm_lsw1 (K : Nat → Prop) (x : Int32) (pc : Nat) (d : Int) : List (Int × Int) → Prop
  | [] => K ((pc : Int) + d).toNat
  | o :: os => (x.toInt = o.1 → K ((pc : Int) + o.2).toNat) ∧ (¬ x.toInt = o.1 → mm_lsw1 K x pc d os)
def mm_lsw (d : Int) (os : Array (Int × Int)) : MStep := fun _ k _ pc ls st hs h bc bs => match st with
  | .inl x :: st' => mm_lsw1 (fun t => k t ls st' hs h bc bs) x pc d os.toList
  | _ => False
def mm_getf (x y : Nat) : MStep := fun _ k _ pc ls st hs h bc bs => match st with
  | .inr (.inr (some a)) :: st' => hp_K h a = x / 100 + 1 ∧ match y with
    | 0 => k (pc + 3) ls (vI (hp_I h x a) :: st') hs h bc bs
    | _ => k (pc + 3) ls (vR (hp_R h x a) :: st') hs h bc bs
  | _ => False
def mm_putfR (x : Nat) : MStep := fun _ k _ pc ls st hs h bc bs => match st with
  | .inr (.inr v) :: .inr (.inr (some a)) :: st' => hp_K h a = x / 100 + 1 ∧ k (pc + 3) ls st' hs (hp_setR h x a v) bc bs
  | _ => False
def mm_putfZ (x : Nat) : MStep := fun _ k _ pc ls st hs h bc bs => match st with
  | .inl v :: .inr (.inr (some a)) :: st' => hp_K h a = x / 100 + 1 ∧ (v = 0 ∨ v = 1) ∧ k (pc + 3) ls st' hs (hp_setI h x a v) bc bs
  | _ => False
def mm_putfI (x : Nat) : MStep := fun _ k _ pc ls st hs h bc bs => match st with
  | .inl v :: .inr (.inr (some a)) :: st' => hp_K h a = x / 100 + 1 ∧ k (pc + 3) ls st' hs (hp_setI h x a v) bc bs
  | _ => False
def mm_putf (x y : Nat) : MStep := match y with
  | 2 => mm_putfR x
  | 1 => mm_putfZ x
  | _ => mm_putfI x
def mm_iald (z : Rm) : MStep := fun _ k _ pc ls st hs h bc bs => match st with
  | .inl i :: .inr (.inr (some a)) :: st' => (hp_K h a = 20 ∧ vp_in i (hp_L h a) ∧ k (pc + 1) ls (vI (hp_A h a i.toNatClampNeg) :: st') hs h bc bs) ∨ (∃ q, z.1 a = some q ∧ vp_in i q.1 ∧ k (pc + 1) ls (vI (q.2 i.toNatClampNeg) :: st') hs h bc bs)
  | _ => False
/-- the names' text: a constant of the class that nobody writes -/
def mm_nm : List Int32 := [97, 107, 104, 110, 121, 119, 99, 116, 105, 108, 100, 109]
def mm_bald (z : Rm) : MStep := fun _ k _ pc ls st hs h bc bs => match st with
  | .inl i :: .inr (.inr (some a)) :: st' => ((hp_K h a = 21 ∨ hp_K h a = 22) ∧ vp_in i (hp_L h a) ∧ k (pc + 1) ls (vI (hp_A h a i.toNatClampNeg) :: st') hs h bc bs) ∨ (a = z.2 101 ∧ vp_in i 12 ∧ k (pc + 1) ls (vI (mm_nm.getD i.toNatClampNeg 0) :: st') hs h bc bs)
  | _ => False
/-- the text's bytes, its coder -/
def mm_gsv (z : Rm) : MStep := fun _ k _ pc ls st hs h bc bs => match st with
  | .inr (.inr (some a)) :: st' => a = z.2 100 ∧ k (pc + 3) ls (vR (some (z.2 101)) :: st') hs h bc bs
  | _ => False
def mm_gsc (z : Rm) : MStep := fun _ k _ pc ls st hs h bc bs => match st with
  | .inr (.inr (some a)) :: st' => a = z.2 100 ∧ k (pc + 3) ls (vI 0 :: st') hs h bc bs
  | _ => False
def mm_lald : MStep := fun _ k _ pc ls st hs h bc bs => match st with
  | .inl i :: .inr (.inr (some a)) :: st' => hp_K h a = 23 ∧ vp_in i (hp_L h a) ∧ k (pc + 1) ls (vJ (hp_J h a i.toNatClampNeg) :: st') hs h bc bs
  | _ => False
def mm_aald : MStep := fun _ k _ pc ls st hs h bc bs => match st with
  | .inl i :: .inr (.inr (some a)) :: st' => 23 < hp_K h a ∧ vp_in i (hp_L h a) ∧ k (pc + 1) ls (vR (hp_Q h a i.toNatClampNeg) :: st') hs h bc bs
  | _ => False
def mm_iast : MStep := fun _ k _ pc ls st hs h bc bs => match st with
  | .inl v :: .inl i :: .inr (.inr (some a)) :: st' => hp_K h a = 20 ∧ vp_in i (hp_L h a) ∧ k (pc + 1) ls st' hs (hp_setA h a i.toNatClampNeg v) bc bs
  | _ => False
def mm_bast : MStep := fun _ k _ pc ls st hs h bc bs => match st with
  | .inl v :: .inl i :: .inr (.inr (some a)) :: st' => vp_in i (hp_L h a) ∧ ((hp_K h a = 21 ∧ k (pc + 1) ls st' hs (hp_setA h a i.toNatClampNeg (vp_nar .byte v)) bc bs) ∨ (hp_K h a = 22 ∧ k (pc + 1) ls st' hs (hp_setA h a i.toNatClampNeg (vp_nar .boolean v)) bc bs))
  | _ => False
def mm_last : MStep := fun _ k _ pc ls st hs h bc bs => match st with
  | .inr (.inl v) :: .inl i :: .inr (.inr (some a)) :: st' => hp_K h a = 23 ∧ vp_in i (hp_L h a) ∧ k (pc + 1) ls st' hs (hp_setJ h a i.toNatClampNeg v) bc bs
  | _ => False
/-- the class number that a kind of reference array holds -/
def mm_comp (kd : Nat) : Nat := match kd with
  | 24 => 5
  | 25 => 1
  | 26 => 6
  | 27 => 9
  | _ => 10
def mm_aast : MStep := fun _ k _ pc ls st hs h bc bs => match st with
  | .inr (.inr v) :: .inl i :: .inr (.inr (some a)) :: st' => 23 < hp_K h a ∧ vp_in i (hp_L h a) ∧ (∀ b, v = some b → hp_K h b = mm_comp (hp_K h a) + 1) ∧ k (pc + 1) ls st' hs (hp_setQ h a i.toNatClampNeg v) bc bs
  | _ => False
def mm_alen (z : Rm) : MStep := fun _ k _ pc ls st hs h bc bs => match st with
  | .inr (.inr (some a)) :: st' => (19 < hp_K h a ∧ k (pc + 1) ls (vI (Int32.ofNat (hp_L h a)) :: st') hs h bc bs) ∨ (∃ q, z.1 a = some q ∧ k (pc + 1) ls (vI (Int32.ofNat q.1) :: st') hs h bc bs) ∨ (a = z.2 101 ∧ k (pc + 1) ls (vI 12 :: st') hs h bc bs)
  | _ => False
def mm_new (ci n : Nat) : MStep := fun _ k _ pc ls st hs h bc bs => 1 ≤ bc ∧ n ≤ bs ∧ k (pc + 3) ls (vR (some hs) :: st) (hs + 1) (hp_newO h ci hs) (bc - 1) (bs - n)
def mm_newa (kd len : Nat) : MStep := fun _ k _ pc ls st hs h bc bs => match st with
  | .inl n :: st' => ¬ n < 0 ∧ n.toNatClampNeg ≤ 1000000 ∧ 1 ≤ bc ∧ n.toNatClampNeg ≤ bs ∧ k (pc + len) ls (vR (some hs) :: st') (hs + 1) (hp_newA h kd n.toNatClampNeg hs) (bc - 1) (bs - n.toNatClampNeg)
  | _ => False
def mm_objI : MStep := fun _ k _ pc ls st hs h bc bs => match st with
  | .inr (.inr (some _)) :: st' => st'.length ≤ 4 ∧ k (pc + 3) ls st' hs h bc bs
  | _ => False
/-- so much may lie on the stack below a call -/
def mm_sh (st : List MV) : Prop := st.length ≤ 4 ∨ (st.length ≤ 8 ∧ ∀ v ∈ st, ¬ mm_k v = 1)
/-- a call of method x with y arguments -/
def mm_call (x y : Nat) : MStep := fun C k _ pc ls st hs h bc bs => y ≤ st.length ∧ mm_sh (st.drop y) ∧ ∃ c1 s1, c1 ≤ bc ∧ s1 ≤ bs ∧ C x (st.take y).reverse hs h c1 s1 (fun r hs' h' => k (pc + 3) ls (r.toList ++ st.drop y) hs' h' (bc - c1) (bs - s1))
/-- a call on an object of class number z -/
def mm_callV (x y : Nat) (z : Int) : MStep := fun C k Q pc ls st hs h bc bs => (match (st.take y).reverse with
  | .inr (.inr (some a)) :: _ => (hp_K h a : Int) = z + 1
  | _ => False) ∧ mm_call x y C k Q pc ls st hs h bc bs
def mm_ext2 (f : Int32 → Int32 → Int32) : MStep := fun _ k _ pc ls st hs h bc bs => match st with
  | .inl y :: .inl x :: st' => st'.length ≤ 4 ∧ k (pc + 3) ls (vI (f x y) :: st') hs h bc bs
  | _ => False
/-- System.arraycopy between arrays of one kind: bytes (21) or longs (23) -/
def mm_copy : MStep := fun _ k _ pc ls st hs h bc bs => match st with
  | .inl n :: .inl j :: .inr (.inr (some b)) :: .inl i :: .inr (.inr (some a)) :: st' => st'.length ≤ 4 ∧ ¬ n < 0 ∧ ¬ i < 0 ∧ ¬ j < 0 ∧ i.toNatClampNeg + n.toNatClampNeg ≤ hp_L h a ∧ j.toNatClampNeg + n.toNatClampNeg ≤ hp_L h b ∧ ((hp_K h a = 21 ∧ hp_K h b = 21 ∧ (∀ t, t < n.toNatClampNeg → fits .byte (.int (hp_A h a (i.toNatClampNeg + t))) = true) ∧ k (pc + 3) ls st' hs (hp_copA h a i.toNatClampNeg b j.toNatClampNeg n.toNatClampNeg) bc bs) ∨ (hp_K h a = 23 ∧ hp_K h b = 23 ∧ k (pc + 3) ls st' hs (hp_copJ h a i.toNatClampNeg b j.toNatClampNeg n.toNatClampNeg) bc bs))
  | _ => False
/-- a call on the text -/
def mm_callT (z : Rm) (x y : Nat) : MStep := fun C k Q pc ls st hs h bc bs => (match (st.take y).reverse with
  | .inr (.inr (some a)) :: _ => a = z.2 100
  | _ => False) ∧ mm_call x y C k Q pc ls st hs h bc bs
def mm_iret (y : Nat) : MStep := fun _ _ Q _ _ st hs h _ _ => match st with
  | [.inl v] => (y = 1 → v = 0 ∨ v = 1) ∧ (y = 2 → v.toInt8.toInt32 = v) ∧ Q (some (vI v)) hs h
  | _ => False
def mm_lret : MStep := fun _ _ Q _ _ st hs h _ _ => match st with
  | [.inr (.inl v)] => Q (some (vJ v)) hs h
  | _ => False
def mm_aret : MStep := fun _ _ Q _ _ st hs h _ _ => match st with
  | [.inr (.inr v)] => Q (some (vR v)) hs h
  | _ => False
def mm_vret : MStep := fun _ _ Q _ _ st hs h _ _ => match st with
  | [] => Q none hs h
  | _ => False
def mm_sem (z : Rm) (q : En) : MStep := match q.1 with
  | .aload_n n => mm_ld n.val 2 1
  | .iload_n n => mm_ld n.val 0 1
  | .lload_n n => mm_ld n.val 1 1
  | .aload n => mm_ld n 2 2
  | .iload n => mm_ld n 0 2
  | .lload n => mm_ld n 1 2
  | .astore_n n => mm_st n.val 2 1
  | .istore_n n => mm_st n.val 0 1
  | .lstore_n n => mm_st2 n.val 1
  | .astore n => mm_st n 2 2
  | .istore n => mm_st n 0 2
  | .lstore n => mm_st2 n 2
  | .iinc i n => mm_iinc i n
  | .iconst n => mm_push (vI (Int32.ofInt n)) 1
  | .bipush n => mm_push (vI (Int8.ofInt n).toInt32) 2
  | .sipush n => mm_push (vI (Int16.ofInt n).toInt32) 3
  | .lconst n => mm_push (vJ (Int64.ofNat n.val)) 1
  | .aconst_null => mm_push (vR none) 1
  | .ldc _ => if q.2.2.1 = 1 then mm_push (vR (some (z.2 100))) 2 else mm_push (vI (Int32.ofInt q.2.2.2.2)) 2
  | .ldc_w _ => if q.2.2.1 = 1 then mm_push (vR (some (z.2 100))) 3 else mm_push (vI (Int32.ofInt q.2.2.2.2)) 3
  | .ldc2_w _ => mm_push (vJ (Int64.ofInt q.2.2.2.2)) 3
  | .iadd => mm_ii (· + ·)
  | .isub => mm_ii (· - ·)
  | .imul => mm_ii (· * ·)
  | .iand => mm_ii (· &&& ·)
  | .ior => mm_ii (· ||| ·)
  | .ixor => mm_ii (· ^^^ ·)
  | .ishl => mm_ii (fun x y => x <<< (y &&& 31))
  | .ishr => mm_ii (fun x y => x >>> (y &&& 31))
  | .iushr => mm_ii (fun x y => (x.toUInt32 >>> (y.toUInt32 &&& Int32.toUInt32 31)).toInt32)
  | .idiv => mm_idiv (· / ·)
  | .irem => mm_idiv (fun x y => x - x / y * y)
  | .ladd => mm_jj (· + ·)
  | .lsub => mm_jj (· - ·)
  | .lmul => mm_jj (· * ·)
  | .land => mm_jj (· &&& ·)
  | .lor => mm_jj (· ||| ·)
  | .ldiv => mm_jdiv (· / ·)
  | .lrem => mm_jdiv (fun x y => x - x / y * y)
  | .lshl => mm_lshl
  | .lcmp => mm_lcmp
  | .ineg => mm_i1 (fun x => -x)
  | .i2b => mm_i1 (fun x => x.toInt8.toInt32)
  | .i2s => mm_i1 (fun x => x.toInt16.toInt32)
  | .i2c => mm_i1 (fun x => (x.toUInt32 % 65536).toInt32)
  | .i2l => mm_i2l
  | .l2i => mm_l2i
  | .pop => mm_pop
  | .dup => mm_dup
  | .dup2 => mm_dup2
  | .if_icmp c _ => mm_icmp c q.2.2.1
  | .ifCond c _ => mm_if c q.2.2.1
  | .if_acmp c _ => mm_acmp c q.2.2.1
  | .ifnull _ => mm_ifnull q.2.2.1
  | .ifnonnull _ => mm_ifnonnull q.2.2.1
  | .goto _ => mm_goto q.2.2.1
  | .tableswitch d lo hi os => mm_tsw d lo hi os
  | .lookupswitch d os => mm_lsw d os
  | .getfield _ => if q.2.2.1 = 9100 then mm_gsv z else if q.2.2.1 = 9101 then mm_gsc z else mm_getf q.2.2.1 q.2.2.2.1
  | .putfield _ => mm_putf q.2.2.1 q.2.2.2.1
  | .iaload => mm_iald z
  | .baload => mm_bald z
  | .laload => mm_lald
  | .aaload => mm_aald
  | .iastore => mm_iast
  | .bastore => mm_bast
  | .lastore => mm_last
  | .aastore => mm_aast
  | .arraylength => mm_alen z
  | .new _ => mm_new q.2.2.1 q.2.2.2.1
  | .newarray _ => mm_newa q.2.2.1 2
  | .anewarray _ => mm_newa q.2.2.1 3
  | .getstatic _ => if q.2.2.1 = 9100 then mm_push (vI 1) 3 else mm_push (vR (some (z.2 q.2.2.1))) 3
  | .invokespecial _ => if q.2.2.1 = 9999 then mm_objI else mm_callV q.2.2.1 q.2.2.2.1 q.2.2.2.2
  | .invokestatic _ => if q.2.2.1 = 9001 then mm_ext2 (fun x y => if x < y then y else x) else if q.2.2.1 = 9002 then mm_ext2 (fun x y => if y < x then y else x) else if q.2.2.1 = 9003 then mm_copy else mm_call q.2.2.1 q.2.2.2.1
  | .invokevirtual _ => if q.2.2.2.2 = 99 then mm_callT z q.2.2.1 q.2.2.2.1 else mm_callV q.2.2.1 q.2.2.2.1 q.2.2.2.2
  | .ireturn => mm_iret q.2.2.1
  | .lreturn => mm_lret
  | .areturn => mm_aret
  | .return_ => mm_vret
  | _ => mm_no
/-- the run of a table from a state: the least set of states that holds all from which a step leads into it (so a run that does not end is none) -/
def mm_X (z : Rm) (C : Ct) (T : Nat → Option En) (Q : Qt) : Kt := fun pc ls st hs h bc bs =>
  ∀ K : Kt, (∀ pc ls st hs h bc bs, (match T pc with
    | none => False
    | some q => mm_sem z q C K Q pc ls st hs h bc bs) → K pc ls st hs h bc bs) → K pc ls st hs h bc bs
/-- arguments as locals: a long takes two -/
def mm_args : List MV → List (Option MV)
  | [] => []
  | .inr (.inl x) :: r => some (vJ x) :: none :: mm_args r
  | v :: r => some v :: mm_args r
def mm_loc (as : List MV) (n : Nat) : List (Option MV) := mm_args as ++ List.replicate (n - (mm_args as).length) none
def mm_C (z : Rm) (mL : Nat → Nat) (P : Nat → Option (Nat → Option En)) : Nat → Ct
  | 0 => fun _ _ _ _ _ _ _ => False
  | d + 1 => fun x as hs h bc bs Q => match P x with
    | none => False
    | some T => (mm_args as).length ≤ mL x ∧ mm_X z (mm_C z mL P d) T Q 0 (mm_loc as (mL x)) [] hs h bc bs
/-- a table of n places -/
def mm_tab (n : Nat) (f : Nat → Option En) : Nat → Option En := fun pc => bif Nat.blt pc n then f pc else none
theorem mm_tab_all {n : Nat} {f : Nat → Option En} {ok : Nat → En → Bool} (h : (List.range n).all (fun pc => match f pc with
  | some q => ok pc q
  | none => true) = true) : ∀ pc q, mm_tab n f pc = some q → ok pc q = true := by
  intro pc q hq
  unfold mm_tab at hq
  by_cases hp : pc < n
  · have h1 : Nat.blt pc n = true := by simp [Nat.blt_eq, hp]
    rw [h1] at hq
    have h2 := List.all_eq_true.mp h pc (List.mem_range.mpr hp)
    simp only [cond_true] at hq
    rw [hq] at h2
    exact h2
  · have h1 : Nat.blt pc n = false := by
      cases hb : Nat.blt pc n
      · rfl
      · exact absurd (Nat.blt_eq.mp hb) hp
    rw [h1] at hq
    simp at hq
