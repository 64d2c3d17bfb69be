/-! functions of methods over the typed heap, and that the runs follow them (by program: wip/whole/walk.py) -/
def B_X13_wish_34 (t : TS) (v1 : Int32) : Option (Int32 × TS) := (if ¬ (tI t 1375 0) = 8 then (gd (tI t 1375 0) (tL t 3376 0) (nxt (uA t 3376 0 (tI t 1375 0).toNatClampNeg v1) (fun t21 => (nxt (uI t21 1375 0 ((tI t21 1375 0) + 1)) (fun t22 => (some ((tI t22 1375 0), t22))))))) else (some ((-3), t)))
theorem TB_X13_wish_34 {W : NW} {d : Nat} {Q : Option NV → TS → Prop} {a0 : Nat → Nat → Nat} {e0 : Nat → Nat → Bool} {bc bs : Nat} (hW : W.2.2.2 = mm_fx) : ∀ (t : TS) (v1 : Int32), wp (B_X13_wish_34 t v1) (fun r => Q (some (eI r.1)) r.2) → nX W (d + 1) tX13_wish Q a0 e0 34 [some (eR (some (13, 0))), some (eI v1)] [] t bc bs := by
  intro t v1 H
  unfold B_X13_wish_34 at H
  refine nx_ld rfl rfl rfl rfl ?_
  refine nx_getI rfl rfl rfl (by decide) ?_
  refine nx_int (x := 8) rfl rfl ?_
  refine nx_icmp rfl rfl (by rfl) H (fun H => ?_) (fun H => ?_)
  · refine nx_ld rfl rfl rfl rfl ?_
    refine nx_getFix rfl rfl rfl (by decide) (by rw [hW]; rfl) rfl ?_
    refine nx_ld rfl rfl rfl rfl ?_
    refine nx_getI rfl rfl rfl (by decide) ?_
    refine nx_ld rfl rfl rfl rfl ?_
    refine nx_iast (p := (3376, 0)) rfl rfl (Nat.le_of_ble_eq_true rfl) (Nat.le_of_ble_eq_true rfl) rfl H (fun t21 H => ?_)
    refine nx_ld rfl rfl rfl rfl ?_
    show nX _ _ _ _ _ _ 57 _ _ _ _ _
    refine nx_dup rfl rfl (Nat.ne_of_beq_eq_false rfl) ?_
    refine nx_getI rfl rfl rfl (by decide) ?_
    refine nx_int (x := 1) rfl rfl ?_
    refine nx_ii rfl rfl ?_
    refine nx_putI rfl rfl rfl (by decide) H (fun t22 H => ?_)
    refine nx_ld rfl rfl rfl rfl ?_
    refine nx_getI rfl rfl rfl (by decide) ?_
    exact nx_rit rfl rfl H
  refine nx_int (x := (-3)) rfl rfl ?_
  exact nx_rit rfl rfl H
def F_X13_wish (t : TS) (x1 : Int32) : Option (Int32 × TS) := (Option.bind (F_X13_in t x1 0 255) (fun r21 => (if r21 = 0 then (some ((-1), t)) else (if 8 ≤ (tI t 1375 0) then (B_X13_wish_34  t x1) else (if ¬ ((x1 >>> ((tI t 1375 0) &&& 31)) &&& 1) = 1 then (B_X13_wish_34  t x1) else (some ((-1), t)))))))
theorem TF_X13_wish {W : NW} {d : Nat} {t : TS} {x1 : Int32} {Q : Option NV → TS → Prop} {bc bs : Nat} (hW : W.2.2.2 = mm_fx) (H : wp (F_X13_wish t x1) (fun r => Q (some (eI r.1)) r.2)) : nC W (d + 2) 238 [eR (some (13, 0)), eI x1] t bc bs Q := by
  refine nC_in (d := (d + 1)) (T := tX13_wish) (ls := [some (eR (some (13, 0))), some (eI x1)]) rfl (Nat.le_of_ble_eq_true rfl) rfl (fun a0 e0 => ?_)
  unfold F_X13_wish at H
  refine nx_ld rfl rfl rfl rfl ?_
  refine nx_int (x := 0) rfl rfl ?_
  refine nx_int (x := 255) rfl rfl ?_
  refine nx_cSI (as := [eI x1, eI 0, eI 255]) (st' := []) rfl rfl (Nat.le_of_ble_eq_true rfl) rfl rfl (Nat.le_of_ble_eq_true rfl) H (fun Q H => TF_X13_in hW  H) (fun r21 H => ?_)
  refine nx_if rfl rfl (by rfl) H (fun H => ?_) (fun H => ?_)
  · refine nx_int (x := (-1)) rfl rfl ?_
    exact nx_rit rfl rfl H
  refine nx_ld rfl rfl rfl rfl ?_
  refine nx_getI rfl rfl rfl (by decide) ?_
  refine nx_int (x := 8) rfl rfl ?_
  refine nx_icmp rfl rfl (by rfl) H (fun H => ?_) (fun H => ?_)
  · exact TB_X13_wish_34 hW    _ _ H
  refine nx_ld rfl rfl rfl rfl ?_
  refine nx_ld rfl rfl rfl rfl ?_
  refine nx_getI rfl rfl rfl (by decide) ?_
  refine nx_ii rfl rfl ?_
  refine nx_int (x := 1) rfl rfl ?_
  refine nx_ii rfl rfl ?_
  refine nx_int (x := 1) rfl rfl ?_
  show nX _ _ _ _ _ _ 29 _ _ _ _ _
  refine nx_icmp rfl rfl (by rfl) H (fun H => ?_) (fun H => ?_)
  · exact TB_X13_wish_34 hW    _ _ H
  refine nx_int (x := (-1)) rfl rfl ?_
  exact nx_rit rfl rfl H
def B_X13_ring_161 (g : Nat → TS → Int32 → Int32 → Int32 → Int32 → Option TS) (t : TS) (v1 : Int32) (v2 : Int32) (v3 : Int32) (v4 : Int32) : Option TS := (if ¬ ((v2 >>> (v1 &&& 31)) &&& 1) = 1 then (gd v1 (tL t 3377 0) (nxt (uA t 3377 0 v1.toNatClampNeg (-2)) (fun t21 => (Option.bind (g 0 t21 (v1 + 1) v2 (v3 ||| ((1 : Int32) <<< (v1 &&& 31))) v4) (fun r22 => (some r22)))))) else (some t))
theorem TB_X13_ring_161 {W : NW} {d : Nat} {Q : Option NV → TS → Prop} {a0 : Nat → Nat → Nat} {e0 : Nat → Nat → Bool} {g : Nat → TS → Int32 → Int32 → Int32 → Int32 → Option TS} {bc bs : Nat} (hW : W.2.2.2 = mm_fx) (hg0 : ∀ (t : TS) (x1 : Int32) (x2 : Int32) (x3 : Int32) (x4 : Int32) (bc bs : Nat) (Q : Option NV → TS → Prop), wp (g 0 t x1 x2 x3 x4) (fun r => Q none r) → nC W (d + 2) 239 [eR (some (13, 0)), eI x1, eI x2, eI x3, eI x4] t bc bs Q) : ∀ (t : TS) (v1 : Int32) (v2 : Int32) (v3 : Int32) (v4 : Int32) (v5 : Int32), wp (B_X13_ring_161 g t v1 v2 v3 v4) (fun r => Q none r) → nX W (d + 2) tX13_ring Q a0 e0 161 [some (eR (some (13, 0))), some (eI v1), some (eI v2), some (eI v3), some (eI v4), some (eI v5)] [] t bc bs := by
  intro t v1 v2 v3 v4 v5 H
  unfold B_X13_ring_161 at H
  refine nx_ld rfl rfl rfl rfl ?_
  refine nx_ld rfl rfl rfl rfl ?_
  refine nx_ii rfl rfl ?_
  refine nx_int (x := 1) rfl rfl ?_
  refine nx_ii rfl rfl ?_
  refine nx_int (x := 1) rfl rfl ?_
  refine nx_icmp rfl rfl (by rfl) H (fun H => ?_) (fun H => ?_)
  · refine nx_ld rfl rfl rfl rfl ?_
    refine nx_getFix rfl rfl rfl (by decide) (by rw [hW]; rfl) rfl ?_
    refine nx_ld rfl rfl rfl rfl ?_
    refine nx_int (x := (-2)) rfl rfl ?_
    refine nx_iast (p := (3377, 0)) rfl rfl (Nat.le_of_ble_eq_true rfl) (Nat.le_of_ble_eq_true rfl) rfl H (fun t21 H => ?_)
    refine nx_ld rfl rfl rfl rfl ?_
    refine nx_ld rfl rfl rfl rfl ?_
    show nX _ _ _ _ _ _ 181 _ _ _ _ _
    refine nx_int (x := 1) rfl rfl ?_
    refine nx_ii rfl rfl ?_
    refine nx_ld rfl rfl rfl rfl ?_
    refine nx_ld rfl rfl rfl rfl ?_
    refine nx_int (x := 1) rfl rfl ?_
    refine nx_ld rfl rfl rfl rfl ?_
    refine nx_ii rfl rfl ?_
    refine nx_ii rfl rfl ?_
    show nX _ _ _ _ _ _ 189 _ _ _ _ _
    refine nx_ld rfl rfl rfl rfl ?_
    refine nx_cVVt (as := [eI (v1 + 1), eI v2, eI (v3 ||| ((1 : Int32) <<< (v1 &&& 31))), eI v4]) (st' := []) rfl rfl (Nat.le_of_ble_eq_true rfl) rfl rfl (Nat.le_of_ble_eq_true rfl) (c0 := 13) rfl (by decide) H (fun Q H => hg0 _ _ _ _ _ _ _ _ H) (fun r22 H => ?_)
    exact nx_rv rfl rfl H
  exact nx_rv rfl rfl H
def B_X13_ring_155 (g : Nat → TS → Int32 → Int32 → Int32 → Int32 → Option TS) (k83 : TS → Int32 → Int32 → Int32 → Int32 → Int32 → Option TS) (t : TS) (v1 : Int32) (v2 : Int32) (v3 : Int32) (v4 : Int32) (v5 : Int32) : Option TS := (k83 t v1 v2 v3 v4 (v5 + 1))
theorem TB_X13_ring_155 {W : NW} {d : Nat} {Q : Option NV → TS → Prop} {a0 : Nat → Nat → Nat} {e0 : Nat → Nat → Bool} {g : Nat → TS → Int32 → Int32 → Int32 → Int32 → Option TS} {k83 : TS → Int32 → Int32 → Int32 → Int32 → Int32 → Option TS} {bc bs : Nat} (hW : W.2.2.2 = mm_fx) (hg0 : ∀ (t : TS) (x1 : Int32) (x2 : Int32) (x3 : Int32) (x4 : Int32) (bc bs : Nat) (Q : Option NV → TS → Prop), wp (g 0 t x1 x2 x3 x4) (fun r => Q none r) → nC W (d + 2) 239 [eR (some (13, 0)), eI x1, eI x2, eI x3, eI x4] t bc bs Q) (hk83 : ∀ (t : TS) (v1 : Int32) (v2 : Int32) (v3 : Int32) (v4 : Int32) (v5 : Int32), wp (k83 t v1 v2 v3 v4 v5) (fun r => Q none r) → nX W (d + 2) tX13_ring Q a0 e0 83 [some (eR (some (13, 0))), some (eI v1), some (eI v2), some (eI v3), some (eI v4), some (eI v5)] [] t bc bs) : ∀ (t : TS) (v1 : Int32) (v2 : Int32) (v3 : Int32) (v4 : Int32) (v5 : Int32), wp (B_X13_ring_155 g k83 t v1 v2 v3 v4 v5) (fun r => Q none r) → nX W (d + 2) tX13_ring Q a0 e0 155 [some (eR (some (13, 0))), some (eI v1), some (eI v2), some (eI v3), some (eI v4), some (eI v5)] [] t bc bs := by
  intro t v1 v2 v3 v4 v5 H
  unfold B_X13_ring_155 at H
  refine nx_iinc2 1 (ls' := [some (eR (some (13, 0))), some (eI v1), some (eI v2), some (eI v3), some (eI v4), some (eI (v5 + 1))]) rfl rfl rfl rfl rfl ?_
  refine nx_goto rfl rfl ?_
  exact hk83 _ _ _ _ _ _ H
def BB_X13_ring_83 (g : Nat → TS → Int32 → Int32 → Int32 → Int32 → Option TS) (k83 : TS → Int32 → Int32 → Int32 → Int32 → Int32 → Option TS) (t : TS) (v1 : Int32) (v2 : Int32) (v3 : Int32) (v4 : Int32) (v5 : Int32) : Option TS := (if (tI t 1375 0) ≤ v5 then (B_X13_ring_161 g  t v1 v2 v3 v4) else (gd v1 (tL t 3376 0) (if (((tA t 3376 0 v1.toNatClampNeg) >>> (v5 &&& 31)) &&& 1) = 0 then (B_X13_ring_155 g k83 t v1 v2 v3 v4 v5) else (if ((v2 >>> (v5 &&& 31)) &&& 1) = 1 then (B_X13_ring_155 g k83 t v1 v2 v3 v4 v5) else (if ¬ ((v3 >>> (v5 &&& 31)) &&& 1) = 1 then (gd v1 (tL t 3377 0) (nxt (uA t 3377 0 v1.toNatClampNeg v5) (fun t21 => (Option.bind (g 0 t21 (v1 + 1) (v2 ||| ((1 : Int32) <<< (v5 &&& 31))) v3 (v4 + 1)) (fun r22 => (B_X13_ring_155 g k83 r22 v1 v2 v3 v4 v5)))))) else (B_X13_ring_155 g k83 t v1 v2 v3 v4 v5))))))
theorem TBB_X13_ring_83 {W : NW} {d : Nat} {Q : Option NV → TS → Prop} {a0 : Nat → Nat → Nat} {e0 : Nat → Nat → Bool} {g : Nat → TS → Int32 → Int32 → Int32 → Int32 → Option TS} {k83 : TS → Int32 → Int32 → Int32 → Int32 → Int32 → Option TS} {bc bs : Nat} (hW : W.2.2.2 = mm_fx) (hg0 : ∀ (t : TS) (x1 : Int32) (x2 : Int32) (x3 : Int32) (x4 : Int32) (bc bs : Nat) (Q : Option NV → TS → Prop), wp (g 0 t x1 x2 x3 x4) (fun r => Q none r) → nC W (d + 2) 239 [eR (some (13, 0)), eI x1, eI x2, eI x3, eI x4] t bc bs Q) (hk83 : ∀ (t : TS) (v1 : Int32) (v2 : Int32) (v3 : Int32) (v4 : Int32) (v5 : Int32), wp (k83 t v1 v2 v3 v4 v5) (fun r => Q none r) → nX W (d + 2) tX13_ring Q a0 e0 83 [some (eR (some (13, 0))), some (eI v1), some (eI v2), some (eI v3), some (eI v4), some (eI v5)] [] t bc bs) : ∀ (t : TS) (v1 : Int32) (v2 : Int32) (v3 : Int32) (v4 : Int32) (v5 : Int32), wp (BB_X13_ring_83 g k83 t v1 v2 v3 v4 v5) (fun r => Q none r) → nX W (d + 2) tX13_ring Q a0 e0 83 [some (eR (some (13, 0))), some (eI v1), some (eI v2), some (eI v3), some (eI v4), some (eI v5)] [] t bc bs := by
  intro t v1 v2 v3 v4 v5 H
  unfold BB_X13_ring_83 at H
  refine nx_ld rfl rfl rfl rfl ?_
  refine nx_ld rfl rfl rfl rfl ?_
  refine nx_getI rfl rfl rfl (by decide) ?_
  refine nx_icmp rfl rfl (by rfl) H (fun H => ?_) (fun H => ?_)
  · exact TB_X13_ring_161 hW  hg0  _ _ _ _ _ _ H
  refine nx_ld rfl rfl rfl rfl ?_
  refine nx_getFix rfl rfl rfl (by decide) (by rw [hW]; rfl) rfl ?_
  refine nx_ld rfl rfl rfl rfl ?_
  refine nx_iald (p := (3376, 0)) rfl rfl (Nat.le_of_ble_eq_true rfl) (Nat.le_of_ble_eq_true rfl) rfl H (fun H => ?_)
  refine nx_ld rfl rfl rfl rfl ?_
  refine nx_ii rfl rfl ?_
  refine nx_int (x := 1) rfl rfl ?_
  show nX _ _ _ _ _ _ 102 _ _ _ _ _
  refine nx_ii rfl rfl ?_
  refine nx_if rfl rfl (by rfl) H (fun H => ?_) (fun H => ?_)
  · exact TB_X13_ring_155 hW  hg0 hk83 _ _ _ _ _ _ H
  refine nx_ld rfl rfl rfl rfl ?_
  refine nx_ld rfl rfl rfl rfl ?_
  refine nx_ii rfl rfl ?_
  refine nx_int (x := 1) rfl rfl ?_
  refine nx_ii rfl rfl ?_
  refine nx_int (x := 1) rfl rfl ?_
  refine nx_icmp rfl rfl (by rfl) H (fun H => ?_) (fun H => ?_)
  · exact TB_X13_ring_155 hW  hg0 hk83 _ _ _ _ _ _ H
  refine nx_ld rfl rfl rfl rfl ?_
  refine nx_ld rfl rfl rfl rfl ?_
  refine nx_ii rfl rfl ?_
  refine nx_int (x := 1) rfl rfl ?_
  refine nx_ii rfl rfl ?_
  refine nx_int (x := 1) rfl rfl ?_
  refine nx_icmp rfl rfl (by rfl) H (fun H => ?_) (fun H => ?_)
  · refine nx_ld rfl rfl rfl rfl ?_
    refine nx_getFix rfl rfl rfl (by decide) (by rw [hW]; rfl) rfl ?_
    refine nx_ld rfl rfl rfl rfl ?_
    refine nx_ld rfl rfl rfl rfl ?_
    refine nx_iast (p := (3377, 0)) rfl rfl (Nat.le_of_ble_eq_true rfl) (Nat.le_of_ble_eq_true rfl) rfl H (fun t21 H => ?_)
    refine nx_ld rfl rfl rfl rfl ?_
    refine nx_ld rfl rfl rfl rfl ?_
    show nX _ _ _ _ _ _ 139 _ _ _ _ _
    refine nx_int (x := 1) rfl rfl ?_
    refine nx_ii rfl rfl ?_
    refine nx_ld rfl rfl rfl rfl ?_
    refine nx_int (x := 1) rfl rfl ?_
    refine nx_ld rfl rfl rfl rfl ?_
    refine nx_ii rfl rfl ?_
    refine nx_ii rfl rfl ?_
    refine nx_ld rfl rfl rfl rfl ?_
    show nX _ _ _ _ _ _ 148 _ _ _ _ _
    refine nx_ld rfl rfl rfl rfl ?_
    refine nx_int (x := 1) rfl rfl ?_
    refine nx_ii rfl rfl ?_
    refine nx_cVVt (as := [eI (v1 + 1), eI (v2 ||| ((1 : Int32) <<< (v5 &&& 31))), eI v3, eI (v4 + 1)]) (st' := []) rfl rfl (Nat.le_of_ble_eq_true rfl) rfl rfl (Nat.le_of_ble_eq_true rfl) (c0 := 13) rfl (by decide) H (fun Q H => hg0 _ _ _ _ _ _ _ _ H) (fun r22 H => ?_)
    exact TB_X13_ring_155 hW  hg0 hk83 _ _ _ _ _ _ H
  refine nx_goto rfl rfl ?_
  exact TB_X13_ring_155 hW  hg0 hk83 _ _ _ _ _ _ H
def B_X13_ring_83 (g : Nat → TS → Int32 → Int32 → Int32 → Int32 → Option TS) : Nat → TS → Int32 → Int32 → Int32 → Int32 → Int32 → Option TS
  | 0 => fun _ _ _ _ _ _ => none
  | n + 1 => fun t v1 v2 v3 v4 v5 => BB_X13_ring_83 g (B_X13_ring_83 g n) t v1 v2 v3 v4 v5
theorem TB_X13_ring_83 {W : NW} {d : Nat} {Q : Option NV → TS → Prop} {a0 : Nat → Nat → Nat} {e0 : Nat → Nat → Bool} {g : Nat → TS → Int32 → Int32 → Int32 → Int32 → Option TS} {bc bs : Nat} (hW : W.2.2.2 = mm_fx) (hg0 : ∀ (t : TS) (x1 : Int32) (x2 : Int32) (x3 : Int32) (x4 : Int32) (bc bs : Nat) (Q : Option NV → TS → Prop), wp (g 0 t x1 x2 x3 x4) (fun r => Q none r) → nC W (d + 2) 239 [eR (some (13, 0)), eI x1, eI x2, eI x3, eI x4] t bc bs Q) : ∀ (n : Nat) (t : TS) (v1 : Int32) (v2 : Int32) (v3 : Int32) (v4 : Int32) (v5 : Int32), wp (B_X13_ring_83 g n t v1 v2 v3 v4 v5) (fun r => Q none r) → nX W (d + 2) tX13_ring Q a0 e0 83 [some (eR (some (13, 0))), some (eI v1), some (eI v2), some (eI v3), some (eI v4), some (eI v5)] [] t bc bs := by
  intro n
  induction n with
  | zero => intro t v1 v2 v3 v4 v5 H; exact (wp_none H).elim
  | succ n ih =>
    intro t v1 v2 v3 v4 v5 H
    exact TBB_X13_ring_83 hW  hg0   ih t v1 v2 v3 v4 v5 H
def BB_X13_ring_50 (g : Nat → TS → Int32 → Int32 → Int32 → Int32 → Option TS) (k50 : TS → Int32 → Option TS) (t : TS) (v5 : Int32) : Option TS := (if (tI t 1375 0) ≤ v5 then (some t) else (gd v5 (tL t 3377 0) (gd v5 (tL t 3378 0) (nxt (uA t 3378 0 v5.toNatClampNeg (tA t 3377 0 v5.toNatClampNeg)) (fun t21 => (k50 t21 (v5 + 1)))))))
theorem TBB_X13_ring_50 {W : NW} {d : Nat} {Q : Option NV → TS → Prop} {a0 : Nat → Nat → Nat} {e0 : Nat → Nat → Bool} {g : Nat → TS → Int32 → Int32 → Int32 → Int32 → Option TS} {k50 : TS → Int32 → Option TS} {bc bs : Nat} (hW : W.2.2.2 = mm_fx) (hg0 : ∀ (t : TS) (x1 : Int32) (x2 : Int32) (x3 : Int32) (x4 : Int32) (bc bs : Nat) (Q : Option NV → TS → Prop), wp (g 0 t x1 x2 x3 x4) (fun r => Q none r) → nC W (d + 2) 239 [eR (some (13, 0)), eI x1, eI x2, eI x3, eI x4] t bc bs Q) (hk50 : ∀ (t : TS) (v1 : Int32) (v2 : Int32) (v3 : Int32) (v4 : Int32) (v5 : Int32), wp (k50 t v5) (fun r => Q none r) → nX W (d + 2) tX13_ring Q a0 e0 50 [some (eR (some (13, 0))), some (eI v1), some (eI v2), some (eI v3), some (eI v4), some (eI v5)] [] t bc bs) : ∀ (t : TS) (v1 : Int32) (v2 : Int32) (v3 : Int32) (v4 : Int32) (v5 : Int32), wp (BB_X13_ring_50 g k50 t v5) (fun r => Q none r) → nX W (d + 2) tX13_ring Q a0 e0 50 [some (eR (some (13, 0))), some (eI v1), some (eI v2), some (eI v3), some (eI v4), some (eI v5)] [] t bc bs := by
  intro t v1 v2 v3 v4 v5 H
  unfold BB_X13_ring_50 at H
  refine nx_ld rfl rfl rfl rfl ?_
  refine nx_ld rfl rfl rfl rfl ?_
  refine nx_getI rfl rfl rfl (by decide) ?_
  refine nx_icmp rfl rfl (by rfl) H (fun H => ?_) (fun H => ?_)
  · exact nx_rv rfl rfl H
  refine nx_ld rfl rfl rfl rfl ?_
  refine nx_getFix rfl rfl rfl (by decide) (by rw [hW]; rfl) rfl ?_
  refine nx_ld rfl rfl rfl rfl ?_
  refine nx_ld rfl rfl rfl rfl ?_
  refine nx_getFix rfl rfl rfl (by decide) (by rw [hW]; rfl) rfl ?_
  refine nx_ld rfl rfl rfl rfl ?_
  refine nx_iald (p := (3377, 0)) rfl rfl (Nat.le_of_ble_eq_true rfl) (Nat.le_of_ble_eq_true rfl) rfl H (fun H => ?_)
  show nX _ _ _ _ _ _ 72 _ _ _ _ _
  refine nx_iast (p := (3378, 0)) rfl rfl (Nat.le_of_ble_eq_true rfl) (Nat.le_of_ble_eq_true rfl) rfl H (fun t21 H => ?_)
  refine nx_iinc2 1 (ls' := [some (eR (some (13, 0))), some (eI v1), some (eI v2), some (eI v3), some (eI v4), some (eI (v5 + 1))]) rfl rfl rfl rfl rfl ?_
  refine nx_goto rfl rfl ?_
  exact hk50 _ _ _ _ _ _ H
def B_X13_ring_50 (g : Nat → TS → Int32 → Int32 → Int32 → Int32 → Option TS) : Nat → TS → Int32 → Option TS
  | 0 => fun _ _ => none
  | n + 1 => fun t v5 => BB_X13_ring_50 g (B_X13_ring_50 g n) t v5
theorem TB_X13_ring_50 {W : NW} {d : Nat} {Q : Option NV → TS → Prop} {a0 : Nat → Nat → Nat} {e0 : Nat → Nat → Bool} {g : Nat → TS → Int32 → Int32 → Int32 → Int32 → Option TS} {bc bs : Nat} (hW : W.2.2.2 = mm_fx) (hg0 : ∀ (t : TS) (x1 : Int32) (x2 : Int32) (x3 : Int32) (x4 : Int32) (bc bs : Nat) (Q : Option NV → TS → Prop), wp (g 0 t x1 x2 x3 x4) (fun r => Q none r) → nC W (d + 2) 239 [eR (some (13, 0)), eI x1, eI x2, eI x3, eI x4] t bc bs Q) : ∀ (n : Nat) (t : TS) (v1 : Int32) (v2 : Int32) (v3 : Int32) (v4 : Int32) (v5 : Int32), wp (B_X13_ring_50 g n t v5) (fun r => Q none r) → nX W (d + 2) tX13_ring Q a0 e0 50 [some (eR (some (13, 0))), some (eI v1), some (eI v2), some (eI v3), some (eI v4), some (eI v5)] [] t bc bs := by
  intro n
  induction n with
  | zero => intro t v1 v2 v3 v4 v5 H; exact (wp_none H).elim
  | succ n ih =>
    intro t v1 v2 v3 v4 v5 H
    exact TBB_X13_ring_50 hW  hg0   ih t v1 v2 v3 v4 v5 H
def Fb_X13_ring (g : Nat → TS → Int32 → Int32 → Int32 → Int32 → Option TS) (t : TS) (x1 : Int32) (x2 : Int32) (x3 : Int32) (x4 : Int32) : Option TS := (if (tI t 1380 0) < ((x4 + (tI t 1375 0)) - x1) then (if ¬ x1 = (tI t 1375 0) then (B_X13_ring_83 g  10000 t x1 x2 x3 x4 0) else (if ¬ (x2 &&& x3) = 0 then (some t) else (Option.bind (F_X13_bitsOf t x2) (fun r21 => (if r21 = x4 then (nxt (uI t 1380 0 x4) (fun t22 => (B_X13_ring_50 g  10000 t22 0))) else (some t)))))) else (some t))
theorem TFb_X13_ring {W : NW} {d : Nat} {g : Nat → TS → Int32 → Int32 → Int32 → Int32 → Option TS} {t : TS} {x1 : Int32} {x2 : Int32} {x3 : Int32} {x4 : Int32} {Q : Option NV → TS → Prop} {bc bs : Nat} (hW : W.2.2.2 = mm_fx) (hg0 : ∀ (t : TS) (x1 : Int32) (x2 : Int32) (x3 : Int32) (x4 : Int32) (bc bs : Nat) (Q : Option NV → TS → Prop), wp (g 0 t x1 x2 x3 x4) (fun r => Q none r) → nC W (d + 2) 239 [eR (some (13, 0)), eI x1, eI x2, eI x3, eI x4] t bc bs Q) (H : wp (Fb_X13_ring g t x1 x2 x3 x4) (fun r => Q none r)) : nC W (d + 3) 239 [eR (some (13, 0)), eI x1, eI x2, eI x3, eI x4] t bc bs Q := by
  refine nC_in (d := (d + 2)) (T := tX13_ring) (ls := [some (eR (some (13, 0))), some (eI x1), some (eI x2), some (eI x3), some (eI x4), none]) rfl (Nat.le_of_ble_eq_true rfl) rfl (fun a0 e0 => ?_)
  unfold Fb_X13_ring at H
  refine nx_ld rfl rfl rfl rfl ?_
  refine nx_ld rfl rfl rfl rfl ?_
  refine nx_getI rfl rfl rfl (by decide) ?_
  refine nx_ii rfl rfl ?_
  refine nx_ld rfl rfl rfl rfl ?_
  refine nx_ii rfl rfl ?_
  refine nx_ld rfl rfl rfl rfl ?_
  show nX _ _ _ _ _ _ 10 _ _ _ _ _
  refine nx_getI rfl rfl rfl (by decide) ?_
  refine nx_icmp rfl rfl (by rfl) H (fun H => ?_) (fun H => ?_)
  · refine nx_ld rfl rfl rfl rfl ?_
    refine nx_ld rfl rfl rfl rfl ?_
    refine nx_getI rfl rfl rfl (by decide) ?_
    refine nx_icmp rfl rfl (by rfl) H (fun H => ?_) (fun H => ?_)
    · refine nx_int (x := 0) rfl rfl ?_
      refine nx_st (ls' := [some (eR (some (13, 0))), some (eI x1), some (eI x2), some (eI x3), some (eI x4), some (eI 0)]) rfl rfl rfl (Nat.le_of_ble_eq_true rfl) rfl ?_
      exact TB_X13_ring_83 hW  hg0  10000 _ _ _ _ _ _ H
    refine nx_ld rfl rfl rfl rfl ?_
    refine nx_ld rfl rfl rfl rfl ?_
    refine nx_ii rfl rfl ?_
    refine nx_if rfl rfl (by rfl) H (fun H => ?_) (fun H => ?_)
    · exact nx_rv rfl rfl H
    refine nx_ld rfl rfl rfl rfl ?_
    refine nx_cSI (as := [eI x2]) (st' := []) rfl rfl (Nat.le_of_ble_eq_true rfl) rfl rfl (Nat.le_of_ble_eq_true rfl) H (fun Q H => TF_X13_bitsOf hW  H) (fun r21 H => ?_)
    refine nx_ld rfl rfl rfl rfl ?_
    refine nx_icmp rfl rfl (by rfl) H (fun H => ?_) (fun H => ?_)
    · refine nx_ld rfl rfl rfl rfl ?_
      refine nx_ld rfl rfl rfl rfl ?_
      refine nx_putI rfl rfl rfl (by decide) H (fun t22 H => ?_)
      refine nx_int (x := 0) rfl rfl ?_
      refine nx_st (ls' := [some (eR (some (13, 0))), some (eI x1), some (eI x2), some (eI x3), some (eI x4), some (eI 0)]) rfl rfl rfl (Nat.le_of_ble_eq_true rfl) rfl ?_
      exact TB_X13_ring_50 hW  hg0  10000 _ _ _ _ _ _ H
    exact nx_rv rfl rfl H
  exact nx_rv rfl rfl H
def G_X13_ring : Nat → Nat → TS → Int32 → Int32 → Int32 → Int32 → Option TS
  | 0, _ => fun _ _ _ _ _ => none
  | n + 1, w => fun t x1 x2 x3 x4 => match w with
    | 0 => Fb_X13_ring (G_X13_ring n) t x1 x2 x3 x4
    | _ => none
theorem GS_X13_ring (n : Nat) (t : TS) (x1 : Int32) (x2 : Int32) (x3 : Int32) (x4 : Int32) : G_X13_ring (n + 1) 0 t x1 x2 x3 x4 = Fb_X13_ring (G_X13_ring n) t x1 x2 x3 x4 := by simp only [G_X13_ring]
theorem TG_X13_ring {W : NW} {d : Nat} (hW : W.2.2.2 = mm_fx) : ∀ n, (∀ (t : TS) (x1 : Int32) (x2 : Int32) (x3 : Int32) (x4 : Int32) (bc bs : Nat) (Q : Option NV → TS → Prop), wp (G_X13_ring n 0 t x1 x2 x3 x4) (fun r => Q none r) → nC W (d + n + 2) 239 [eR (some (13, 0)), eI x1, eI x2, eI x3, eI x4] t bc bs Q) := by
  intro n
  induction n with
  | zero => exact fun t x1 x2 x3 x4 bc bs Q H => (wp_none H).elim
  | succ n ih =>
    have i0 := ih
    exact fun t x1 x2 x3 x4 bc bs Q H => TFb_X13_ring (d := d + n) hW i0 (by rw [GS_X13_ring] at H; exact H)
def F_X13_ring (t : TS) (x1 : Int32) (x2 : Int32) (x3 : Int32) (x4 : Int32) : Option TS := G_X13_ring 100 0 t x1 x2 x3 x4
theorem TF_X13_ring {W : NW} {d : Nat} {t : TS} {x1 : Int32} {x2 : Int32} {x3 : Int32} {x4 : Int32} {Q : Option NV → TS → Prop} {bc bs : Nat} (hW : W.2.2.2 = mm_fx) (H : wp (F_X13_ring t x1 x2 x3 x4) (fun r => Q none r)) : nC W (d + 102) 239 [eR (some (13, 0)), eI x1, eI x2, eI x3, eI x4] t bc bs Q := (TG_X13_ring (d := d) hW 100) t x1 x2 x3 x4 bc bs Q H
def F_X13_rings (t : TS) : Option (Int32 × TS) := (if ¬ (tI t 1375 0) = 0 then (nxt (uI t 1380 0 (-1)) (fun t21 => (Option.bind (F_X13_ring t21 0 0 0 0) (fun r22 => (nxt (uI r22 1379 0 (tI r22 1375 0)) (fun t23 => (nxt (uI t23 1375 0 0) (fun t24 => (some ((tI t24 1380 0), t24)))))))))) else (some ((-1), t)))
theorem TF_X13_rings {W : NW} {d : Nat} {t : TS} {Q : Option NV → TS → Prop} {bc bs : Nat} (hW : W.2.2.2 = mm_fx) (H : wp (F_X13_rings t) (fun r => Q (some (eI r.1)) r.2)) : nC W (d + 103) 240 [eR (some (13, 0))] t bc bs Q := by
  refine nC_in (d := (d + 102)) (T := tX13_rings) (ls := [some (eR (some (13, 0)))]) rfl (Nat.le_of_ble_eq_true rfl) rfl (fun a0 e0 => ?_)
  unfold F_X13_rings at H
  refine nx_ld rfl rfl rfl rfl ?_
  refine nx_getI rfl rfl rfl (by decide) ?_
  refine nx_if rfl rfl (by rfl) H (fun H => ?_) (fun H => ?_)
  · refine nx_ld rfl rfl rfl rfl ?_
    refine nx_int (x := (-1)) rfl rfl ?_
    refine nx_putI rfl rfl rfl (by decide) H (fun t21 H => ?_)
    refine nx_ld rfl rfl rfl rfl ?_
    refine nx_int (x := 0) rfl rfl ?_
    refine nx_int (x := 0) rfl rfl ?_
    refine nx_int (x := 0) rfl rfl ?_
    show nX _ _ _ _ _ _ 18 _ _ _ _ _
    refine nx_int (x := 0) rfl rfl ?_
    refine nx_cVVt (as := [eI 0, eI 0, eI 0, eI 0]) (st' := []) rfl rfl (Nat.le_of_ble_eq_true rfl) rfl rfl (Nat.le_of_ble_eq_true rfl) (c0 := 13) rfl (by decide) H (fun Q H => TF_X13_ring hW  H) (fun r22 H => ?_)
    refine nx_ld rfl rfl rfl rfl ?_
    refine nx_ld rfl rfl rfl rfl ?_
    refine nx_getI rfl rfl rfl (by decide) ?_
    refine nx_putI rfl rfl rfl (by decide) H (fun t23 H => ?_)
    refine nx_ld rfl rfl rfl rfl ?_
    refine nx_int (x := 0) rfl rfl ?_
    show nX _ _ _ _ _ _ 32 _ _ _ _ _
    refine nx_putI rfl rfl rfl (by decide) H (fun t24 H => ?_)
    refine nx_ld rfl rfl rfl rfl ?_
    refine nx_getI rfl rfl rfl (by decide) ?_
    exact nx_rit rfl rfl H
  refine nx_int (x := (-1)) rfl rfl ?_
  exact nx_rit rfl rfl H
def F_X13_gets (t : TS) (x1 : Int32) : Option Int32 := (Option.bind (F_X13_in t x1 0 ((tI t 1379 0) - 1)) (fun r21 => (if r21 = 0 then (some ((-1))) else (gd x1 (tL t 3378 0) (some ((tA t 3378 0 x1.toNatClampNeg)))))))
theorem TF_X13_gets {W : NW} {d : Nat} {t : TS} {x1 : Int32} {Q : Option NV → TS → Prop} {bc bs : Nat} (hW : W.2.2.2 = mm_fx) (H : wp (F_X13_gets t x1) (fun r => Q (some (eI r)) t)) : nC W (d + 2) 241 [eR (some (13, 0)), eI x1] t bc bs Q := by
  refine nC_in (d := (d + 1)) (T := tX13_gets) (ls := [some (eR (some (13, 0))), some (eI x1)]) rfl (Nat.le_of_ble_eq_true rfl) rfl (fun a0 e0 => ?_)
  unfold F_X13_gets at H
  refine nx_ld rfl rfl rfl rfl ?_
  refine nx_int (x := 0) rfl rfl ?_
  refine nx_ld rfl rfl rfl rfl ?_
  refine nx_getI rfl rfl rfl (by decide) ?_
  refine nx_int (x := 1) rfl rfl ?_
  refine nx_ii rfl rfl ?_
  refine nx_cSI (as := [eI x1, eI 0, eI ((tI t 1379 0) - 1)]) (st' := []) rfl rfl (Nat.le_of_ble_eq_true rfl) rfl rfl (Nat.le_of_ble_eq_true rfl) H (fun Q H => TF_X13_in hW  H) (fun r21 H => ?_)
  show nX _ _ _ _ _ _ 11 _ _ _ _ _
  refine nx_if rfl rfl (by rfl) H (fun H => ?_) (fun H => ?_)
  · refine nx_int (x := (-1)) rfl rfl ?_
    exact nx_ri rfl rfl H
  refine nx_ld rfl rfl rfl rfl ?_
  refine nx_getFix rfl rfl rfl (by decide) (by rw [hW]; rfl) rfl ?_
  refine nx_ld rfl rfl rfl rfl ?_
  refine nx_iald (p := (3378, 0)) rfl rfl (Nat.le_of_ble_eq_true rfl) (Nat.le_of_ble_eq_true rfl) rfl H (fun H => ?_)
  refine nx_goto rfl rfl ?_
  exact nx_ri rfl rfl H
def F_X13_candidate (t : TS) (x1 : Int32) (x2 : Int32) : Option (Int32 × TS) := (Option.bind (F_X13_in t x1 0 999913) (fun r21 => (if r21 = 0 then (some ((-1), t)) else (if 1 < (irm (x1 / 10) 10) then (some ((-1), t)) else (if 3 < (irm x1 10) then (some ((-1), t)) else (Option.bind (F_X13_in t x2 0 99999) (fun r22 => (if ¬ r22 = 0 then (if ¬ (tI t 1381 0) = 10 then (gd (tI t 1381 0) (tL t 3382 0) (nxt (uA t 3382 0 (tI t 1381 0).toNatClampNeg (x1 / 100)) (fun t23 => (gd (tI t23 1381 0) (tL t23 3383 0) (nxt (uA t23 3383 0 (tI t23 1381 0).toNatClampNeg (irm (x1 / 10) 10)) (fun t24 => (gd (tI t24 1381 0) (tL t24 3384 0) (nxt (uA t24 3384 0 (tI t24 1381 0).toNatClampNeg (irm x1 10)) (fun t25 => (gd (tI t25 1381 0) (tL t25 3385 0) (nxt (uA t25 3385 0 (tI t25 1381 0).toNatClampNeg x2) (fun t26 => (nxt (uI t26 1381 0 ((tI t26 1381 0) + 1)) (fun t27 => (some ((tI t27 1381 0), t27)))))))))))))))) else (some ((-3), t))) else (some ((-1), t))))))))))
theorem TF_X13_candidate {W : NW} {d : Nat} {t : TS} {x1 : Int32} {x2 : Int32} {Q : Option NV → TS → Prop} {bc bs : Nat} (hW : W.2.2.2 = mm_fx) (H : wp (F_X13_candidate t x1 x2) (fun r => Q (some (eI r.1)) r.2)) : nC W (d + 2) 242 [eR (some (13, 0)), eI x1, eI x2] t bc bs Q := by
  refine nC_in (d := (d + 1)) (T := tX13_candidate) (ls := [some (eR (some (13, 0))), some (eI x1), some (eI x2)]) rfl (Nat.le_of_ble_eq_true rfl) rfl (fun a0 e0 => ?_)
  unfold F_X13_candidate at H
  refine nx_ld rfl rfl rfl rfl ?_
  refine nx_int (x := 0) rfl rfl ?_
  refine nx_int (x := 999913) rfl rfl ?_
  refine nx_cSI (as := [eI x1, eI 0, eI 999913]) (st' := []) rfl rfl (Nat.le_of_ble_eq_true rfl) rfl rfl (Nat.le_of_ble_eq_true rfl) H (fun Q H => TF_X13_in hW  H) (fun r21 H => ?_)
  refine nx_if rfl rfl (by rfl) H (fun H => ?_) (fun H => ?_)
  · refine nx_int (x := (-1)) rfl rfl ?_
    exact nx_rit rfl rfl H
  refine nx_ld rfl rfl rfl rfl ?_
  refine nx_int (x := 10) rfl rfl ?_
  refine nx_idivL rfl rfl (by decide) ?_
  refine nx_int (x := 10) rfl rfl ?_
  refine nx_idivL rfl rfl (by decide) ?_
  refine nx_int (x := 1) rfl rfl ?_
  refine nx_icmp rfl rfl (by rfl) H (fun H => ?_) (fun H => ?_)
  · refine nx_int (x := (-1)) rfl rfl ?_
    exact nx_rit rfl rfl H
  refine nx_ld rfl rfl rfl rfl ?_
  refine nx_int (x := 10) rfl rfl ?_
  refine nx_idivL rfl rfl (by decide) ?_
  refine nx_int (x := 3) rfl rfl ?_
  refine nx_icmp rfl rfl (by rfl) H (fun H => ?_) (fun H => ?_)
  · refine nx_int (x := (-1)) rfl rfl ?_
    exact nx_rit rfl rfl H
  refine nx_ld rfl rfl rfl rfl ?_
  refine nx_int (x := 0) rfl rfl ?_
  refine nx_int (x := 99999) rfl rfl ?_
  refine nx_cSI (as := [eI x2, eI 0, eI 99999]) (st' := []) rfl rfl (Nat.le_of_ble_eq_true rfl) rfl rfl (Nat.le_of_ble_eq_true rfl) H (fun Q H => TF_X13_in hW  H) (fun r22 H => ?_)
  refine nx_if rfl rfl (by rfl) H (fun H => ?_) (fun H => ?_)
  · refine nx_ld rfl rfl rfl rfl ?_
    refine nx_getI rfl rfl rfl (by decide) ?_
    refine nx_int (x := 10) rfl rfl ?_
    refine nx_icmp rfl rfl (by rfl) H (fun H => ?_) (fun H => ?_)
    · refine nx_ld rfl rfl rfl rfl ?_
      refine nx_getFix rfl rfl rfl (by decide) (by rw [hW]; rfl) rfl ?_
      refine nx_ld rfl rfl rfl rfl ?_
      refine nx_getI rfl rfl rfl (by decide) ?_
      refine nx_ld rfl rfl rfl rfl ?_
      refine nx_int (x := 100) rfl rfl ?_
      refine nx_idivL rfl rfl (by decide) ?_
      show nX _ _ _ _ _ _ 67 _ _ _ _ _
      refine nx_iast (p := (3382, 0)) rfl rfl (Nat.le_of_ble_eq_true rfl) (Nat.le_of_ble_eq_true rfl) rfl H (fun t23 H => ?_)
      refine nx_ld rfl rfl rfl rfl ?_
      refine nx_getFix rfl rfl rfl (by decide) (by rw [hW]; rfl) rfl ?_
      refine nx_ld rfl rfl rfl rfl ?_
      refine nx_getI rfl rfl rfl (by decide) ?_
      refine nx_ld rfl rfl rfl rfl ?_
      refine nx_int (x := 10) rfl rfl ?_
      refine nx_idivL rfl rfl (by decide) ?_
      show nX _ _ _ _ _ _ 80 _ _ _ _ _
      refine nx_int (x := 10) rfl rfl ?_
      refine nx_idivL rfl rfl (by decide) ?_
      refine nx_iast (p := (3383, 0)) rfl rfl (Nat.le_of_ble_eq_true rfl) (Nat.le_of_ble_eq_true rfl) rfl H (fun t24 H => ?_)
      refine nx_ld rfl rfl rfl rfl ?_
      refine nx_getFix rfl rfl rfl (by decide) (by rw [hW]; rfl) rfl ?_
      refine nx_ld rfl rfl rfl rfl ?_
      refine nx_getI rfl rfl rfl (by decide) ?_
      refine nx_ld rfl rfl rfl rfl ?_
      show nX _ _ _ _ _ _ 93 _ _ _ _ _
      refine nx_int (x := 10) rfl rfl ?_
      refine nx_idivL rfl rfl (by decide) ?_
      refine nx_iast (p := (3384, 0)) rfl rfl (Nat.le_of_ble_eq_true rfl) (Nat.le_of_ble_eq_true rfl) rfl H (fun t25 H => ?_)
      refine nx_ld rfl rfl rfl rfl ?_
      refine nx_getFix rfl rfl rfl (by decide) (by rw [hW]; rfl) rfl ?_
      refine nx_ld rfl rfl rfl rfl ?_
      refine nx_getI rfl rfl rfl (by decide) ?_
      refine nx_ld rfl rfl rfl rfl ?_
      show nX _ _ _ _ _ _ 106 _ _ _ _ _
      refine nx_iast (p := (3385, 0)) rfl rfl (Nat.le_of_ble_eq_true rfl) (Nat.le_of_ble_eq_true rfl) rfl H (fun t26 H => ?_)
      refine nx_ld rfl rfl rfl rfl ?_
      refine nx_dup rfl rfl (Nat.ne_of_beq_eq_false rfl) ?_
      refine nx_getI rfl rfl rfl (by decide) ?_
      refine nx_int (x := 1) rfl rfl ?_
      refine nx_ii rfl rfl ?_
      refine nx_putI rfl rfl rfl (by decide) H (fun t27 H => ?_)
      refine nx_ld rfl rfl rfl rfl ?_
      show nX _ _ _ _ _ _ 118 _ _ _ _ _
      refine nx_getI rfl rfl rfl (by decide) ?_
      exact nx_rit rfl rfl H
    refine nx_int (x := (-3)) rfl rfl ?_
    exact nx_rit rfl rfl H
  refine nx_int (x := (-1)) rfl rfl ?_
  exact nx_rit rfl rfl H
def F_X13_digitOf (t : TS) (x1 : Int32) (x2 : Int32) : Option Int32 := (if ¬ x2 = 0 then (if ¬ x2 = 1 then (if ¬ x2 = 2 then (some ((irm x1 10))) else (some ((irm (x1 / 10) 10)))) else (some ((irm (x1 / 100) 10)))) else (some ((x1 / 1000))))
theorem TF_X13_digitOf {W : NW} {d : Nat} {t : TS} {x1 : Int32} {x2 : Int32} {Q : Option NV → TS → Prop} {bc bs : Nat} (hW : W.2.2.2 = mm_fx) (H : wp (F_X13_digitOf t x1 x2) (fun r => Q (some (eI r)) t)) : nC W (d + 1) 243 [eI x1, eI x2] t bc bs Q := by
  refine nC_in (d := d) (T := tX13_digitOf) (ls := [some (eI x1), some (eI x2)]) rfl (Nat.le_of_ble_eq_true rfl) rfl (fun a0 e0 => ?_)
  unfold F_X13_digitOf at H
  refine nx_ld rfl rfl rfl rfl ?_
  refine nx_if rfl rfl (by rfl) H (fun H => ?_) (fun H => ?_)
  · refine nx_ld rfl rfl rfl rfl ?_
    refine nx_int (x := 1) rfl rfl ?_
    refine nx_icmp rfl rfl (by rfl) H (fun H => ?_) (fun H => ?_)
    · refine nx_ld rfl rfl rfl rfl ?_
      refine nx_int (x := 2) rfl rfl ?_
      refine nx_icmp rfl rfl (by rfl) H (fun H => ?_) (fun H => ?_)
      · refine nx_ld rfl rfl rfl rfl ?_
        refine nx_int (x := 10) rfl rfl ?_
        refine nx_idivL rfl rfl (by decide) ?_
        exact nx_ri rfl rfl H
      refine nx_ld rfl rfl rfl rfl ?_
      refine nx_int (x := 10) rfl rfl ?_
      refine nx_idivL rfl rfl (by decide) ?_
      refine nx_int (x := 10) rfl rfl ?_
      refine nx_idivL rfl rfl (by decide) ?_
      refine nx_goto rfl rfl ?_
      exact nx_ri rfl rfl H
    refine nx_ld rfl rfl rfl rfl ?_
    refine nx_int (x := 100) rfl rfl ?_
    refine nx_idivL rfl rfl (by decide) ?_
    refine nx_int (x := 10) rfl rfl ?_
    refine nx_idivL rfl rfl (by decide) ?_
    refine nx_goto rfl rfl ?_
    exact nx_ri rfl rfl H
  refine nx_ld rfl rfl rfl rfl ?_
  refine nx_int (x := 1000) rfl rfl ?_
  refine nx_idivL rfl rfl (by decide) ?_
  refine nx_goto rfl rfl ?_
  exact nx_ri rfl rfl H
def B_X13_fits_150 (k91 : TS → Int32 → Int32 → Int32 → Option Int32) (t : TS) (v1 : Int32) (v4 : Int32) (v7 : Int32) (v8 : Int32) : Option Int32 := (Option.bind (F_X13_digitOf t v4 v7) (fun r21 => (if r21 ≤ v8 then (k91 t v1 v4 (v7 + 1)) else (some (0)))))
theorem TB_X13_fits_150 {W : NW} {d : Nat} {Q : Option NV → TS → Prop} {a0 : Nat → Nat → Nat} {e0 : Nat → Nat → Bool} {t : TS} {k91 : TS → Int32 → Int32 → Int32 → Option Int32} {bc bs : Nat} (hW : W.2.2.2 = mm_fx) (hk91 : ∀ (v1 : Int32) (v2 : Int32) (v3 : Int32) (v4 : Int32) (v5 : Int32) (v6 : Int32) (v7 : Int32) (v8 : Option NV) (v9 : Option NV), wp (k91 t v1 v4 v7) (fun r => Q (some (eI r)) t) → nX W (d + 1) tX13_fits Q a0 e0 91 [some (eR (some (13, 0))), some (eI v1), some (eI v2), some (eI v3), some (eI v4), some (eI v5), some (eI v6), some (eI v7), v8, v9] [] t bc bs) : ∀ (v1 : Int32) (v2 : Int32) (v3 : Int32) (v4 : Int32) (v5 : Int32) (v6 : Int32) (v7 : Int32) (v8 : Int32) (v9 : Int32), wp (B_X13_fits_150 k91 t v1 v4 v7 v8) (fun r => Q (some (eI r)) t) → nX W (d + 1) tX13_fits Q a0 e0 150 [some (eR (some (13, 0))), some (eI v1), some (eI v2), some (eI v3), some (eI v4), some (eI v5), some (eI v6), some (eI v7), some (eI v8), some (eI v9)] [] t bc bs := by
  intro v1 v2 v3 v4 v5 v6 v7 v8 v9 H
  unfold B_X13_fits_150 at H
  refine nx_ld rfl rfl rfl rfl ?_
  refine nx_ld rfl rfl rfl rfl ?_
  refine nx_ld rfl rfl rfl rfl ?_
  refine nx_cSI (as := [eI v4, eI v7]) (st' := [eI v8]) rfl rfl (Nat.le_of_ble_eq_true rfl) rfl rfl (Nat.le_of_ble_eq_true rfl) H (fun Q H => TF_X13_digitOf hW  H) (fun r21 H => ?_)
  refine nx_icmp rfl rfl (by rfl) H (fun H => ?_) (fun H => ?_)
  · refine nx_iinc2 1 (ls' := [some (eR (some (13, 0))), some (eI v1), some (eI v2), some (eI v3), some (eI v4), some (eI v5), some (eI v6), some (eI (v7 + 1)), some (eI v8), some (eI v9)]) rfl rfl rfl rfl rfl ?_
    refine nx_goto rfl rfl ?_
    exact hk91 _ _ _ _ _ _ _ _ _ H
  refine nx_int (x := 0) rfl rfl ?_
  exact nx_rzl rfl rfl (by decide) H
def B_X13_fits_141 (k91 : TS → Int32 → Int32 → Int32 → Option Int32) (k103 : TS → Int32 → Int32 → Int32 → Int32 → Int32 → Option Int32) (t : TS) (v1 : Int32) (v4 : Int32) (v7 : Int32) (v9 : Int32) (s0 : Int32) (s1 : Int32) : Option Int32 := (k103 t v1 v4 v7 (s1 + s0) (v9 + 1))
theorem TB_X13_fits_141 {W : NW} {d : Nat} {Q : Option NV → TS → Prop} {a0 : Nat → Nat → Nat} {e0 : Nat → Nat → Bool} {t : TS} {k91 : TS → Int32 → Int32 → Int32 → Option Int32} {k103 : TS → Int32 → Int32 → Int32 → Int32 → Int32 → Option Int32} {bc bs : Nat} (hW : W.2.2.2 = mm_fx) (hk91 : ∀ (v1 : Int32) (v2 : Int32) (v3 : Int32) (v4 : Int32) (v5 : Int32) (v6 : Int32) (v7 : Int32) (v8 : Option NV) (v9 : Option NV), wp (k91 t v1 v4 v7) (fun r => Q (some (eI r)) t) → nX W (d + 1) tX13_fits Q a0 e0 91 [some (eR (some (13, 0))), some (eI v1), some (eI v2), some (eI v3), some (eI v4), some (eI v5), some (eI v6), some (eI v7), v8, v9] [] t bc bs) (hk103 : ∀ (v1 : Int32) (v2 : Int32) (v3 : Int32) (v4 : Int32) (v5 : Int32) (v6 : Int32) (v7 : Int32) (v8 : Int32) (v9 : Int32), wp (k103 t v1 v4 v7 v8 v9) (fun r => Q (some (eI r)) t) → nX W (d + 1) tX13_fits Q a0 e0 103 [some (eR (some (13, 0))), some (eI v1), some (eI v2), some (eI v3), some (eI v4), some (eI v5), some (eI v6), some (eI v7), some (eI v8), some (eI v9)] [] t bc bs) : ∀ (v1 : Int32) (v2 : Int32) (v3 : Int32) (v4 : Int32) (v5 : Int32) (v6 : Int32) (v7 : Int32) (v8 : Int32) (v9 : Int32) (s0 : Int32) (s1 : Int32), wp (B_X13_fits_141 k91 k103 t v1 v4 v7 v9 s0 s1) (fun r => Q (some (eI r)) t) → nX W (d + 1) tX13_fits Q a0 e0 141 [some (eR (some (13, 0))), some (eI v1), some (eI v2), some (eI v3), some (eI v4), some (eI v5), some (eI v6), some (eI v7), some (eI v8), some (eI v9)] [eI s0, eI s1] t bc bs := by
  intro v1 v2 v3 v4 v5 v6 v7 v8 v9 s0 s1 H
  unfold B_X13_fits_141 at H
  refine nx_ii rfl rfl ?_
  refine nx_st (ls' := [some (eR (some (13, 0))), some (eI v1), some (eI v2), some (eI v3), some (eI v4), some (eI v5), some (eI v6), some (eI v7), some (eI (s1 + s0)), some (eI v9)]) rfl rfl rfl (Nat.le_of_ble_eq_true rfl) rfl ?_
  refine nx_iinc2 1 (ls' := [some (eR (some (13, 0))), some (eI v1), some (eI v2), some (eI v3), some (eI v4), some (eI v5), some (eI v6), some (eI v7), some (eI (s1 + s0)), some (eI (v9 + 1))]) rfl rfl rfl rfl rfl ?_
  refine nx_goto rfl rfl ?_
  exact hk103 _ _ _ _ _ _ _ _ _ H
def B_X13_fits_140 (k91 : TS → Int32 → Int32 → Int32 → Option Int32) (k103 : TS → Int32 → Int32 → Int32 → Int32 → Int32 → Option Int32) (t : TS) (v1 : Int32) (v4 : Int32) (v7 : Int32) (v9 : Int32) (s0 : Int32) : Option Int32 := (B_X13_fits_141 k91 k103 t v1 v4 v7 v9 0 s0)
theorem TB_X13_fits_140 {W : NW} {d : Nat} {Q : Option NV → TS → Prop} {a0 : Nat → Nat → Nat} {e0 : Nat → Nat → Bool} {t : TS} {k91 : TS → Int32 → Int32 → Int32 → Option Int32} {k103 : TS → Int32 → Int32 → Int32 → Int32 → Int32 → Option Int32} {bc bs : Nat} (hW : W.2.2.2 = mm_fx) (hk91 : ∀ (v1 : Int32) (v2 : Int32) (v3 : Int32) (v4 : Int32) (v5 : Int32) (v6 : Int32) (v7 : Int32) (v8 : Option NV) (v9 : Option NV), wp (k91 t v1 v4 v7) (fun r => Q (some (eI r)) t) → nX W (d + 1) tX13_fits Q a0 e0 91 [some (eR (some (13, 0))), some (eI v1), some (eI v2), some (eI v3), some (eI v4), some (eI v5), some (eI v6), some (eI v7), v8, v9] [] t bc bs) (hk103 : ∀ (v1 : Int32) (v2 : Int32) (v3 : Int32) (v4 : Int32) (v5 : Int32) (v6 : Int32) (v7 : Int32) (v8 : Int32) (v9 : Int32), wp (k103 t v1 v4 v7 v8 v9) (fun r => Q (some (eI r)) t) → nX W (d + 1) tX13_fits Q a0 e0 103 [some (eR (some (13, 0))), some (eI v1), some (eI v2), some (eI v3), some (eI v4), some (eI v5), some (eI v6), some (eI v7), some (eI v8), some (eI v9)] [] t bc bs) : ∀ (v1 : Int32) (v2 : Int32) (v3 : Int32) (v4 : Int32) (v5 : Int32) (v6 : Int32) (v7 : Int32) (v8 : Int32) (v9 : Int32) (s0 : Int32), wp (B_X13_fits_140 k91 k103 t v1 v4 v7 v9 s0) (fun r => Q (some (eI r)) t) → nX W (d + 1) tX13_fits Q a0 e0 140 [some (eR (some (13, 0))), some (eI v1), some (eI v2), some (eI v3), some (eI v4), some (eI v5), some (eI v6), some (eI v7), some (eI v8), some (eI v9)] [eI s0] t bc bs := by
  intro v1 v2 v3 v4 v5 v6 v7 v8 v9 s0 H
  unfold B_X13_fits_140 at H
  refine nx_int (x := 0) rfl rfl ?_
  exact TB_X13_fits_141 hW   hk91 hk103 _ _ _ _ _ _ _ _ _ _ _ H
def BB_X13_fits_103 (k91 : TS → Int32 → Int32 → Int32 → Option Int32) (k103 : TS → Int32 → Int32 → Int32 → Int32 → Int32 → Option Int32) (t : TS) (v1 : Int32) (v4 : Int32) (v7 : Int32) (v8 : Int32) (v9 : Int32) : Option Int32 := (if (tI t 1381 0) ≤ v9 then (B_X13_fits_150 k91 t v1 v4 v7 v8) else (if ¬ ((v1 >>> (v9 &&& 31)) &&& 1) = 1 then (B_X13_fits_140 k91 k103 t v1 v4 v7 v9 v8) else (gd v9 (tL t 3384 0) (if ¬ (tA t 3384 0 v9.toNatClampNeg) = v7 then (B_X13_fits_140 k91 k103 t v1 v4 v7 v9 v8) else (B_X13_fits_141 k91 k103 t v1 v4 v7 v9 1 v8)))))
theorem TBB_X13_fits_103 {W : NW} {d : Nat} {Q : Option NV → TS → Prop} {a0 : Nat → Nat → Nat} {e0 : Nat → Nat → Bool} {t : TS} {k91 : TS → Int32 → Int32 → Int32 → Option Int32} {k103 : TS → Int32 → Int32 → Int32 → Int32 → Int32 → Option Int32} {bc bs : Nat} (hW : W.2.2.2 = mm_fx) (hk91 : ∀ (v1 : Int32) (v2 : Int32) (v3 : Int32) (v4 : Int32) (v5 : Int32) (v6 : Int32) (v7 : Int32) (v8 : Option NV) (v9 : Option NV), wp (k91 t v1 v4 v7) (fun r => Q (some (eI r)) t) → nX W (d + 1) tX13_fits Q a0 e0 91 [some (eR (some (13, 0))), some (eI v1), some (eI v2), some (eI v3), some (eI v4), some (eI v5), some (eI v6), some (eI v7), v8, v9] [] t bc bs) (hk103 : ∀ (v1 : Int32) (v2 : Int32) (v3 : Int32) (v4 : Int32) (v5 : Int32) (v6 : Int32) (v7 : Int32) (v8 : Int32) (v9 : Int32), wp (k103 t v1 v4 v7 v8 v9) (fun r => Q (some (eI r)) t) → nX W (d + 1) tX13_fits Q a0 e0 103 [some (eR (some (13, 0))), some (eI v1), some (eI v2), some (eI v3), some (eI v4), some (eI v5), some (eI v6), some (eI v7), some (eI v8), some (eI v9)] [] t bc bs) : ∀ (v1 : Int32) (v2 : Int32) (v3 : Int32) (v4 : Int32) (v5 : Int32) (v6 : Int32) (v7 : Int32) (v8 : Int32) (v9 : Int32), wp (BB_X13_fits_103 k91 k103 t v1 v4 v7 v8 v9) (fun r => Q (some (eI r)) t) → nX W (d + 1) tX13_fits Q a0 e0 103 [some (eR (some (13, 0))), some (eI v1), some (eI v2), some (eI v3), some (eI v4), some (eI v5), some (eI v6), some (eI v7), some (eI v8), some (eI v9)] [] t bc bs := by
  intro v1 v2 v3 v4 v5 v6 v7 v8 v9 H
  unfold BB_X13_fits_103 at H
  refine nx_ld rfl rfl rfl rfl ?_
  refine nx_ld rfl rfl rfl rfl ?_
  refine nx_getI rfl rfl rfl (by decide) ?_
  refine nx_icmp rfl rfl (by rfl) H (fun H => ?_) (fun H => ?_)
  · exact TB_X13_fits_150 hW   hk91 _ _ _ _ _ _ _ _ _ H
  refine nx_ld rfl rfl rfl rfl ?_
  refine nx_ld rfl rfl rfl rfl ?_
  refine nx_ld rfl rfl rfl rfl ?_
  refine nx_ii rfl rfl ?_
  refine nx_int (x := 1) rfl rfl ?_
  refine nx_ii rfl rfl ?_
  refine nx_int (x := 1) rfl rfl ?_
  show nX _ _ _ _ _ _ 121 _ _ _ _ _
  refine nx_icmp rfl rfl (by rfl) H (fun H => ?_) (fun H => ?_)
  · exact TB_X13_fits_140 hW   hk91 hk103 _ _ _ _ _ _ _ _ _ _ H
  refine nx_ld rfl rfl rfl rfl ?_
  refine nx_getFix rfl rfl rfl (by decide) (by rw [hW]; rfl) rfl ?_
  refine nx_ld rfl rfl rfl rfl ?_
  refine nx_iald (p := (3384, 0)) rfl rfl (Nat.le_of_ble_eq_true rfl) (Nat.le_of_ble_eq_true rfl) rfl H (fun H => ?_)
  refine nx_ld rfl rfl rfl rfl ?_
  refine nx_icmp rfl rfl (by rfl) H (fun H => ?_) (fun H => ?_)
  · exact TB_X13_fits_140 hW   hk91 hk103 _ _ _ _ _ _ _ _ _ _ H
  refine nx_int (x := 1) rfl rfl ?_
  refine nx_goto rfl rfl ?_
  exact TB_X13_fits_141 hW   hk91 hk103 _ _ _ _ _ _ _ _ _ _ _ H
def B_X13_fits_103 (k91 : TS → Int32 → Int32 → Int32 → Option Int32) : Nat → TS → Int32 → Int32 → Int32 → Int32 → Int32 → Option Int32
  | 0 => fun _ _ _ _ _ _ => none
  | n + 1 => fun t v1 v4 v7 v8 v9 => BB_X13_fits_103 k91 (B_X13_fits_103 k91 n) t v1 v4 v7 v8 v9
theorem TB_X13_fits_103 {W : NW} {d : Nat} {Q : Option NV → TS → Prop} {a0 : Nat → Nat → Nat} {e0 : Nat → Nat → Bool} {t : TS} {k91 : TS → Int32 → Int32 → Int32 → Option Int32} {bc bs : Nat} (hW : W.2.2.2 = mm_fx) (hk91 : ∀ (v1 : Int32) (v2 : Int32) (v3 : Int32) (v4 : Int32) (v5 : Int32) (v6 : Int32) (v7 : Int32) (v8 : Option NV) (v9 : Option NV), wp (k91 t v1 v4 v7) (fun r => Q (some (eI r)) t) → nX W (d + 1) tX13_fits Q a0 e0 91 [some (eR (some (13, 0))), some (eI v1), some (eI v2), some (eI v3), some (eI v4), some (eI v5), some (eI v6), some (eI v7), v8, v9] [] t bc bs) : ∀ (n : Nat) (v1 : Int32) (v2 : Int32) (v3 : Int32) (v4 : Int32) (v5 : Int32) (v6 : Int32) (v7 : Int32) (v8 : Int32) (v9 : Int32), wp (B_X13_fits_103 k91 n t v1 v4 v7 v8 v9) (fun r => Q (some (eI r)) t) → nX W (d + 1) tX13_fits Q a0 e0 103 [some (eR (some (13, 0))), some (eI v1), some (eI v2), some (eI v3), some (eI v4), some (eI v5), some (eI v6), some (eI v7), some (eI v8), some (eI v9)] [] t bc bs := by
  intro n
  induction n with
  | zero => intro v1 v2 v3 v4 v5 v6 v7 v8 v9 H; exact (wp_none H).elim
  | succ n ih =>
    intro v1 v2 v3 v4 v5 v6 v7 v8 v9 H
    exact TBB_X13_fits_103 hW   hk91 ih v1 v2 v3 v4 v5 v6 v7 v8 v9 H
def BB_X13_fits_91 (k91 : TS → Int32 → Int32 → Int32 → Option Int32) (t : TS) (v1 : Int32) (v4 : Int32) (v7 : Int32) : Option Int32 := (if 4 ≤ v7 then (some (1)) else (B_X13_fits_103 k91 10000 t v1 v4 v7 0 0))
theorem TBB_X13_fits_91 {W : NW} {d : Nat} {Q : Option NV → TS → Prop} {a0 : Nat → Nat → Nat} {e0 : Nat → Nat → Bool} {t : TS} {k91 : TS → Int32 → Int32 → Int32 → Option Int32} {bc bs : Nat} (hW : W.2.2.2 = mm_fx) (hk91 : ∀ (v1 : Int32) (v2 : Int32) (v3 : Int32) (v4 : Int32) (v5 : Int32) (v6 : Int32) (v7 : Int32) (v8 : Option NV) (v9 : Option NV), wp (k91 t v1 v4 v7) (fun r => Q (some (eI r)) t) → nX W (d + 1) tX13_fits Q a0 e0 91 [some (eR (some (13, 0))), some (eI v1), some (eI v2), some (eI v3), some (eI v4), some (eI v5), some (eI v6), some (eI v7), v8, v9] [] t bc bs) : ∀ (v1 : Int32) (v2 : Int32) (v3 : Int32) (v4 : Int32) (v5 : Int32) (v6 : Int32) (v7 : Int32) (v8 : Option NV) (v9 : Option NV), wp (BB_X13_fits_91 k91 t v1 v4 v7) (fun r => Q (some (eI r)) t) → nX W (d + 1) tX13_fits Q a0 e0 91 [some (eR (some (13, 0))), some (eI v1), some (eI v2), some (eI v3), some (eI v4), some (eI v5), some (eI v6), some (eI v7), v8, v9] [] t bc bs := by
  intro v1 v2 v3 v4 v5 v6 v7 v8 v9 H
  unfold BB_X13_fits_91 at H
  refine nx_ld rfl rfl rfl rfl ?_
  refine nx_int (x := 4) rfl rfl ?_
  refine nx_icmp rfl rfl (by rfl) H (fun H => ?_) (fun H => ?_)
  · refine nx_int (x := 1) rfl rfl ?_
    exact nx_rzl rfl rfl (by decide) H
  refine nx_int (x := 0) rfl rfl ?_
  refine nx_st (ls' := [some (eR (some (13, 0))), some (eI v1), some (eI v2), some (eI v3), some (eI v4), some (eI v5), some (eI v6), some (eI v7), some (eI 0), v9]) rfl rfl rfl (Nat.le_of_ble_eq_true rfl) rfl ?_
  refine nx_int (x := 0) rfl rfl ?_
  refine nx_st (ls' := [some (eR (some (13, 0))), some (eI v1), some (eI v2), some (eI v3), some (eI v4), some (eI v5), some (eI v6), some (eI v7), some (eI 0), some (eI 0)]) rfl rfl rfl (Nat.le_of_ble_eq_true rfl) rfl ?_
  exact TB_X13_fits_103 hW   hk91 10000 _ _ _ _ _ _ _ _ _ H
def B_X13_fits_91 : Nat → TS → Int32 → Int32 → Int32 → Option Int32
  | 0 => fun _ _ _ _ => none
  | n + 1 => fun t v1 v4 v7 => BB_X13_fits_91 (B_X13_fits_91 n) t v1 v4 v7
theorem TB_X13_fits_91 {W : NW} {d : Nat} {Q : Option NV → TS → Prop} {a0 : Nat → Nat → Nat} {e0 : Nat → Nat → Bool} {t : TS} {bc bs : Nat} (hW : W.2.2.2 = mm_fx) : ∀ (n : Nat) (v1 : Int32) (v2 : Int32) (v3 : Int32) (v4 : Int32) (v5 : Int32) (v6 : Int32) (v7 : Int32) (v8 : Option NV) (v9 : Option NV), wp (B_X13_fits_91 n t v1 v4 v7) (fun r => Q (some (eI r)) t) → nX W (d + 1) tX13_fits Q a0 e0 91 [some (eR (some (13, 0))), some (eI v1), some (eI v2), some (eI v3), some (eI v4), some (eI v5), some (eI v6), some (eI v7), v8, v9] [] t bc bs := by
  intro n
  induction n with
  | zero => intro v1 v2 v3 v4 v5 v6 v7 v8 v9 H; exact (wp_none H).elim
  | succ n ih =>
    intro v1 v2 v3 v4 v5 v6 v7 v8 v9 H
    exact TBB_X13_fits_91 hW    ih v1 v2 v3 v4 v5 v6 v7 v8 v9 H
def B_X13_fits_60 (t : TS) (v1 : Int32) (v2 : Int32) (v3 : Int32) (v4 : Int32) (v5 : Int32) (v6 : Int32) : Option Int32 := (if v2 < v5 then (some (0)) else (Option.bind (F_X13_bitsOf t v1) (fun r21 => (if (v3 / 10) < r21 then (some (0)) else (if (irm v3 10) ≤ v6 then (B_X13_fits_91  10000 t v1 v4 0) else (some (0)))))))
theorem TB_X13_fits_60 {W : NW} {d : Nat} {Q : Option NV → TS → Prop} {a0 : Nat → Nat → Nat} {e0 : Nat → Nat → Bool} {t : TS} {bc bs : Nat} (hW : W.2.2.2 = mm_fx) : ∀ (v1 : Int32) (v2 : Int32) (v3 : Int32) (v4 : Int32) (v5 : Int32) (v6 : Int32) (v7 : Int32), wp (B_X13_fits_60 t v1 v2 v3 v4 v5 v6) (fun r => Q (some (eI r)) t) → nX W (d + 1) tX13_fits Q a0 e0 60 [some (eR (some (13, 0))), some (eI v1), some (eI v2), some (eI v3), some (eI v4), some (eI v5), some (eI v6), some (eI v7), none, none] [] t bc bs := by
  intro v1 v2 v3 v4 v5 v6 v7 H
  unfold B_X13_fits_60 at H
  refine nx_ld rfl rfl rfl rfl ?_
  refine nx_ld rfl rfl rfl rfl ?_
  refine nx_icmp rfl rfl (by rfl) H (fun H => ?_) (fun H => ?_)
  · refine nx_int (x := 0) rfl rfl ?_
    exact nx_rzl rfl rfl (by decide) H
  refine nx_ld rfl rfl rfl rfl ?_
  refine nx_cSI (as := [eI v1]) (st' := []) rfl rfl (Nat.le_of_ble_eq_true rfl) rfl rfl (Nat.le_of_ble_eq_true rfl) H (fun Q H => TF_X13_bitsOf hW  H) (fun r21 H => ?_)
  refine nx_ld rfl rfl rfl rfl ?_
  refine nx_int (x := 10) rfl rfl ?_
  refine nx_idivL rfl rfl (by decide) ?_
  refine nx_icmp rfl rfl (by rfl) H (fun H => ?_) (fun H => ?_)
  · refine nx_int (x := 0) rfl rfl ?_
    exact nx_rzl rfl rfl (by decide) H
  refine nx_ld rfl rfl rfl rfl ?_
  refine nx_ld rfl rfl rfl rfl ?_
  refine nx_int (x := 10) rfl rfl ?_
  refine nx_idivL rfl rfl (by decide) ?_
  refine nx_icmp rfl rfl (by rfl) H (fun H => ?_) (fun H => ?_)
  · refine nx_int (x := 0) rfl rfl ?_
    refine nx_st (ls' := [some (eR (some (13, 0))), some (eI v1), some (eI v2), some (eI v3), some (eI v4), some (eI v5), some (eI v6), some (eI 0), none, none]) rfl rfl rfl (Nat.le_of_ble_eq_true rfl) rfl ?_
    exact TB_X13_fits_91 hW    10000 _ _ _ _ _ _ _ _ _ H
  refine nx_int (x := 0) rfl rfl ?_
  exact nx_rzl rfl rfl (by decide) H
def B_X13_fits_54 (k9 : TS → Int32 → Int32 → Int32 → Int32 → Int32 → Int32 → Int32 → Option Int32) (t : TS) (v1 : Int32) (v2 : Int32) (v3 : Int32) (v4 : Int32) (v5 : Int32) (v6 : Int32) (v7 : Int32) : Option Int32 := (k9 t v1 v2 v3 v4 v5 v6 (v7 + 1))
theorem TB_X13_fits_54 {W : NW} {d : Nat} {Q : Option NV → TS → Prop} {a0 : Nat → Nat → Nat} {e0 : Nat → Nat → Bool} {t : TS} {k9 : TS → Int32 → Int32 → Int32 → Int32 → Int32 → Int32 → Int32 → Option Int32} {bc bs : Nat} (hW : W.2.2.2 = mm_fx) (hk9 : ∀ (v1 : Int32) (v2 : Int32) (v3 : Int32) (v4 : Int32) (v5 : Int32) (v6 : Int32) (v7 : Int32), wp (k9 t v1 v2 v3 v4 v5 v6 v7) (fun r => Q (some (eI r)) t) → nX W (d + 1) tX13_fits Q a0 e0 9 [some (eR (some (13, 0))), some (eI v1), some (eI v2), some (eI v3), some (eI v4), some (eI v5), some (eI v6), some (eI v7), none, none] [] t bc bs) : ∀ (v1 : Int32) (v2 : Int32) (v3 : Int32) (v4 : Int32) (v5 : Int32) (v6 : Int32) (v7 : Int32), wp (B_X13_fits_54 k9 t v1 v2 v3 v4 v5 v6 v7) (fun r => Q (some (eI r)) t) → nX W (d + 1) tX13_fits Q a0 e0 54 [some (eR (some (13, 0))), some (eI v1), some (eI v2), some (eI v3), some (eI v4), some (eI v5), some (eI v6), some (eI v7), none, none] [] t bc bs := by
  intro v1 v2 v3 v4 v5 v6 v7 H
  unfold B_X13_fits_54 at H
  refine nx_iinc2 1 (ls' := [some (eR (some (13, 0))), some (eI v1), some (eI v2), some (eI v3), some (eI v4), some (eI v5), some (eI v6), some (eI (v7 + 1)), none, none]) rfl rfl rfl rfl rfl ?_
  refine nx_goto rfl rfl ?_
  exact hk9 _ _ _ _ _ _ _ H
def BB_X13_fits_9 (k9 : TS → Int32 → Int32 → Int32 → Int32 → Int32 → Int32 → Int32 → Option Int32) (t : TS) (v1 : Int32) (v2 : Int32) (v3 : Int32) (v4 : Int32) (v5 : Int32) (v6 : Int32) (v7 : Int32) : Option Int32 := (if (tI t 1381 0) ≤ v7 then (B_X13_fits_60  t v1 v2 v3 v4 v5 v6) else (if ¬ ((v1 >>> (v7 &&& 31)) &&& 1) = 0 then (gd v7 (tL t 3382 0) (gd v7 (tL t 3383 0) (B_X13_fits_54 k9 t v1 v2 v3 v4 (v5 + (tA t 3382 0 v7.toNatClampNeg)) (v6 + (tA t 3383 0 v7.toNatClampNeg)) v7))) else (B_X13_fits_54 k9 t v1 v2 v3 v4 v5 v6 v7)))
theorem TBB_X13_fits_9 {W : NW} {d : Nat} {Q : Option NV → TS → Prop} {a0 : Nat → Nat → Nat} {e0 : Nat → Nat → Bool} {t : TS} {k9 : TS → Int32 → Int32 → Int32 → Int32 → Int32 → Int32 → Int32 → Option Int32} {bc bs : Nat} (hW : W.2.2.2 = mm_fx) (hk9 : ∀ (v1 : Int32) (v2 : Int32) (v3 : Int32) (v4 : Int32) (v5 : Int32) (v6 : Int32) (v7 : Int32), wp (k9 t v1 v2 v3 v4 v5 v6 v7) (fun r => Q (some (eI r)) t) → nX W (d + 1) tX13_fits Q a0 e0 9 [some (eR (some (13, 0))), some (eI v1), some (eI v2), some (eI v3), some (eI v4), some (eI v5), some (eI v6), some (eI v7), none, none] [] t bc bs) : ∀ (v1 : Int32) (v2 : Int32) (v3 : Int32) (v4 : Int32) (v5 : Int32) (v6 : Int32) (v7 : Int32), wp (BB_X13_fits_9 k9 t v1 v2 v3 v4 v5 v6 v7) (fun r => Q (some (eI r)) t) → nX W (d + 1) tX13_fits Q a0 e0 9 [some (eR (some (13, 0))), some (eI v1), some (eI v2), some (eI v3), some (eI v4), some (eI v5), some (eI v6), some (eI v7), none, none] [] t bc bs := by
  intro v1 v2 v3 v4 v5 v6 v7 H
  unfold BB_X13_fits_9 at H
  refine nx_ld rfl rfl rfl rfl ?_
  refine nx_ld rfl rfl rfl rfl ?_
  refine nx_getI rfl rfl rfl (by decide) ?_
  refine nx_icmp rfl rfl (by rfl) H (fun H => ?_) (fun H => ?_)
  · exact TB_X13_fits_60 hW    _ _ _ _ _ _ _ H
  refine nx_ld rfl rfl rfl rfl ?_
  refine nx_ld rfl rfl rfl rfl ?_
  refine nx_ii rfl rfl ?_
  refine nx_int (x := 1) rfl rfl ?_
  refine nx_ii rfl rfl ?_
  refine nx_if rfl rfl (by rfl) H (fun H => ?_) (fun H => ?_)
  · refine nx_ld rfl rfl rfl rfl ?_
    refine nx_ld rfl rfl rfl rfl ?_
    refine nx_getFix rfl rfl rfl (by decide) (by rw [hW]; rfl) rfl ?_
    refine nx_ld rfl rfl rfl rfl ?_
    refine nx_iald (p := (3382, 0)) rfl rfl (Nat.le_of_ble_eq_true rfl) (Nat.le_of_ble_eq_true rfl) rfl H (fun H => ?_)
    refine nx_ii rfl rfl ?_
    refine nx_st (ls' := [some (eR (some (13, 0))), some (eI v1), some (eI v2), some (eI v3), some (eI v4), some (eI (v5 + (tA t 3382 0 v7.toNatClampNeg))), some (eI v6), some (eI v7), none, none]) rfl rfl rfl (Nat.le_of_ble_eq_true rfl) rfl ?_
    show nX _ _ _ _ _ _ 42 _ _ _ _ _
    refine nx_ld rfl rfl rfl rfl ?_
    refine nx_ld rfl rfl rfl rfl ?_
    refine nx_getFix rfl rfl rfl (by decide) (by rw [hW]; rfl) rfl ?_
    refine nx_ld rfl rfl rfl rfl ?_
    refine nx_iald (p := (3383, 0)) rfl rfl (Nat.le_of_ble_eq_true rfl) (Nat.le_of_ble_eq_true rfl) rfl H (fun H => ?_)
    refine nx_ii rfl rfl ?_
    refine nx_st (ls' := [some (eR (some (13, 0))), some (eI v1), some (eI v2), some (eI v3), some (eI v4), some (eI (v5 + (tA t 3382 0 v7.toNatClampNeg))), some (eI (v6 + (tA t 3383 0 v7.toNatClampNeg))), some (eI v7), none, none]) rfl rfl rfl (Nat.le_of_ble_eq_true rfl) rfl ?_
    exact TB_X13_fits_54 hW   hk9 _ _ _ _ _ _ _ H
  refine nx_goto rfl rfl ?_
  exact TB_X13_fits_54 hW   hk9 _ _ _ _ _ _ _ H
def B_X13_fits_9 : Nat → TS → Int32 → Int32 → Int32 → Int32 → Int32 → Int32 → Int32 → Option Int32
  | 0 => fun _ _ _ _ _ _ _ _ => none
  | n + 1 => fun t v1 v2 v3 v4 v5 v6 v7 => BB_X13_fits_9 (B_X13_fits_9 n) t v1 v2 v3 v4 v5 v6 v7
theorem TB_X13_fits_9 {W : NW} {d : Nat} {Q : Option NV → TS → Prop} {a0 : Nat → Nat → Nat} {e0 : Nat → Nat → Bool} {t : TS} {bc bs : Nat} (hW : W.2.2.2 = mm_fx) : ∀ (n : Nat) (v1 : Int32) (v2 : Int32) (v3 : Int32) (v4 : Int32) (v5 : Int32) (v6 : Int32) (v7 : Int32), wp (B_X13_fits_9 n t v1 v2 v3 v4 v5 v6 v7) (fun r => Q (some (eI r)) t) → nX W (d + 1) tX13_fits Q a0 e0 9 [some (eR (some (13, 0))), some (eI v1), some (eI v2), some (eI v3), some (eI v4), some (eI v5), some (eI v6), some (eI v7), none, none] [] t bc bs := by
  intro n
  induction n with
  | zero => intro v1 v2 v3 v4 v5 v6 v7 H; exact (wp_none H).elim
  | succ n ih =>
    intro v1 v2 v3 v4 v5 v6 v7 H
    exact TBB_X13_fits_9 hW    ih v1 v2 v3 v4 v5 v6 v7 H
def F_X13_fits (t : TS) (x1 : Int32) (x2 : Int32) (x3 : Int32) (x4 : Int32) : Option Int32 := (B_X13_fits_9  10000 t x1 x2 x3 x4 0 0 0)
theorem TF_X13_fits {W : NW} {d : Nat} {t : TS} {x1 : Int32} {x2 : Int32} {x3 : Int32} {x4 : Int32} {Q : Option NV → TS → Prop} {bc bs : Nat} (hW : W.2.2.2 = mm_fx) (H : wp (F_X13_fits t x1 x2 x3 x4) (fun r => Q (some (eI r)) t)) : nC W (d + 2) 244 [eR (some (13, 0)), eI x1, eI x2, eI x3, eI x4] t bc bs Q := by
  refine nC_in (d := (d + 1)) (T := tX13_fits) (ls := [some (eR (some (13, 0))), some (eI x1), some (eI x2), some (eI x3), some (eI x4), none, none, none, none, none]) rfl (Nat.le_of_ble_eq_true rfl) rfl (fun a0 e0 => ?_)
  unfold F_X13_fits at H
  refine nx_int (x := 0) rfl rfl ?_
  refine nx_st (ls' := [some (eR (some (13, 0))), some (eI x1), some (eI x2), some (eI x3), some (eI x4), some (eI 0), none, none, none, none]) rfl rfl rfl (Nat.le_of_ble_eq_true rfl) rfl ?_
  refine nx_int (x := 0) rfl rfl ?_
  refine nx_st (ls' := [some (eR (some (13, 0))), some (eI x1), some (eI x2), some (eI x3), some (eI x4), some (eI 0), some (eI 0), none, none, none]) rfl rfl rfl (Nat.le_of_ble_eq_true rfl) rfl ?_
  refine nx_int (x := 0) rfl rfl ?_
  refine nx_st (ls' := [some (eR (some (13, 0))), some (eI x1), some (eI x2), some (eI x3), some (eI x4), some (eI 0), some (eI 0), some (eI 0), none, none]) rfl rfl rfl (Nat.le_of_ble_eq_true rfl) rfl ?_
  exact TB_X13_fits_9 hW    10000 _ _ _ _ _ _ _ H
def B_X13_buys_204 (t : TS) (v4 : Int32) : Option (Int32 × TS) := (nxt (uI t 1381 0 0) (fun t21 => (if 0 ≤ v4 then (some (v4, t21)) else (some ((-2), t21)))))
theorem TB_X13_buys_204 {W : NW} {d : Nat} {Q : Option NV → TS → Prop} {a0 : Nat → Nat → Nat} {e0 : Nat → Nat → Bool} {bc bs : Nat} (hW : W.2.2.2 = mm_fx) : ∀ (t : TS) (v1 : Int32) (v2 : Int32) (v3 : Int32) (v4 : Int32) (v5 : Int32) (v6 : Int32) (v7 : Int32) (v8 : Option NV) (v9 : Option NV) (v10 : Option NV), wp (B_X13_buys_204 t v4) (fun r => Q (some (eI r.1)) r.2) → nX W (d + 2) tX13_buys Q a0 e0 204 [some (eR (some (13, 0))), some (eI v1), some (eI v2), some (eI v3), some (eI v4), some (eI v5), some (eI v6), some (eI v7), v8, v9, v10] [] t bc bs := by
  intro t v1 v2 v3 v4 v5 v6 v7 v8 v9 v10 H
  unfold B_X13_buys_204 at H
  refine nx_ld rfl rfl rfl rfl ?_
  refine nx_int (x := 0) rfl rfl ?_
  refine nx_putI rfl rfl rfl (by decide) H (fun t21 H => ?_)
  refine nx_ld rfl rfl rfl rfl ?_
  refine nx_if rfl rfl (by rfl) H (fun H => ?_) (fun H => ?_)
  · refine nx_ld rfl rfl rfl rfl ?_
    exact nx_rit rfl rfl H
  refine nx_int (x := (-2)) rfl rfl ?_
  refine nx_goto rfl rfl ?_
  exact nx_rit rfl rfl H
def B_X13_buys_198 (k53 : TS → Int32 → Int32 → Int32 → Int32 → Int32 → Int32 → Int32 → Option (Int32 × TS)) (t : TS) (v1 : Int32) (v2 : Int32) (v3 : Int32) (v4 : Int32) (v5 : Int32) (v6 : Int32) (v7 : Int32) : Option (Int32 × TS) := (k53 t v1 v2 v3 v4 v5 v6 (v7 + 1))
theorem TB_X13_buys_198 {W : NW} {d : Nat} {Q : Option NV → TS → Prop} {a0 : Nat → Nat → Nat} {e0 : Nat → Nat → Bool} {k53 : TS → Int32 → Int32 → Int32 → Int32 → Int32 → Int32 → Int32 → Option (Int32 × TS)} {bc bs : Nat} (hW : W.2.2.2 = mm_fx) (hk53 : ∀ (t : TS) (v1 : Int32) (v2 : Int32) (v3 : Int32) (v4 : Int32) (v5 : Int32) (v6 : Int32) (v7 : Int32) (v8 : Option NV) (v9 : Option NV) (v10 : Option NV), wp (k53 t v1 v2 v3 v4 v5 v6 v7) (fun r => Q (some (eI r.1)) r.2) → nX W (d + 2) tX13_buys Q a0 e0 53 [some (eR (some (13, 0))), some (eI v1), some (eI v2), some (eI v3), some (eI v4), some (eI v5), some (eI v6), some (eI v7), v8, v9, v10] [] t bc bs) : ∀ (t : TS) (v1 : Int32) (v2 : Int32) (v3 : Int32) (v4 : Int32) (v5 : Int32) (v6 : Int32) (v7 : Int32) (v8 : Option NV) (v9 : Option NV) (v10 : Option NV), wp (B_X13_buys_198 k53 t v1 v2 v3 v4 v5 v6 v7) (fun r => Q (some (eI r.1)) r.2) → nX W (d + 2) tX13_buys Q a0 e0 198 [some (eR (some (13, 0))), some (eI v1), some (eI v2), some (eI v3), some (eI v4), some (eI v5), some (eI v6), some (eI v7), v8, v9, v10] [] t bc bs := by
  intro t v1 v2 v3 v4 v5 v6 v7 v8 v9 v10 H
  unfold B_X13_buys_198 at H
  refine nx_iinc2 1 (ls' := [some (eR (some (13, 0))), some (eI v1), some (eI v2), some (eI v3), some (eI v4), some (eI v5), some (eI v6), some (eI (v7 + 1)), v8, v9, v10]) rfl rfl rfl rfl rfl ?_
  refine nx_goto rfl rfl ?_
  exact hk53 _ _ _ _ _ _ _ _ _ _ _ H
def B_X13_buys_186 (k53 : TS → Int32 → Int32 → Int32 → Int32 → Int32 → Int32 → Int32 → Option (Int32 × TS)) (t : TS) (v1 : Int32) (v2 : Int32) (v3 : Int32) (v7 : Int32) (v8 : Int32) (v9 : Int32) : Option (Int32 × TS) := (B_X13_buys_198 k53 t v1 v2 v3 v7 v8 v9 v7)
theorem TB_X13_buys_186 {W : NW} {d : Nat} {Q : Option NV → TS → Prop} {a0 : Nat → Nat → Nat} {e0 : Nat → Nat → Bool} {k53 : TS → Int32 → Int32 → Int32 → Int32 → Int32 → Int32 → Int32 → Option (Int32 × TS)} {bc bs : Nat} (hW : W.2.2.2 = mm_fx) (hk53 : ∀ (t : TS) (v1 : Int32) (v2 : Int32) (v3 : Int32) (v4 : Int32) (v5 : Int32) (v6 : Int32) (v7 : Int32) (v8 : Option NV) (v9 : Option NV) (v10 : Option NV), wp (k53 t v1 v2 v3 v4 v5 v6 v7) (fun r => Q (some (eI r.1)) r.2) → nX W (d + 2) tX13_buys Q a0 e0 53 [some (eR (some (13, 0))), some (eI v1), some (eI v2), some (eI v3), some (eI v4), some (eI v5), some (eI v6), some (eI v7), v8, v9, v10] [] t bc bs) : ∀ (t : TS) (v1 : Int32) (v2 : Int32) (v3 : Int32) (v4 : Int32) (v5 : Int32) (v6 : Int32) (v7 : Int32) (v8 : Int32) (v9 : Int32) (v10 : Int32), wp (B_X13_buys_186 k53 t v1 v2 v3 v7 v8 v9) (fun r => Q (some (eI r.1)) r.2) → nX W (d + 2) tX13_buys Q a0 e0 186 [some (eR (some (13, 0))), some (eI v1), some (eI v2), some (eI v3), some (eI v4), some (eI v5), some (eI v6), some (eI v7), some (eI v8), some (eI v9), some (eI v10)] [] t bc bs := by
  intro t v1 v2 v3 v4 v5 v6 v7 v8 v9 v10 H
  unfold B_X13_buys_186 at H
  refine nx_ld rfl rfl rfl rfl ?_
  refine nx_st (ls' := [some (eR (some (13, 0))), some (eI v1), some (eI v2), some (eI v3), some (eI v7), some (eI v5), some (eI v6), some (eI v7), some (eI v8), some (eI v9), some (eI v10)]) rfl rfl rfl (Nat.le_of_ble_eq_true rfl) rfl ?_
  refine nx_ld rfl rfl rfl rfl ?_
  refine nx_st (ls' := [some (eR (some (13, 0))), some (eI v1), some (eI v2), some (eI v3), some (eI v7), some (eI v8), some (eI v6), some (eI v7), some (eI v8), some (eI v9), some (eI v10)]) rfl rfl rfl (Nat.le_of_ble_eq_true rfl) rfl ?_
  refine nx_ld rfl rfl rfl rfl ?_
  refine nx_st (ls' := [some (eR (some (13, 0))), some (eI v1), some (eI v2), some (eI v3), some (eI v7), some (eI v8), some (eI v9), some (eI v7), some (eI v8), some (eI v9), some (eI v10)]) rfl rfl rfl (Nat.le_of_ble_eq_true rfl) rfl ?_
  exact TB_X13_buys_198 hW   hk53 _ _ _ _ _ _ _ _ _ _ _ H
def B_X13_buys_157 (k53 : TS → Int32 → Int32 → Int32 → Int32 → Int32 → Int32 → Int32 → Option (Int32 × TS)) (t : TS) (v1 : Int32) (v2 : Int32) (v3 : Int32) (v4 : Int32) (v5 : Int32) (v6 : Int32) (v7 : Int32) (v8 : Int32) (v9 : Int32) : Option (Int32 × TS) := (if v4 < 0 then (B_X13_buys_186 k53 t v1 v2 v3 v7 v8 v9) else (if v8 < v5 then (B_X13_buys_198 k53 t v1 v2 v3 v4 v5 v6 v7) else (if ¬ v8 = v5 then (B_X13_buys_186 k53 t v1 v2 v3 v7 v8 v9) else (if v9 < v6 then (B_X13_buys_186 k53 t v1 v2 v3 v7 v8 v9) else (B_X13_buys_198 k53 t v1 v2 v3 v4 v5 v6 v7)))))
theorem TB_X13_buys_157 {W : NW} {d : Nat} {Q : Option NV → TS → Prop} {a0 : Nat → Nat → Nat} {e0 : Nat → Nat → Bool} {k53 : TS → Int32 → Int32 → Int32 → Int32 → Int32 → Int32 → Int32 → Option (Int32 × TS)} {bc bs : Nat} (hW : W.2.2.2 = mm_fx) (hk53 : ∀ (t : TS) (v1 : Int32) (v2 : Int32) (v3 : Int32) (v4 : Int32) (v5 : Int32) (v6 : Int32) (v7 : Int32) (v8 : Option NV) (v9 : Option NV) (v10 : Option NV), wp (k53 t v1 v2 v3 v4 v5 v6 v7) (fun r => Q (some (eI r.1)) r.2) → nX W (d + 2) tX13_buys Q a0 e0 53 [some (eR (some (13, 0))), some (eI v1), some (eI v2), some (eI v3), some (eI v4), some (eI v5), some (eI v6), some (eI v7), v8, v9, v10] [] t bc bs) : ∀ (t : TS) (v1 : Int32) (v2 : Int32) (v3 : Int32) (v4 : Int32) (v5 : Int32) (v6 : Int32) (v7 : Int32) (v8 : Int32) (v9 : Int32) (v10 : Int32), wp (B_X13_buys_157 k53 t v1 v2 v3 v4 v5 v6 v7 v8 v9) (fun r => Q (some (eI r.1)) r.2) → nX W (d + 2) tX13_buys Q a0 e0 157 [some (eR (some (13, 0))), some (eI v1), some (eI v2), some (eI v3), some (eI v4), some (eI v5), some (eI v6), some (eI v7), some (eI v8), some (eI v9), some (eI v10)] [] t bc bs := by
  intro t v1 v2 v3 v4 v5 v6 v7 v8 v9 v10 H
  unfold B_X13_buys_157 at H
  refine nx_ld rfl rfl rfl rfl ?_
  refine nx_if rfl rfl (by rfl) H (fun H => ?_) (fun H => ?_)
  · exact TB_X13_buys_186 hW   hk53 _ _ _ _ _ _ _ _ _ _ _ H
  refine nx_ld rfl rfl rfl rfl ?_
  refine nx_ld rfl rfl rfl rfl ?_
  refine nx_icmp rfl rfl (by rfl) H (fun H => ?_) (fun H => ?_)
  · exact TB_X13_buys_198 hW   hk53 _ _ _ _ _ _ _ _ _ _ _ H
  refine nx_ld rfl rfl rfl rfl ?_
  refine nx_ld rfl rfl rfl rfl ?_
  refine nx_icmp rfl rfl (by rfl) H (fun H => ?_) (fun H => ?_)
  · exact TB_X13_buys_186 hW   hk53 _ _ _ _ _ _ _ _ _ _ _ H
  refine nx_ld rfl rfl rfl rfl ?_
  refine nx_ld rfl rfl rfl rfl ?_
  refine nx_icmp rfl rfl (by rfl) H (fun H => ?_) (fun H => ?_)
  · exact TB_X13_buys_186 hW   hk53 _ _ _ _ _ _ _ _ _ _ _ H
  refine nx_goto rfl rfl ?_
  exact TB_X13_buys_198 hW   hk53 _ _ _ _ _ _ _ _ _ _ _ H
def B_X13_buys_148 (k53 : TS → Int32 → Int32 → Int32 → Int32 → Int32 → Int32 → Int32 → Option (Int32 × TS)) (k88 : TS → Int32 → Int32 → Int32 → Int32 → Int32 → Int32 → Int32 → Int32 → Int32 → Int32 → Option (Int32 × TS)) (t : TS) (v1 : Int32) (v2 : Int32) (v3 : Int32) (v4 : Int32) (v5 : Int32) (v6 : Int32) (v7 : Int32) (v8 : Int32) (v10 : Int32) (s0 : Int32) (s1 : Int32) : Option (Int32 × TS) := (k88 t v1 v2 v3 v4 v5 v6 v7 v8 (s1 + s0) (v10 + 1))
theorem TB_X13_buys_148 {W : NW} {d : Nat} {Q : Option NV → TS → Prop} {a0 : Nat → Nat → Nat} {e0 : Nat → Nat → Bool} {k53 : TS → Int32 → Int32 → Int32 → Int32 → Int32 → Int32 → Int32 → Option (Int32 × TS)} {k88 : TS → Int32 → Int32 → Int32 → Int32 → Int32 → Int32 → Int32 → Int32 → Int32 → Int32 → Option (Int32 × TS)} {bc bs : Nat} (hW : W.2.2.2 = mm_fx) (hk53 : ∀ (t : TS) (v1 : Int32) (v2 : Int32) (v3 : Int32) (v4 : Int32) (v5 : Int32) (v6 : Int32) (v7 : Int32) (v8 : Option NV) (v9 : Option NV) (v10 : Option NV), wp (k53 t v1 v2 v3 v4 v5 v6 v7) (fun r => Q (some (eI r.1)) r.2) → nX W (d + 2) tX13_buys Q a0 e0 53 [some (eR (some (13, 0))), some (eI v1), some (eI v2), some (eI v3), some (eI v4), some (eI v5), some (eI v6), some (eI v7), v8, v9, v10] [] t bc bs) (hk88 : ∀ (t : TS) (v1 : Int32) (v2 : Int32) (v3 : Int32) (v4 : Int32) (v5 : Int32) (v6 : Int32) (v7 : Int32) (v8 : Int32) (v9 : Int32) (v10 : Int32), wp (k88 t v1 v2 v3 v4 v5 v6 v7 v8 v9 v10) (fun r => Q (some (eI r.1)) r.2) → nX W (d + 2) tX13_buys Q a0 e0 88 [some (eR (some (13, 0))), some (eI v1), some (eI v2), some (eI v3), some (eI v4), some (eI v5), some (eI v6), some (eI v7), some (eI v8), some (eI v9), some (eI v10)] [] t bc bs) : ∀ (t : TS) (v1 : Int32) (v2 : Int32) (v3 : Int32) (v4 : Int32) (v5 : Int32) (v6 : Int32) (v7 : Int32) (v8 : Int32) (v9 : Int32) (v10 : Int32) (s0 : Int32) (s1 : Int32), wp (B_X13_buys_148 k53 k88 t v1 v2 v3 v4 v5 v6 v7 v8 v10 s0 s1) (fun r => Q (some (eI r.1)) r.2) → nX W (d + 2) tX13_buys Q a0 e0 148 [some (eR (some (13, 0))), some (eI v1), some (eI v2), some (eI v3), some (eI v4), some (eI v5), some (eI v6), some (eI v7), some (eI v8), some (eI v9), some (eI v10)] [eI s0, eI s1] t bc bs := by
  intro t v1 v2 v3 v4 v5 v6 v7 v8 v9 v10 s0 s1 H
  unfold B_X13_buys_148 at H
  refine nx_ii rfl rfl ?_
  refine nx_st (ls' := [some (eR (some (13, 0))), some (eI v1), some (eI v2), some (eI v3), some (eI v4), some (eI v5), some (eI v6), some (eI v7), some (eI v8), some (eI (s1 + s0)), some (eI v10)]) rfl rfl rfl (Nat.le_of_ble_eq_true rfl) rfl ?_
  refine nx_iinc2 1 (ls' := [some (eR (some (13, 0))), some (eI v1), some (eI v2), some (eI v3), some (eI v4), some (eI v5), some (eI v6), some (eI v7), some (eI v8), some (eI (s1 + s0)), some (eI (v10 + 1))]) rfl rfl rfl rfl rfl ?_
  refine nx_goto rfl rfl ?_
  exact hk88 _ _ _ _ _ _ _ _ _ _ _ H
def B_X13_buys_121 (k53 : TS → Int32 → Int32 → Int32 → Int32 → Int32 → Int32 → Int32 → Option (Int32 × TS)) (k88 : TS → Int32 → Int32 → Int32 → Int32 → Int32 → Int32 → Int32 → Int32 → Int32 → Int32 → Option (Int32 × TS)) (t : TS) (v1 : Int32) (v2 : Int32) (v3 : Int32) (v4 : Int32) (v5 : Int32) (v6 : Int32) (v7 : Int32) (v9 : Int32) (v10 : Int32) (s0 : Int32) (s1 : Int32) : Option (Int32 × TS) := (if ¬ ((v7 >>> (v10 &&& 31)) &&& 1) = 1 then (B_X13_buys_148 k53 k88 t v1 v2 v3 v4 v5 v6 v7 (s1 + s0) v10 0 v9) else (gd v10 (tL t 3382 0) (B_X13_buys_148 k53 k88 t v1 v2 v3 v4 v5 v6 v7 (s1 + s0) v10 (tA t 3382 0 v10.toNatClampNeg) v9)))
theorem TB_X13_buys_121 {W : NW} {d : Nat} {Q : Option NV → TS → Prop} {a0 : Nat → Nat → Nat} {e0 : Nat → Nat → Bool} {k53 : TS → Int32 → Int32 → Int32 → Int32 → Int32 → Int32 → Int32 → Option (Int32 × TS)} {k88 : TS → Int32 → Int32 → Int32 → Int32 → Int32 → Int32 → Int32 → Int32 → Int32 → Int32 → Option (Int32 × TS)} {bc bs : Nat} (hW : W.2.2.2 = mm_fx) (hk53 : ∀ (t : TS) (v1 : Int32) (v2 : Int32) (v3 : Int32) (v4 : Int32) (v5 : Int32) (v6 : Int32) (v7 : Int32) (v8 : Option NV) (v9 : Option NV) (v10 : Option NV), wp (k53 t v1 v2 v3 v4 v5 v6 v7) (fun r => Q (some (eI r.1)) r.2) → nX W (d + 2) tX13_buys Q a0 e0 53 [some (eR (some (13, 0))), some (eI v1), some (eI v2), some (eI v3), some (eI v4), some (eI v5), some (eI v6), some (eI v7), v8, v9, v10] [] t bc bs) (hk88 : ∀ (t : TS) (v1 : Int32) (v2 : Int32) (v3 : Int32) (v4 : Int32) (v5 : Int32) (v6 : Int32) (v7 : Int32) (v8 : Int32) (v9 : Int32) (v10 : Int32), wp (k88 t v1 v2 v3 v4 v5 v6 v7 v8 v9 v10) (fun r => Q (some (eI r.1)) r.2) → nX W (d + 2) tX13_buys Q a0 e0 88 [some (eR (some (13, 0))), some (eI v1), some (eI v2), some (eI v3), some (eI v4), some (eI v5), some (eI v6), some (eI v7), some (eI v8), some (eI v9), some (eI v10)] [] t bc bs) : ∀ (t : TS) (v1 : Int32) (v2 : Int32) (v3 : Int32) (v4 : Int32) (v5 : Int32) (v6 : Int32) (v7 : Int32) (v8 : Int32) (v9 : Int32) (v10 : Int32) (s0 : Int32) (s1 : Int32), wp (B_X13_buys_121 k53 k88 t v1 v2 v3 v4 v5 v6 v7 v9 v10 s0 s1) (fun r => Q (some (eI r.1)) r.2) → nX W (d + 2) tX13_buys Q a0 e0 121 [some (eR (some (13, 0))), some (eI v1), some (eI v2), some (eI v3), some (eI v4), some (eI v5), some (eI v6), some (eI v7), some (eI v8), some (eI v9), some (eI v10)] [eI s0, eI s1] t bc bs := by
  intro t v1 v2 v3 v4 v5 v6 v7 v8 v9 v10 s0 s1 H
  unfold B_X13_buys_121 at H
  refine nx_ii rfl rfl ?_
  refine nx_st (ls' := [some (eR (some (13, 0))), some (eI v1), some (eI v2), some (eI v3), some (eI v4), some (eI v5), some (eI v6), some (eI v7), some (eI (s1 + s0)), some (eI v9), some (eI v10)]) rfl rfl rfl (Nat.le_of_ble_eq_true rfl) rfl ?_
  refine nx_ld rfl rfl rfl rfl ?_
  refine nx_ld rfl rfl rfl rfl ?_
  refine nx_ld rfl rfl rfl rfl ?_
  refine nx_ii rfl rfl ?_
  refine nx_int (x := 1) rfl rfl ?_
  show nX _ _ _ _ _ _ 132 _ _ _ _ _
  refine nx_ii rfl rfl ?_
  refine nx_int (x := 1) rfl rfl ?_
  refine nx_icmp rfl rfl (by rfl) H (fun H => ?_) (fun H => ?_)
  · refine nx_int (x := 0) rfl rfl ?_
    exact TB_X13_buys_148 hW   hk53 hk88 _ _ _ _ _ _ _ _ _ _ _ _ _ H
  refine nx_ld rfl rfl rfl rfl ?_
  refine nx_getFix rfl rfl rfl (by decide) (by rw [hW]; rfl) rfl ?_
  refine nx_ld rfl rfl rfl rfl ?_
  refine nx_iald (p := (3382, 0)) rfl rfl (Nat.le_of_ble_eq_true rfl) (Nat.le_of_ble_eq_true rfl) rfl H (fun H => ?_)
  refine nx_goto rfl rfl ?_
  exact TB_X13_buys_148 hW   hk53 hk88 _ _ _ _ _ _ _ _ _ _ _ _ _ H
def BB_X13_buys_88 (k53 : TS → Int32 → Int32 → Int32 → Int32 → Int32 → Int32 → Int32 → Option (Int32 × TS)) (k88 : TS → Int32 → Int32 → Int32 → Int32 → Int32 → Int32 → Int32 → Int32 → Int32 → Int32 → Option (Int32 × TS)) (t : TS) (v1 : Int32) (v2 : Int32) (v3 : Int32) (v4 : Int32) (v5 : Int32) (v6 : Int32) (v7 : Int32) (v8 : Int32) (v9 : Int32) (v10 : Int32) : Option (Int32 × TS) := (if (tI t 1381 0) ≤ v10 then (B_X13_buys_157 k53 t v1 v2 v3 v4 v5 v6 v7 v8 v9) else (if ¬ ((v7 >>> (v10 &&& 31)) &&& 1) = 1 then (B_X13_buys_121 k53 k88 t v1 v2 v3 v4 v5 v6 v7 v9 v10 0 v8) else (gd v10 (tL t 3385 0) (B_X13_buys_121 k53 k88 t v1 v2 v3 v4 v5 v6 v7 v9 v10 (tA t 3385 0 v10.toNatClampNeg) v8))))
theorem TBB_X13_buys_88 {W : NW} {d : Nat} {Q : Option NV → TS → Prop} {a0 : Nat → Nat → Nat} {e0 : Nat → Nat → Bool} {k53 : TS → Int32 → Int32 → Int32 → Int32 → Int32 → Int32 → Int32 → Option (Int32 × TS)} {k88 : TS → Int32 → Int32 → Int32 → Int32 → Int32 → Int32 → Int32 → Int32 → Int32 → Int32 → Option (Int32 × TS)} {bc bs : Nat} (hW : W.2.2.2 = mm_fx) (hk53 : ∀ (t : TS) (v1 : Int32) (v2 : Int32) (v3 : Int32) (v4 : Int32) (v5 : Int32) (v6 : Int32) (v7 : Int32) (v8 : Option NV) (v9 : Option NV) (v10 : Option NV), wp (k53 t v1 v2 v3 v4 v5 v6 v7) (fun r => Q (some (eI r.1)) r.2) → nX W (d + 2) tX13_buys Q a0 e0 53 [some (eR (some (13, 0))), some (eI v1), some (eI v2), some (eI v3), some (eI v4), some (eI v5), some (eI v6), some (eI v7), v8, v9, v10] [] t bc bs) (hk88 : ∀ (t : TS) (v1 : Int32) (v2 : Int32) (v3 : Int32) (v4 : Int32) (v5 : Int32) (v6 : Int32) (v7 : Int32) (v8 : Int32) (v9 : Int32) (v10 : Int32), wp (k88 t v1 v2 v3 v4 v5 v6 v7 v8 v9 v10) (fun r => Q (some (eI r.1)) r.2) → nX W (d + 2) tX13_buys Q a0 e0 88 [some (eR (some (13, 0))), some (eI v1), some (eI v2), some (eI v3), some (eI v4), some (eI v5), some (eI v6), some (eI v7), some (eI v8), some (eI v9), some (eI v10)] [] t bc bs) : ∀ (t : TS) (v1 : Int32) (v2 : Int32) (v3 : Int32) (v4 : Int32) (v5 : Int32) (v6 : Int32) (v7 : Int32) (v8 : Int32) (v9 : Int32) (v10 : Int32), wp (BB_X13_buys_88 k53 k88 t v1 v2 v3 v4 v5 v6 v7 v8 v9 v10) (fun r => Q (some (eI r.1)) r.2) → nX W (d + 2) tX13_buys Q a0 e0 88 [some (eR (some (13, 0))), some (eI v1), some (eI v2), some (eI v3), some (eI v4), some (eI v5), some (eI v6), some (eI v7), some (eI v8), some (eI v9), some (eI v10)] [] t bc bs := by
  intro t v1 v2 v3 v4 v5 v6 v7 v8 v9 v10 H
  unfold BB_X13_buys_88 at H
  refine nx_ld rfl rfl rfl rfl ?_
  refine nx_ld rfl rfl rfl rfl ?_
  refine nx_getI rfl rfl rfl (by decide) ?_
  refine nx_icmp rfl rfl (by rfl) H (fun H => ?_) (fun H => ?_)
  · exact TB_X13_buys_157 hW   hk53 _ _ _ _ _ _ _ _ _ _ _ H
  refine nx_ld rfl rfl rfl rfl ?_
  refine nx_ld rfl rfl rfl rfl ?_
  refine nx_ld rfl rfl rfl rfl ?_
  refine nx_ii rfl rfl ?_
  refine nx_int (x := 1) rfl rfl ?_
  refine nx_ii rfl rfl ?_
  refine nx_int (x := 1) rfl rfl ?_
  show nX _ _ _ _ _ _ 107 _ _ _ _ _
  refine nx_icmp rfl rfl (by rfl) H (fun H => ?_) (fun H => ?_)
  · refine nx_int (x := 0) rfl rfl ?_
    exact TB_X13_buys_121 hW   hk53 hk88 _ _ _ _ _ _ _ _ _ _ _ _ _ H
  refine nx_ld rfl rfl rfl rfl ?_
  refine nx_getFix rfl rfl rfl (by decide) (by rw [hW]; rfl) rfl ?_
  refine nx_ld rfl rfl rfl rfl ?_
  refine nx_iald (p := (3385, 0)) rfl rfl (Nat.le_of_ble_eq_true rfl) (Nat.le_of_ble_eq_true rfl) rfl H (fun H => ?_)
  refine nx_goto rfl rfl ?_
  exact TB_X13_buys_121 hW   hk53 hk88 _ _ _ _ _ _ _ _ _ _ _ _ _ H
def B_X13_buys_88 (k53 : TS → Int32 → Int32 → Int32 → Int32 → Int32 → Int32 → Int32 → Option (Int32 × TS)) : Nat → TS → Int32 → Int32 → Int32 → Int32 → Int32 → Int32 → Int32 → Int32 → Int32 → Int32 → Option (Int32 × TS)
  | 0 => fun _ _ _ _ _ _ _ _ _ _ _ => none
  | n + 1 => fun t v1 v2 v3 v4 v5 v6 v7 v8 v9 v10 => BB_X13_buys_88 k53 (B_X13_buys_88 k53 n) t v1 v2 v3 v4 v5 v6 v7 v8 v9 v10
theorem TB_X13_buys_88 {W : NW} {d : Nat} {Q : Option NV → TS → Prop} {a0 : Nat → Nat → Nat} {e0 : Nat → Nat → Bool} {k53 : TS → Int32 → Int32 → Int32 → Int32 → Int32 → Int32 → Int32 → Option (Int32 × TS)} {bc bs : Nat} (hW : W.2.2.2 = mm_fx) (hk53 : ∀ (t : TS) (v1 : Int32) (v2 : Int32) (v3 : Int32) (v4 : Int32) (v5 : Int32) (v6 : Int32) (v7 : Int32) (v8 : Option NV) (v9 : Option NV) (v10 : Option NV), wp (k53 t v1 v2 v3 v4 v5 v6 v7) (fun r => Q (some (eI r.1)) r.2) → nX W (d + 2) tX13_buys Q a0 e0 53 [some (eR (some (13, 0))), some (eI v1), some (eI v2), some (eI v3), some (eI v4), some (eI v5), some (eI v6), some (eI v7), v8, v9, v10] [] t bc bs) : ∀ (n : Nat) (t : TS) (v1 : Int32) (v2 : Int32) (v3 : Int32) (v4 : Int32) (v5 : Int32) (v6 : Int32) (v7 : Int32) (v8 : Int32) (v9 : Int32) (v10 : Int32), wp (B_X13_buys_88 k53 n t v1 v2 v3 v4 v5 v6 v7 v8 v9 v10) (fun r => Q (some (eI r.1)) r.2) → nX W (d + 2) tX13_buys Q a0 e0 88 [some (eR (some (13, 0))), some (eI v1), some (eI v2), some (eI v3), some (eI v4), some (eI v5), some (eI v6), some (eI v7), some (eI v8), some (eI v9), some (eI v10)] [] t bc bs := by
  intro n
  induction n with
  | zero => intro t v1 v2 v3 v4 v5 v6 v7 v8 v9 v10 H; exact (wp_none H).elim
  | succ n ih =>
    intro t v1 v2 v3 v4 v5 v6 v7 v8 v9 v10 H
    exact TBB_X13_buys_88 hW   hk53 ih t v1 v2 v3 v4 v5 v6 v7 v8 v9 v10 H
def BB_X13_buys_53 (k53 : TS → Int32 → Int32 → Int32 → Int32 → Int32 → Int32 → Int32 → Option (Int32 × TS)) (t : TS) (v1 : Int32) (v2 : Int32) (v3 : Int32) (v4 : Int32) (v5 : Int32) (v6 : Int32) (v7 : Int32) : Option (Int32 × TS) := (if ((1 : Int32) <<< ((tI t 1381 0) &&& 31)) ≤ v7 then (B_X13_buys_204  t v4) else (Option.bind (F_X13_fits t v7 v1 v2 v3) (fun r21 => (if ¬ r21 = 0 then (B_X13_buys_88 k53 10000 t v1 v2 v3 v4 v5 v6 v7 0 0 0) else (B_X13_buys_198 k53 t v1 v2 v3 v4 v5 v6 v7)))))
theorem TBB_X13_buys_53 {W : NW} {d : Nat} {Q : Option NV → TS → Prop} {a0 : Nat → Nat → Nat} {e0 : Nat → Nat → Bool} {k53 : TS → Int32 → Int32 → Int32 → Int32 → Int32 → Int32 → Int32 → Option (Int32 × TS)} {bc bs : Nat} (hW : W.2.2.2 = mm_fx) (hk53 : ∀ (t : TS) (v1 : Int32) (v2 : Int32) (v3 : Int32) (v4 : Int32) (v5 : Int32) (v6 : Int32) (v7 : Int32) (v8 : Option NV) (v9 : Option NV) (v10 : Option NV), wp (k53 t v1 v2 v3 v4 v5 v6 v7) (fun r => Q (some (eI r.1)) r.2) → nX W (d + 2) tX13_buys Q a0 e0 53 [some (eR (some (13, 0))), some (eI v1), some (eI v2), some (eI v3), some (eI v4), some (eI v5), some (eI v6), some (eI v7), v8, v9, v10] [] t bc bs) : ∀ (t : TS) (v1 : Int32) (v2 : Int32) (v3 : Int32) (v4 : Int32) (v5 : Int32) (v6 : Int32) (v7 : Int32) (v8 : Option NV) (v9 : Option NV) (v10 : Option NV), wp (BB_X13_buys_53 k53 t v1 v2 v3 v4 v5 v6 v7) (fun r => Q (some (eI r.1)) r.2) → nX W (d + 2) tX13_buys Q a0 e0 53 [some (eR (some (13, 0))), some (eI v1), some (eI v2), some (eI v3), some (eI v4), some (eI v5), some (eI v6), some (eI v7), v8, v9, v10] [] t bc bs := by
  intro t v1 v2 v3 v4 v5 v6 v7 v8 v9 v10 H
  unfold BB_X13_buys_53 at H
  refine nx_ld rfl rfl rfl rfl ?_
  refine nx_int (x := 1) rfl rfl ?_
  refine nx_ld rfl rfl rfl rfl ?_
  refine nx_getI rfl rfl rfl (by decide) ?_
  refine nx_ii rfl rfl ?_
  refine nx_icmp rfl rfl (by rfl) H (fun H => ?_) (fun H => ?_)
  · exact TB_X13_buys_204 hW    _ _ _ _ _ _ _ _ _ _ _ H
  refine nx_ld rfl rfl rfl rfl ?_
  refine nx_ld rfl rfl rfl rfl ?_
  refine nx_ld rfl rfl rfl rfl ?_
  refine nx_ld rfl rfl rfl rfl ?_
  refine nx_ld rfl rfl rfl rfl ?_
  refine nx_cVI (as := [eI v7, eI v1, eI v2, eI v3]) (st' := []) rfl rfl (Nat.le_of_ble_eq_true rfl) rfl rfl (Nat.le_of_ble_eq_true rfl) (c0 := 13) rfl (by decide) H (fun Q H => TF_X13_fits hW  H) (fun r21 H => ?_)
  refine nx_if rfl rfl (by rfl) H (fun H => ?_) (fun H => ?_)
  · refine nx_int (x := 0) rfl rfl ?_
    refine nx_st (ls' := [some (eR (some (13, 0))), some (eI v1), some (eI v2), some (eI v3), some (eI v4), some (eI v5), some (eI v6), some (eI v7), some (eI 0), v9, v10]) rfl rfl rfl (Nat.le_of_ble_eq_true rfl) rfl ?_
    refine nx_int (x := 0) rfl rfl ?_
    refine nx_st (ls' := [some (eR (some (13, 0))), some (eI v1), some (eI v2), some (eI v3), some (eI v4), some (eI v5), some (eI v6), some (eI v7), some (eI 0), some (eI 0), v10]) rfl rfl rfl (Nat.le_of_ble_eq_true rfl) rfl ?_
    refine nx_int (x := 0) rfl rfl ?_
    refine nx_st (ls' := [some (eR (some (13, 0))), some (eI v1), some (eI v2), some (eI v3), some (eI v4), some (eI v5), some (eI v6), some (eI v7), some (eI 0), some (eI 0), some (eI 0)]) rfl rfl rfl (Nat.le_of_ble_eq_true rfl) rfl ?_
    exact TB_X13_buys_88 hW   hk53 10000 _ _ _ _ _ _ _ _ _ _ _ H
  refine nx_goto rfl rfl ?_
  exact TB_X13_buys_198 hW   hk53 _ _ _ _ _ _ _ _ _ _ _ H
def B_X13_buys_53 : Nat → TS → Int32 → Int32 → Int32 → Int32 → Int32 → Int32 → Int32 → Option (Int32 × TS)
  | 0 => fun _ _ _ _ _ _ _ _ => none
  | n + 1 => fun t v1 v2 v3 v4 v5 v6 v7 => BB_X13_buys_53 (B_X13_buys_53 n) t v1 v2 v3 v4 v5 v6 v7
theorem TB_X13_buys_53 {W : NW} {d : Nat} {Q : Option NV → TS → Prop} {a0 : Nat → Nat → Nat} {e0 : Nat → Nat → Bool} {bc bs : Nat} (hW : W.2.2.2 = mm_fx) : ∀ (n : Nat) (t : TS) (v1 : Int32) (v2 : Int32) (v3 : Int32) (v4 : Int32) (v5 : Int32) (v6 : Int32) (v7 : Int32) (v8 : Option NV) (v9 : Option NV) (v10 : Option NV), wp (B_X13_buys_53 n t v1 v2 v3 v4 v5 v6 v7) (fun r => Q (some (eI r.1)) r.2) → nX W (d + 2) tX13_buys Q a0 e0 53 [some (eR (some (13, 0))), some (eI v1), some (eI v2), some (eI v3), some (eI v4), some (eI v5), some (eI v6), some (eI v7), v8, v9, v10] [] t bc bs := by
  intro n
  induction n with
  | zero => intro t v1 v2 v3 v4 v5 v6 v7 v8 v9 v10 H; exact (wp_none H).elim
  | succ n ih =>
    intro t v1 v2 v3 v4 v5 v6 v7 v8 v9 v10 H
    exact TBB_X13_buys_53 hW    ih t v1 v2 v3 v4 v5 v6 v7 v8 v9 v10 H
def F_X13_buys (t : TS) (x1 : Int32) (x2 : Int32) (x3 : Int32) : Option (Int32 × TS) := (if (tI t 1381 0) = 0 then (some ((-1), t)) else (Option.bind (F_X13_in t x1 0 9999999) (fun r21 => (if r21 = 0 then (some ((-1), t)) else (Option.bind (F_X13_in t x2 0 109) (fun r22 => (if r22 = 0 then (some ((-1), t)) else (Option.bind (F_X13_in t x3 0 9999) (fun r23 => (if ¬ r23 = 0 then (B_X13_buys_53  10000 t x1 x2 x3 (-1) 0 0 0) else (some ((-1), t))))))))))))
theorem TF_X13_buys {W : NW} {d : Nat} {t : TS} {x1 : Int32} {x2 : Int32} {x3 : Int32} {Q : Option NV → TS → Prop} {bc bs : Nat} (hW : W.2.2.2 = mm_fx) (H : wp (F_X13_buys t x1 x2 x3) (fun r => Q (some (eI r.1)) r.2)) : nC W (d + 3) 245 [eR (some (13, 0)), eI x1, eI x2, eI x3] t bc bs Q := by
  refine nC_in (d := (d + 2)) (T := tX13_buys) (ls := [some (eR (some (13, 0))), some (eI x1), some (eI x2), some (eI x3), none, none, none, none, none, none, none]) rfl (Nat.le_of_ble_eq_true rfl) rfl (fun a0 e0 => ?_)
  unfold F_X13_buys at H
  refine nx_ld rfl rfl rfl rfl ?_
  refine nx_getI rfl rfl rfl (by decide) ?_
  refine nx_if rfl rfl (by rfl) H (fun H => ?_) (fun H => ?_)
  · refine nx_int (x := (-1)) rfl rfl ?_
    exact nx_rit rfl rfl H
  refine nx_ld rfl rfl rfl rfl ?_
  refine nx_int (x := 0) rfl rfl ?_
  refine nx_int (x := 9999999) rfl rfl ?_
  refine nx_cSI (as := [eI x1, eI 0, eI 9999999]) (st' := []) rfl rfl (Nat.le_of_ble_eq_true rfl) rfl rfl (Nat.le_of_ble_eq_true rfl) H (fun Q H => TF_X13_in hW  H) (fun r21 H => ?_)
  refine nx_if rfl rfl (by rfl) H (fun H => ?_) (fun H => ?_)
  · refine nx_int (x := (-1)) rfl rfl ?_
    exact nx_rit rfl rfl H
  refine nx_ld rfl rfl rfl rfl ?_
  refine nx_int (x := 0) rfl rfl ?_
  refine nx_int (x := 109) rfl rfl ?_
  refine nx_cSI (as := [eI x2, eI 0, eI 109]) (st' := []) rfl rfl (Nat.le_of_ble_eq_true rfl) rfl rfl (Nat.le_of_ble_eq_true rfl) H (fun Q H => TF_X13_in hW  H) (fun r22 H => ?_)
  refine nx_if rfl rfl (by rfl) H (fun H => ?_) (fun H => ?_)
  · refine nx_int (x := (-1)) rfl rfl ?_
    exact nx_rit rfl rfl H
  refine nx_ld rfl rfl rfl rfl ?_
  refine nx_int (x := 0) rfl rfl ?_
  refine nx_int (x := 9999) rfl rfl ?_
  refine nx_cSI (as := [eI x3, eI 0, eI 9999]) (st' := []) rfl rfl (Nat.le_of_ble_eq_true rfl) rfl rfl (Nat.le_of_ble_eq_true rfl) H (fun Q H => TF_X13_in hW  H) (fun r23 H => ?_)
  refine nx_if rfl rfl (by rfl) H (fun H => ?_) (fun H => ?_)
  · refine nx_int (x := (-1)) rfl rfl ?_
    refine nx_st (ls' := [some (eR (some (13, 0))), some (eI x1), some (eI x2), some (eI x3), some (eI (-1)), none, none, none, none, none, none]) rfl rfl rfl (Nat.le_of_ble_eq_true rfl) rfl ?_
    refine nx_int (x := 0) rfl rfl ?_
    refine nx_st (ls' := [some (eR (some (13, 0))), some (eI x1), some (eI x2), some (eI x3), some (eI (-1)), some (eI 0), none, none, none, none, none]) rfl rfl rfl (Nat.le_of_ble_eq_true rfl) rfl ?_
    refine nx_int (x := 0) rfl rfl ?_
    refine nx_st (ls' := [some (eR (some (13, 0))), some (eI x1), some (eI x2), some (eI x3), some (eI (-1)), some (eI 0), some (eI 0), none, none, none, none]) rfl rfl rfl (Nat.le_of_ble_eq_true rfl) rfl ?_
    refine nx_int (x := 0) rfl rfl ?_
    show nX _ _ _ _ _ _ 51 _ _ _ _ _
    refine nx_st (ls' := [some (eR (some (13, 0))), some (eI x1), some (eI x2), some (eI x3), some (eI (-1)), some (eI 0), some (eI 0), some (eI 0), none, none, none]) rfl rfl rfl (Nat.le_of_ble_eq_true rfl) rfl ?_
    exact TB_X13_buys_53 hW    10000 _ _ _ _ _ _ _ _ _ _ _ H
  refine nx_int (x := (-1)) rfl rfl ?_
  exact nx_rit rfl rfl H
def F_X13_claim (t : TS) (x1 : Int32) (x2 : Int32) : Option (Int32 × TS) := (Option.bind (F_X13_in t x1 0 3) (fun r21 => (if r21 = 0 then (some ((-1), t)) else (Option.bind (F_X13_in t x2 1 999999) (fun r22 => (if ¬ r22 = 0 then (if ¬ (tI t 1386 0) = 12 then (gd (tI t 1386 0) (tL t 3387 0) (nxt (uA t 3387 0 (tI t 1386 0).toNatClampNeg x1) (fun t23 => (gd (tI t23 1386 0) (tL t23 3388 0) (nxt (uA t23 3388 0 (tI t23 1386 0).toNatClampNeg x2) (fun t24 => (nxt (uI t24 1386 0 ((tI t24 1386 0) + 1)) (fun t25 => (some ((tI t25 1386 0), t25)))))))))) else (some ((-3), t))) else (some ((-1), t))))))))
theorem TF_X13_claim {W : NW} {d : Nat} {t : TS} {x1 : Int32} {x2 : Int32} {Q : Option NV → TS → Prop} {bc bs : Nat} (hW : W.2.2.2 = mm_fx) (H : wp (F_X13_claim t x1 x2) (fun r => Q (some (eI r.1)) r.2)) : nC W (d + 2) 246 [eR (some (13, 0)), eI x1, eI x2] t bc bs Q := by
  refine nC_in (d := (d + 1)) (T := tX13_claim) (ls := [some (eR (some (13, 0))), some (eI x1), some (eI x2)]) rfl (Nat.le_of_ble_eq_true rfl) rfl (fun a0 e0 => ?_)
  unfold F_X13_claim at H
  refine nx_ld rfl rfl rfl rfl ?_
  refine nx_int (x := 0) rfl rfl ?_
  refine nx_int (x := 3) rfl rfl ?_
  refine nx_cSI (as := [eI x1, eI 0, eI 3]) (st' := []) rfl rfl (Nat.le_of_ble_eq_true rfl) rfl rfl (Nat.le_of_ble_eq_true rfl) H (fun Q H => TF_X13_in hW  H) (fun r21 H => ?_)
  refine nx_if rfl rfl (by rfl) H (fun H => ?_) (fun H => ?_)
  · refine nx_int (x := (-1)) rfl rfl ?_
    exact nx_rit rfl rfl H
  refine nx_ld rfl rfl rfl rfl ?_
  refine nx_int (x := 1) rfl rfl ?_
  refine nx_int (x := 999999) rfl rfl ?_
  refine nx_cSI (as := [eI x2, eI 1, eI 999999]) (st' := []) rfl rfl (Nat.le_of_ble_eq_true rfl) rfl rfl (Nat.le_of_ble_eq_true rfl) H (fun Q H => TF_X13_in hW  H) (fun r22 H => ?_)
  refine nx_if rfl rfl (by rfl) H (fun H => ?_) (fun H => ?_)
  · refine nx_ld rfl rfl rfl rfl ?_
    refine nx_getI rfl rfl rfl (by decide) ?_
    refine nx_int (x := 12) rfl rfl ?_
    refine nx_icmp rfl rfl (by rfl) H (fun H => ?_) (fun H => ?_)
    · refine nx_ld rfl rfl rfl rfl ?_
      refine nx_getFix rfl rfl rfl (by decide) (by rw [hW]; rfl) rfl ?_
      refine nx_ld rfl rfl rfl rfl ?_
      refine nx_getI rfl rfl rfl (by decide) ?_
      refine nx_ld rfl rfl rfl rfl ?_
      refine nx_iast (p := (3387, 0)) rfl rfl (Nat.le_of_ble_eq_true rfl) (Nat.le_of_ble_eq_true rfl) rfl H (fun t23 H => ?_)
      refine nx_ld rfl rfl rfl rfl ?_
      show nX _ _ _ _ _ _ 45 _ _ _ _ _
      refine nx_getFix rfl rfl rfl (by decide) (by rw [hW]; rfl) rfl ?_
      refine nx_ld rfl rfl rfl rfl ?_
      refine nx_getI rfl rfl rfl (by decide) ?_
      refine nx_ld rfl rfl rfl rfl ?_
      refine nx_iast (p := (3388, 0)) rfl rfl (Nat.le_of_ble_eq_true rfl) (Nat.le_of_ble_eq_true rfl) rfl H (fun t24 H => ?_)
      refine nx_ld rfl rfl rfl rfl ?_
      refine nx_dup rfl rfl (Nat.ne_of_beq_eq_false rfl) ?_
      refine nx_getI rfl rfl rfl (by decide) ?_
      show nX _ _ _ _ _ _ 59 _ _ _ _ _
      refine nx_int (x := 1) rfl rfl ?_
      refine nx_ii rfl rfl ?_
      refine nx_putI rfl rfl rfl (by decide) H (fun t25 H => ?_)
      refine nx_ld rfl rfl rfl rfl ?_
      refine nx_getI rfl rfl rfl (by decide) ?_
      exact nx_rit rfl rfl H
    refine nx_int (x := (-3)) rfl rfl ?_
    exact nx_rit rfl rfl H
  refine nx_int (x := (-1)) rfl rfl ?_
  exact nx_rit rfl rfl H
def B_X13_part_320 (t : TS) (v1 : Int32) (v2 : Int64) : Option (Int32 × TS) := (nxt (uI t 1390 0 (tI t 1386 0)) (fun t21 => (nxt (uI t21 1386 0 0) (fun t22 => (some ((((v1.toInt64) - v2).toInt32), t22))))))
theorem TB_X13_part_320 {W : NW} {d : Nat} {Q : Option NV → TS → Prop} {a0 : Nat → Nat → Nat} {e0 : Nat → Nat → Bool} {bc bs : Nat} (hW : W.2.2.2 = mm_fx) : ∀ (t : TS) (v1 : Int32) (v2 : Int64) (v4 : Int32) (v5 : Option NV) (v7 : Option NV) (v9 : Option NV) (v11 : Option NV) (v12 : Option NV), wp (B_X13_part_320 t v1 v2) (fun r => Q (some (eI r.1)) r.2) → nX W (d + 1) tX13_part Q a0 e0 320 [some (eR (some (13, 0))), some (eI v1), some (eJ v2), none, some (eI v4), v5, none, v7, none, v9, none, v11, v12] [] t bc bs := by
  intro t v1 v2 v4 v5 v7 v9 v11 v12 H
  unfold B_X13_part_320 at H
  refine nx_ld rfl rfl rfl rfl ?_
  refine nx_ld rfl rfl rfl rfl ?_
  refine nx_getI rfl rfl rfl (by decide) ?_
  refine nx_putI rfl rfl rfl (by decide) H (fun t21 H => ?_)
  refine nx_ld rfl rfl rfl rfl ?_
  refine nx_int (x := 0) rfl rfl ?_
  refine nx_putI rfl rfl rfl (by decide) H (fun t22 H => ?_)
  show nX _ _ _ _ _ _ 333 _ _ _ _ _
  refine nx_ld rfl rfl rfl rfl ?_
  refine nx_i2l rfl rfl ?_
  refine nx_ld rfl rfl rfl rfl ?_
  refine nx_jj rfl rfl ?_
  refine nx_l2i rfl rfl ?_
  exact nx_rit rfl rfl H
def B_X13_part_314 (k26 : TS → Int32 → Int64 → Int32 → Option (Int32 × TS)) (t : TS) (v1 : Int32) (v2 : Int64) (v4 : Int32) : Option (Int32 × TS) := (k26 t v1 v2 (v4 + 1))
theorem TB_X13_part_314 {W : NW} {d : Nat} {Q : Option NV → TS → Prop} {a0 : Nat → Nat → Nat} {e0 : Nat → Nat → Bool} {k26 : TS → Int32 → Int64 → Int32 → Option (Int32 × TS)} {bc bs : Nat} (hW : W.2.2.2 = mm_fx) (hk26 : ∀ (t : TS) (v1 : Int32) (v2 : Int64) (v4 : Int32) (v5 : Option NV) (v7 : Option NV) (v9 : Option NV) (v11 : Option NV) (v12 : Option NV), wp (k26 t v1 v2 v4) (fun r => Q (some (eI r.1)) r.2) → nX W (d + 1) tX13_part Q a0 e0 26 [some (eR (some (13, 0))), some (eI v1), some (eJ v2), none, some (eI v4), v5, none, v7, none, v9, none, v11, v12] [] t bc bs) : ∀ (t : TS) (v1 : Int32) (v2 : Int64) (v4 : Int32) (v5 : Int64) (v7 : Option NV) (v9 : Option NV) (v11 : Option NV) (v12 : Option NV), wp (B_X13_part_314 k26 t v1 v2 v4) (fun r => Q (some (eI r.1)) r.2) → nX W (d + 1) tX13_part Q a0 e0 314 [some (eR (some (13, 0))), some (eI v1), some (eJ v2), none, some (eI v4), some (eJ v5), none, v7, none, v9, none, v11, v12] [] t bc bs := by
  intro t v1 v2 v4 v5 v7 v9 v11 v12 H
  unfold B_X13_part_314 at H
  refine nx_iinc2 1 (ls' := [some (eR (some (13, 0))), some (eI v1), some (eJ v2), none, some (eI (v4 + 1)), some (eJ v5), none, v7, none, v9, none, v11, v12]) rfl rfl rfl rfl rfl ?_
  refine nx_goto rfl rfl ?_
  exact hk26 _ _ _ _ _ _ _ _ _ H
def B_X13_part_309 (k26 : TS → Int32 → Int64 → Int32 → Option (Int32 × TS)) (t : TS) (v1 : Int32) (v2 : Int64) (v4 : Int32) (v7 : Int64) : Option (Int32 × TS) := (B_X13_part_314 k26 t v1 (v2 - v7) v4)
theorem TB_X13_part_309 {W : NW} {d : Nat} {Q : Option NV → TS → Prop} {a0 : Nat → Nat → Nat} {e0 : Nat → Nat → Bool} {k26 : TS → Int32 → Int64 → Int32 → Option (Int32 × TS)} {bc bs : Nat} (hW : W.2.2.2 = mm_fx) (hk26 : ∀ (t : TS) (v1 : Int32) (v2 : Int64) (v4 : Int32) (v5 : Option NV) (v7 : Option NV) (v9 : Option NV) (v11 : Option NV) (v12 : Option NV), wp (k26 t v1 v2 v4) (fun r => Q (some (eI r.1)) r.2) → nX W (d + 1) tX13_part Q a0 e0 26 [some (eR (some (13, 0))), some (eI v1), some (eJ v2), none, some (eI v4), v5, none, v7, none, v9, none, v11, v12] [] t bc bs) : ∀ (t : TS) (v1 : Int32) (v2 : Int64) (v4 : Int32) (v5 : Int64) (v7 : Int64) (v9 : Int64) (v11 : Int32) (v12 : Option NV), wp (B_X13_part_309 k26 t v1 v2 v4 v7) (fun r => Q (some (eI r.1)) r.2) → nX W (d + 1) tX13_part Q a0 e0 309 [some (eR (some (13, 0))), some (eI v1), some (eJ v2), none, some (eI v4), some (eJ v5), none, some (eJ v7), none, some (eJ v9), none, some (eI v11), v12] [] t bc bs := by
  intro t v1 v2 v4 v5 v7 v9 v11 v12 H
  unfold B_X13_part_309 at H
  refine nx_ld rfl rfl rfl rfl ?_
  refine nx_ld rfl rfl rfl rfl ?_
  refine nx_jj rfl rfl ?_
  refine nx_st2 (ls' := [some (eR (some (13, 0))), some (eI v1), some (eJ (v2 - v7)), none, some (eI v4), some (eJ v5), none, some (eJ v7), none, some (eJ v9), none, some (eI v11), v12]) rfl rfl (Nat.le_of_ble_eq_true rfl) rfl ?_
  exact TB_X13_part_314 hW   hk26 _ _ _ _ _ _ _ _ _ H
def B_X13_part_289 (k26 : TS → Int32 → Int64 → Int32 → Option (Int32 × TS)) (k179 : TS → Int32 → Int64 → Int32 → Int64 → Int64 → Int64 → Option (Int32 × TS)) (t : TS) (v1 : Int32) (v2 : Int64) (v4 : Int32) (v5 : Int64) (v7 : Int64) (v9 : Int64) (v11 : Int32) : Option (Int32 × TS) := (gd v11 (tL t 3389 0) (gd v11 (tL t 3389 0) (nxt (uA t 3389 0 v11.toNatClampNeg ((tA t 3389 0 v11.toNatClampNeg) + 1)) (fun t21 => (k179 t21 v1 v2 v4 v5 v7 (v9 - 1))))))
theorem TB_X13_part_289 {W : NW} {d : Nat} {Q : Option NV → TS → Prop} {a0 : Nat → Nat → Nat} {e0 : Nat → Nat → Bool} {k26 : TS → Int32 → Int64 → Int32 → Option (Int32 × TS)} {k179 : TS → Int32 → Int64 → Int32 → Int64 → Int64 → Int64 → Option (Int32 × TS)} {bc bs : Nat} (hW : W.2.2.2 = mm_fx) (hk26 : ∀ (t : TS) (v1 : Int32) (v2 : Int64) (v4 : Int32) (v5 : Option NV) (v7 : Option NV) (v9 : Option NV) (v11 : Option NV) (v12 : Option NV), wp (k26 t v1 v2 v4) (fun r => Q (some (eI r.1)) r.2) → nX W (d + 1) tX13_part Q a0 e0 26 [some (eR (some (13, 0))), some (eI v1), some (eJ v2), none, some (eI v4), v5, none, v7, none, v9, none, v11, v12] [] t bc bs) (hk179 : ∀ (t : TS) (v1 : Int32) (v2 : Int64) (v4 : Int32) (v5 : Int64) (v7 : Int64) (v9 : Int64) (v11 : Int32) (v12 : Option NV), wp (k179 t v1 v2 v4 v5 v7 v9) (fun r => Q (some (eI r.1)) r.2) → nX W (d + 1) tX13_part Q a0 e0 179 [some (eR (some (13, 0))), some (eI v1), some (eJ v2), none, some (eI v4), some (eJ v5), none, some (eJ v7), none, some (eJ v9), none, some (eI v11), v12] [] t bc bs) : ∀ (t : TS) (v1 : Int32) (v2 : Int64) (v4 : Int32) (v5 : Int64) (v7 : Int64) (v9 : Int64) (v11 : Int32) (v12 : Int32), wp (B_X13_part_289 k26 k179 t v1 v2 v4 v5 v7 v9 v11) (fun r => Q (some (eI r.1)) r.2) → nX W (d + 1) tX13_part Q a0 e0 289 [some (eR (some (13, 0))), some (eI v1), some (eJ v2), none, some (eI v4), some (eJ v5), none, some (eJ v7), none, some (eJ v9), none, some (eI v11), some (eI v12)] [] t bc bs := by
  intro t v1 v2 v4 v5 v7 v9 v11 v12 H
  unfold B_X13_part_289 at H
  refine nx_ld rfl rfl rfl rfl ?_
  refine nx_getFix rfl rfl rfl (by decide) (by rw [hW]; rfl) rfl ?_
  refine nx_ld rfl rfl rfl rfl ?_
  refine nx_dup2 rfl rfl (Nat.ne_of_beq_eq_false rfl) (Nat.ne_of_beq_eq_false rfl) ?_
  refine nx_iald (p := (3389, 0)) rfl rfl (Nat.le_of_ble_eq_true rfl) (Nat.le_of_ble_eq_true rfl) rfl H (fun H => ?_)
  refine nx_int (x := 1) rfl rfl ?_
  refine nx_ii rfl rfl ?_
  show nX _ _ _ _ _ _ 299 _ _ _ _ _
  refine nx_iast (p := (3389, 0)) rfl rfl (Nat.le_of_ble_eq_true rfl) (Nat.le_of_ble_eq_true rfl) rfl H (fun t21 H => ?_)
  refine nx_ld rfl rfl rfl rfl ?_
  refine nx_long (x := 1) rfl rfl ?_
  refine nx_jj rfl rfl ?_
  refine nx_st2 (ls' := [some (eR (some (13, 0))), some (eI v1), some (eJ v2), none, some (eI v4), some (eJ v5), none, some (eJ v7), none, some (eJ (v9 - 1)), none, some (eI v11), some (eI v12)]) rfl rfl (Nat.le_of_ble_eq_true rfl) rfl ?_
  refine nx_goto rfl rfl ?_
  exact hk179 _ _ _ _ _ _ _ _ _ H
def B_X13_part_283 (k26 : TS → Int32 → Int64 → Int32 → Option (Int32 × TS)) (k179 : TS → Int32 → Int64 → Int32 → Int64 → Int64 → Int64 → Option (Int32 × TS)) (k192 : TS → Int32 → Int64 → Int32 → Int64 → Int64 → Int64 → Int32 → Int32 → Option (Int32 × TS)) (t : TS) (v1 : Int32) (v2 : Int64) (v4 : Int32) (v5 : Int64) (v7 : Int64) (v9 : Int64) (v11 : Int32) (v12 : Int32) : Option (Int32 × TS) := (k192 t v1 v2 v4 v5 v7 v9 v11 (v12 + 1))
theorem TB_X13_part_283 {W : NW} {d : Nat} {Q : Option NV → TS → Prop} {a0 : Nat → Nat → Nat} {e0 : Nat → Nat → Bool} {k26 : TS → Int32 → Int64 → Int32 → Option (Int32 × TS)} {k179 : TS → Int32 → Int64 → Int32 → Int64 → Int64 → Int64 → Option (Int32 × TS)} {k192 : TS → Int32 → Int64 → Int32 → Int64 → Int64 → Int64 → Int32 → Int32 → Option (Int32 × TS)} {bc bs : Nat} (hW : W.2.2.2 = mm_fx) (hk26 : ∀ (t : TS) (v1 : Int32) (v2 : Int64) (v4 : Int32) (v5 : Option NV) (v7 : Option NV) (v9 : Option NV) (v11 : Option NV) (v12 : Option NV), wp (k26 t v1 v2 v4) (fun r => Q (some (eI r.1)) r.2) → nX W (d + 1) tX13_part Q a0 e0 26 [some (eR (some (13, 0))), some (eI v1), some (eJ v2), none, some (eI v4), v5, none, v7, none, v9, none, v11, v12] [] t bc bs) (hk179 : ∀ (t : TS) (v1 : Int32) (v2 : Int64) (v4 : Int32) (v5 : Int64) (v7 : Int64) (v9 : Int64) (v11 : Int32) (v12 : Option NV), wp (k179 t v1 v2 v4 v5 v7 v9) (fun r => Q (some (eI r.1)) r.2) → nX W (d + 1) tX13_part Q a0 e0 179 [some (eR (some (13, 0))), some (eI v1), some (eJ v2), none, some (eI v4), some (eJ v5), none, some (eJ v7), none, some (eJ v9), none, some (eI v11), v12] [] t bc bs) (hk192 : ∀ (t : TS) (v1 : Int32) (v2 : Int64) (v4 : Int32) (v5 : Int64) (v7 : Int64) (v9 : Int64) (v11 : Int32) (v12 : Int32), wp (k192 t v1 v2 v4 v5 v7 v9 v11 v12) (fun r => Q (some (eI r.1)) r.2) → nX W (d + 1) tX13_part Q a0 e0 192 [some (eR (some (13, 0))), some (eI v1), some (eJ v2), none, some (eI v4), some (eJ v5), none, some (eJ v7), none, some (eJ v9), none, some (eI v11), some (eI v12)] [] t bc bs) : ∀ (t : TS) (v1 : Int32) (v2 : Int64) (v4 : Int32) (v5 : Int64) (v7 : Int64) (v9 : Int64) (v11 : Int32) (v12 : Int32), wp (B_X13_part_283 k26 k179 k192 t v1 v2 v4 v5 v7 v9 v11 v12) (fun r => Q (some (eI r.1)) r.2) → nX W (d + 1) tX13_part Q a0 e0 283 [some (eR (some (13, 0))), some (eI v1), some (eJ v2), none, some (eI v4), some (eJ v5), none, some (eJ v7), none, some (eJ v9), none, some (eI v11), some (eI v12)] [] t bc bs := by
  intro t v1 v2 v4 v5 v7 v9 v11 v12 H
  unfold B_X13_part_283 at H
  refine nx_iinc2 1 (ls' := [some (eR (some (13, 0))), some (eI v1), some (eJ v2), none, some (eI v4), some (eJ v5), none, some (eJ v7), none, some (eJ v9), none, some (eI v11), some (eI (v12 + 1))]) rfl rfl rfl rfl rfl ?_
  refine nx_goto rfl rfl ?_
  exact hk192 _ _ _ _ _ _ _ _ _ H
def B_X13_part_279 (k26 : TS → Int32 → Int64 → Int32 → Option (Int32 × TS)) (k179 : TS → Int32 → Int64 → Int32 → Int64 → Int64 → Int64 → Option (Int32 × TS)) (k192 : TS → Int32 → Int64 → Int32 → Int64 → Int64 → Int64 → Int32 → Int32 → Option (Int32 × TS)) (t : TS) (v1 : Int32) (v2 : Int64) (v4 : Int32) (v5 : Int64) (v7 : Int64) (v9 : Int64) (v12 : Int32) : Option (Int32 × TS) := (B_X13_part_283 k26 k179 k192 t v1 v2 v4 v5 v7 v9 v12 v12)
theorem TB_X13_part_279 {W : NW} {d : Nat} {Q : Option NV → TS → Prop} {a0 : Nat → Nat → Nat} {e0 : Nat → Nat → Bool} {k26 : TS → Int32 → Int64 → Int32 → Option (Int32 × TS)} {k179 : TS → Int32 → Int64 → Int32 → Int64 → Int64 → Int64 → Option (Int32 × TS)} {k192 : TS → Int32 → Int64 → Int32 → Int64 → Int64 → Int64 → Int32 → Int32 → Option (Int32 × TS)} {bc bs : Nat} (hW : W.2.2.2 = mm_fx) (hk26 : ∀ (t : TS) (v1 : Int32) (v2 : Int64) (v4 : Int32) (v5 : Option NV) (v7 : Option NV) (v9 : Option NV) (v11 : Option NV) (v12 : Option NV), wp (k26 t v1 v2 v4) (fun r => Q (some (eI r.1)) r.2) → nX W (d + 1) tX13_part Q a0 e0 26 [some (eR (some (13, 0))), some (eI v1), some (eJ v2), none, some (eI v4), v5, none, v7, none, v9, none, v11, v12] [] t bc bs) (hk179 : ∀ (t : TS) (v1 : Int32) (v2 : Int64) (v4 : Int32) (v5 : Int64) (v7 : Int64) (v9 : Int64) (v11 : Int32) (v12 : Option NV), wp (k179 t v1 v2 v4 v5 v7 v9) (fun r => Q (some (eI r.1)) r.2) → nX W (d + 1) tX13_part Q a0 e0 179 [some (eR (some (13, 0))), some (eI v1), some (eJ v2), none, some (eI v4), some (eJ v5), none, some (eJ v7), none, some (eJ v9), none, some (eI v11), v12] [] t bc bs) (hk192 : ∀ (t : TS) (v1 : Int32) (v2 : Int64) (v4 : Int32) (v5 : Int64) (v7 : Int64) (v9 : Int64) (v11 : Int32) (v12 : Int32), wp (k192 t v1 v2 v4 v5 v7 v9 v11 v12) (fun r => Q (some (eI r.1)) r.2) → nX W (d + 1) tX13_part Q a0 e0 192 [some (eR (some (13, 0))), some (eI v1), some (eJ v2), none, some (eI v4), some (eJ v5), none, some (eJ v7), none, some (eJ v9), none, some (eI v11), some (eI v12)] [] t bc bs) : ∀ (t : TS) (v1 : Int32) (v2 : Int64) (v4 : Int32) (v5 : Int64) (v7 : Int64) (v9 : Int64) (v11 : Int32) (v12 : Int32), wp (B_X13_part_279 k26 k179 k192 t v1 v2 v4 v5 v7 v9 v12) (fun r => Q (some (eI r.1)) r.2) → nX W (d + 1) tX13_part Q a0 e0 279 [some (eR (some (13, 0))), some (eI v1), some (eJ v2), none, some (eI v4), some (eJ v5), none, some (eJ v7), none, some (eJ v9), none, some (eI v11), some (eI v12)] [] t bc bs := by
  intro t v1 v2 v4 v5 v7 v9 v11 v12 H
  unfold B_X13_part_279 at H
  refine nx_ld rfl rfl rfl rfl ?_
  refine nx_st (ls' := [some (eR (some (13, 0))), some (eI v1), some (eJ v2), none, some (eI v4), some (eJ v5), none, some (eJ v7), none, some (eJ v9), none, some (eI v12), some (eI v12)]) rfl rfl rfl (Nat.le_of_ble_eq_true rfl) rfl ?_
  exact TB_X13_part_283 hW   hk26 hk179 hk192 _ _ _ _ _ _ _ _ _ H
def BB_X13_part_192 (k26 : TS → Int32 → Int64 → Int32 → Option (Int32 × TS)) (k179 : TS → Int32 → Int64 → Int32 → Int64 → Int64 → Int64 → Option (Int32 × TS)) (k192 : TS → Int32 → Int64 → Int32 → Int64 → Int64 → Int64 → Int32 → Int32 → Option (Int32 × TS)) (t : TS) (v1 : Int32) (v2 : Int64) (v4 : Int32) (v5 : Int64) (v7 : Int64) (v9 : Int64) (v11 : Int32) (v12 : Int32) : Option (Int32 × TS) := (if (tI t 1386 0) ≤ v12 then (B_X13_part_289 k26 k179 t v1 v2 v4 v5 v7 v9 v11) else (gd v12 (tL t 3387 0) (if ¬ (tA t 3387 0 v12.toNatClampNeg) = v4 then (B_X13_part_283 k26 k179 k192 t v1 v2 v4 v5 v7 v9 v11 v12) else (gd v12 (tL t 3389 0) (gd v12 (tL t 3388 0) (gzJ v5 (if (lg_cmp ((tA t 3389 0 v12.toNatClampNeg).toInt64) ((v7 * ((tA t 3388 0 v12.toNatClampNeg).toInt64)) / v5)) ≤ 0 then (if v11 < 0 then (B_X13_part_279 k26 k179 k192 t v1 v2 v4 v5 v7 v9 v12) else (gd v12 (tL t 3388 0) (gzJ v5 (gd v11 (tL t 3388 0) (gzJ v5 (if (lg_cmp (jrm (v7 * ((tA t 3388 0 v12.toNatClampNeg).toInt64)) v5) (jrm (v7 * ((tA t 3388 0 v11.toNatClampNeg).toInt64)) v5)) ≤ 0 then (B_X13_part_283 k26 k179 k192 t v1 v2 v4 v5 v7 v9 v11 v12) else (B_X13_part_279 k26 k179 k192 t v1 v2 v4 v5 v7 v9 v12))))))) else (B_X13_part_283 k26 k179 k192 t v1 v2 v4 v5 v7 v9 v11 v12))))))))
theorem TBB_X13_part_192 {W : NW} {d : Nat} {Q : Option NV → TS → Prop} {a0 : Nat → Nat → Nat} {e0 : Nat → Nat → Bool} {k26 : TS → Int32 → Int64 → Int32 → Option (Int32 × TS)} {k179 : TS → Int32 → Int64 → Int32 → Int64 → Int64 → Int64 → Option (Int32 × TS)} {k192 : TS → Int32 → Int64 → Int32 → Int64 → Int64 → Int64 → Int32 → Int32 → Option (Int32 × TS)} {bc bs : Nat} (hW : W.2.2.2 = mm_fx) (hk26 : ∀ (t : TS) (v1 : Int32) (v2 : Int64) (v4 : Int32) (v5 : Option NV) (v7 : Option NV) (v9 : Option NV) (v11 : Option NV) (v12 : Option NV), wp (k26 t v1 v2 v4) (fun r => Q (some (eI r.1)) r.2) → nX W (d + 1) tX13_part Q a0 e0 26 [some (eR (some (13, 0))), some (eI v1), some (eJ v2), none, some (eI v4), v5, none, v7, none, v9, none, v11, v12] [] t bc bs) (hk179 : ∀ (t : TS) (v1 : Int32) (v2 : Int64) (v4 : Int32) (v5 : Int64) (v7 : Int64) (v9 : Int64) (v11 : Int32) (v12 : Option NV), wp (k179 t v1 v2 v4 v5 v7 v9) (fun r => Q (some (eI r.1)) r.2) → nX W (d + 1) tX13_part Q a0 e0 179 [some (eR (some (13, 0))), some (eI v1), some (eJ v2), none, some (eI v4), some (eJ v5), none, some (eJ v7), none, some (eJ v9), none, some (eI v11), v12] [] t bc bs) (hk192 : ∀ (t : TS) (v1 : Int32) (v2 : Int64) (v4 : Int32) (v5 : Int64) (v7 : Int64) (v9 : Int64) (v11 : Int32) (v12 : Int32), wp (k192 t v1 v2 v4 v5 v7 v9 v11 v12) (fun r => Q (some (eI r.1)) r.2) → nX W (d + 1) tX13_part Q a0 e0 192 [some (eR (some (13, 0))), some (eI v1), some (eJ v2), none, some (eI v4), some (eJ v5), none, some (eJ v7), none, some (eJ v9), none, some (eI v11), some (eI v12)] [] t bc bs) : ∀ (t : TS) (v1 : Int32) (v2 : Int64) (v4 : Int32) (v5 : Int64) (v7 : Int64) (v9 : Int64) (v11 : Int32) (v12 : Int32), wp (BB_X13_part_192 k26 k179 k192 t v1 v2 v4 v5 v7 v9 v11 v12) (fun r => Q (some (eI r.1)) r.2) → nX W (d + 1) tX13_part Q a0 e0 192 [some (eR (some (13, 0))), some (eI v1), some (eJ v2), none, some (eI v4), some (eJ v5), none, some (eJ v7), none, some (eJ v9), none, some (eI v11), some (eI v12)] [] t bc bs := by
  intro t v1 v2 v4 v5 v7 v9 v11 v12 H
  unfold BB_X13_part_192 at H
  refine nx_ld rfl rfl rfl rfl ?_
  refine nx_ld rfl rfl rfl rfl ?_
  refine nx_getI rfl rfl rfl (by decide) ?_
  refine nx_icmp rfl rfl (by rfl) H (fun H => ?_) (fun H => ?_)
  · exact TB_X13_part_289 hW   hk26 hk179 _ _ _ _ _ _ _ _ _ H
  refine nx_ld rfl rfl rfl rfl ?_
  refine nx_getFix rfl rfl rfl (by decide) (by rw [hW]; rfl) rfl ?_
  refine nx_ld rfl rfl rfl rfl ?_
  refine nx_iald (p := (3387, 0)) rfl rfl (Nat.le_of_ble_eq_true rfl) (Nat.le_of_ble_eq_true rfl) rfl H (fun H => ?_)
  refine nx_ld rfl rfl rfl rfl ?_
  refine nx_icmp rfl rfl (by rfl) H (fun H => ?_) (fun H => ?_)
  · exact TB_X13_part_283 hW   hk26 hk179 hk192 _ _ _ _ _ _ _ _ _ H
  refine nx_ld rfl rfl rfl rfl ?_
  refine nx_getFix rfl rfl rfl (by decide) (by rw [hW]; rfl) rfl ?_
  refine nx_ld rfl rfl rfl rfl ?_
  refine nx_iald (p := (3389, 0)) rfl rfl (Nat.le_of_ble_eq_true rfl) (Nat.le_of_ble_eq_true rfl) rfl H (fun H => ?_)
  refine nx_i2l rfl rfl ?_
  refine nx_ld rfl rfl rfl rfl ?_
  refine nx_ld rfl rfl rfl rfl ?_
  show nX _ _ _ _ _ _ 224 _ _ _ _ _
  refine nx_getFix rfl rfl rfl (by decide) (by rw [hW]; rfl) rfl ?_
  refine nx_ld rfl rfl rfl rfl ?_
  refine nx_iald (p := (3388, 0)) rfl rfl (Nat.le_of_ble_eq_true rfl) (Nat.le_of_ble_eq_true rfl) rfl H (fun H => ?_)
  refine nx_i2l rfl rfl ?_
  refine nx_jj rfl rfl ?_
  refine nx_ld rfl rfl rfl rfl ?_
  refine nx_jdiv rfl rfl H (fun H => ?_)
  refine nx_lcmp rfl rfl ?_
  show nX _ _ _ _ _ _ 236 _ _ _ _ _
  refine nx_if rfl rfl (by rfl) H (fun H => ?_) (fun H => ?_)
  · refine nx_ld rfl rfl rfl rfl ?_
    refine nx_if rfl rfl (by rfl) H (fun H => ?_) (fun H => ?_)
    · exact TB_X13_part_279 hW   hk26 hk179 hk192 _ _ _ _ _ _ _ _ _ H
    refine nx_ld rfl rfl rfl rfl ?_
    refine nx_ld rfl rfl rfl rfl ?_
    refine nx_getFix rfl rfl rfl (by decide) (by rw [hW]; rfl) rfl ?_
    refine nx_ld rfl rfl rfl rfl ?_
    refine nx_iald (p := (3388, 0)) rfl rfl (Nat.le_of_ble_eq_true rfl) (Nat.le_of_ble_eq_true rfl) rfl H (fun H => ?_)
    refine nx_i2l rfl rfl ?_
    refine nx_jj rfl rfl ?_
    show nX _ _ _ _ _ _ 258 _ _ _ _ _
    refine nx_ld rfl rfl rfl rfl ?_
    refine nx_jdiv rfl rfl H (fun H => ?_)
    refine nx_ld rfl rfl rfl rfl ?_
    refine nx_ld rfl rfl rfl rfl ?_
    refine nx_getFix rfl rfl rfl (by decide) (by rw [hW]; rfl) rfl ?_
    refine nx_ld rfl rfl rfl rfl ?_
    refine nx_iald (p := (3388, 0)) rfl rfl (Nat.le_of_ble_eq_true rfl) (Nat.le_of_ble_eq_true rfl) rfl H (fun H => ?_)
    refine nx_i2l rfl rfl ?_
    show nX _ _ _ _ _ _ 271 _ _ _ _ _
    refine nx_jj rfl rfl ?_
    refine nx_ld rfl rfl rfl rfl ?_
    refine nx_jdiv rfl rfl H (fun H => ?_)
    refine nx_lcmp rfl rfl ?_
    refine nx_if rfl rfl (by rfl) H (fun H => ?_) (fun H => ?_)
    · exact TB_X13_part_283 hW   hk26 hk179 hk192 _ _ _ _ _ _ _ _ _ H
    exact TB_X13_part_279 hW   hk26 hk179 hk192 _ _ _ _ _ _ _ _ _ H
  refine nx_goto rfl rfl ?_
  exact TB_X13_part_283 hW   hk26 hk179 hk192 _ _ _ _ _ _ _ _ _ H
def B_X13_part_192 (k26 : TS → Int32 → Int64 → Int32 → Option (Int32 × TS)) (k179 : TS → Int32 → Int64 → Int32 → Int64 → Int64 → Int64 → Option (Int32 × TS)) : Nat → TS → Int32 → Int64 → Int32 → Int64 → Int64 → Int64 → Int32 → Int32 → Option (Int32 × TS)
  | 0 => fun _ _ _ _ _ _ _ _ _ => none
  | n + 1 => fun t v1 v2 v4 v5 v7 v9 v11 v12 => BB_X13_part_192 k26 k179 (B_X13_part_192 k26 k179 n) t v1 v2 v4 v5 v7 v9 v11 v12
theorem TB_X13_part_192 {W : NW} {d : Nat} {Q : Option NV → TS → Prop} {a0 : Nat → Nat → Nat} {e0 : Nat → Nat → Bool} {k26 : TS → Int32 → Int64 → Int32 → Option (Int32 × TS)} {k179 : TS → Int32 → Int64 → Int32 → Int64 → Int64 → Int64 → Option (Int32 × TS)} {bc bs : Nat} (hW : W.2.2.2 = mm_fx) (hk26 : ∀ (t : TS) (v1 : Int32) (v2 : Int64) (v4 : Int32) (v5 : Option NV) (v7 : Option NV) (v9 : Option NV) (v11 : Option NV) (v12 : Option NV), wp (k26 t v1 v2 v4) (fun r => Q (some (eI r.1)) r.2) → nX W (d + 1) tX13_part Q a0 e0 26 [some (eR (some (13, 0))), some (eI v1), some (eJ v2), none, some (eI v4), v5, none, v7, none, v9, none, v11, v12] [] t bc bs) (hk179 : ∀ (t : TS) (v1 : Int32) (v2 : Int64) (v4 : Int32) (v5 : Int64) (v7 : Int64) (v9 : Int64) (v11 : Int32) (v12 : Option NV), wp (k179 t v1 v2 v4 v5 v7 v9) (fun r => Q (some (eI r.1)) r.2) → nX W (d + 1) tX13_part Q a0 e0 179 [some (eR (some (13, 0))), some (eI v1), some (eJ v2), none, some (eI v4), some (eJ v5), none, some (eJ v7), none, some (eJ v9), none, some (eI v11), v12] [] t bc bs) : ∀ (n : Nat) (t : TS) (v1 : Int32) (v2 : Int64) (v4 : Int32) (v5 : Int64) (v7 : Int64) (v9 : Int64) (v11 : Int32) (v12 : Int32), wp (B_X13_part_192 k26 k179 n t v1 v2 v4 v5 v7 v9 v11 v12) (fun r => Q (some (eI r.1)) r.2) → nX W (d + 1) tX13_part Q a0 e0 192 [some (eR (some (13, 0))), some (eI v1), some (eJ v2), none, some (eI v4), some (eJ v5), none, some (eJ v7), none, some (eJ v9), none, some (eI v11), some (eI v12)] [] t bc bs := by
  intro n
  induction n with
  | zero => intro t v1 v2 v4 v5 v7 v9 v11 v12 H; exact (wp_none H).elim
  | succ n ih =>
    intro t v1 v2 v4 v5 v7 v9 v11 v12 H
    exact TBB_X13_part_192 hW   hk26 hk179 ih t v1 v2 v4 v5 v7 v9 v11 v12 H
def BB_X13_part_179 (k26 : TS → Int32 → Int64 → Int32 → Option (Int32 × TS)) (k179 : TS → Int32 → Int64 → Int32 → Int64 → Int64 → Int64 → Option (Int32 × TS)) (t : TS) (v1 : Int32) (v2 : Int64) (v4 : Int32) (v5 : Int64) (v7 : Int64) (v9 : Int64) : Option (Int32 × TS) := (if (lg_cmp v9 0) ≤ 0 then (B_X13_part_309 k26 t v1 v2 v4 v7) else (B_X13_part_192 k26 k179 10000 t v1 v2 v4 v5 v7 v9 (-1) 0))
theorem TBB_X13_part_179 {W : NW} {d : Nat} {Q : Option NV → TS → Prop} {a0 : Nat → Nat → Nat} {e0 : Nat → Nat → Bool} {k26 : TS → Int32 → Int64 → Int32 → Option (Int32 × TS)} {k179 : TS → Int32 → Int64 → Int32 → Int64 → Int64 → Int64 → Option (Int32 × TS)} {bc bs : Nat} (hW : W.2.2.2 = mm_fx) (hk26 : ∀ (t : TS) (v1 : Int32) (v2 : Int64) (v4 : Int32) (v5 : Option NV) (v7 : Option NV) (v9 : Option NV) (v11 : Option NV) (v12 : Option NV), wp (k26 t v1 v2 v4) (fun r => Q (some (eI r.1)) r.2) → nX W (d + 1) tX13_part Q a0 e0 26 [some (eR (some (13, 0))), some (eI v1), some (eJ v2), none, some (eI v4), v5, none, v7, none, v9, none, v11, v12] [] t bc bs) (hk179 : ∀ (t : TS) (v1 : Int32) (v2 : Int64) (v4 : Int32) (v5 : Int64) (v7 : Int64) (v9 : Int64) (v11 : Int32) (v12 : Option NV), wp (k179 t v1 v2 v4 v5 v7 v9) (fun r => Q (some (eI r.1)) r.2) → nX W (d + 1) tX13_part Q a0 e0 179 [some (eR (some (13, 0))), some (eI v1), some (eJ v2), none, some (eI v4), some (eJ v5), none, some (eJ v7), none, some (eJ v9), none, some (eI v11), v12] [] t bc bs) : ∀ (t : TS) (v1 : Int32) (v2 : Int64) (v4 : Int32) (v5 : Int64) (v7 : Int64) (v9 : Int64) (v11 : Int32) (v12 : Option NV), wp (BB_X13_part_179 k26 k179 t v1 v2 v4 v5 v7 v9) (fun r => Q (some (eI r.1)) r.2) → nX W (d + 1) tX13_part Q a0 e0 179 [some (eR (some (13, 0))), some (eI v1), some (eJ v2), none, some (eI v4), some (eJ v5), none, some (eJ v7), none, some (eJ v9), none, some (eI v11), v12] [] t bc bs := by
  intro t v1 v2 v4 v5 v7 v9 v11 v12 H
  unfold BB_X13_part_179 at H
  refine nx_ld rfl rfl rfl rfl ?_
  refine nx_long (x := 0) rfl rfl ?_
  refine nx_lcmp rfl rfl ?_
  refine nx_if rfl rfl (by rfl) H (fun H => ?_) (fun H => ?_)
  · exact TB_X13_part_309 hW   hk26 _ _ _ _ _ _ _ _ _ H
  refine nx_int (x := (-1)) rfl rfl ?_
  refine nx_st (ls' := [some (eR (some (13, 0))), some (eI v1), some (eJ v2), none, some (eI v4), some (eJ v5), none, some (eJ v7), none, some (eJ v9), none, some (eI (-1)), v12]) rfl rfl rfl (Nat.le_of_ble_eq_true rfl) rfl ?_
  refine nx_int (x := 0) rfl rfl ?_
  refine nx_st (ls' := [some (eR (some (13, 0))), some (eI v1), some (eJ v2), none, some (eI v4), some (eJ v5), none, some (eJ v7), none, some (eJ v9), none, some (eI (-1)), some (eI 0)]) rfl rfl rfl (Nat.le_of_ble_eq_true rfl) rfl ?_
  exact TB_X13_part_192 hW   hk26 hk179 10000 _ _ _ _ _ _ _ _ _ H
def B_X13_part_179 (k26 : TS → Int32 → Int64 → Int32 → Option (Int32 × TS)) : Nat → TS → Int32 → Int64 → Int32 → Int64 → Int64 → Int64 → Option (Int32 × TS)
  | 0 => fun _ _ _ _ _ _ _ => none
  | n + 1 => fun t v1 v2 v4 v5 v7 v9 => BB_X13_part_179 k26 (B_X13_part_179 k26 n) t v1 v2 v4 v5 v7 v9
theorem TB_X13_part_179 {W : NW} {d : Nat} {Q : Option NV → TS → Prop} {a0 : Nat → Nat → Nat} {e0 : Nat → Nat → Bool} {k26 : TS → Int32 → Int64 → Int32 → Option (Int32 × TS)} {bc bs : Nat} (hW : W.2.2.2 = mm_fx) (hk26 : ∀ (t : TS) (v1 : Int32) (v2 : Int64) (v4 : Int32) (v5 : Option NV) (v7 : Option NV) (v9 : Option NV) (v11 : Option NV) (v12 : Option NV), wp (k26 t v1 v2 v4) (fun r => Q (some (eI r.1)) r.2) → nX W (d + 1) tX13_part Q a0 e0 26 [some (eR (some (13, 0))), some (eI v1), some (eJ v2), none, some (eI v4), v5, none, v7, none, v9, none, v11, v12] [] t bc bs) : ∀ (n : Nat) (t : TS) (v1 : Int32) (v2 : Int64) (v4 : Int32) (v5 : Int64) (v7 : Int64) (v9 : Int64) (v11 : Int32) (v12 : Option NV), wp (B_X13_part_179 k26 n t v1 v2 v4 v5 v7 v9) (fun r => Q (some (eI r.1)) r.2) → nX W (d + 1) tX13_part Q a0 e0 179 [some (eR (some (13, 0))), some (eI v1), some (eJ v2), none, some (eI v4), some (eJ v5), none, some (eJ v7), none, some (eJ v9), none, some (eI v11), v12] [] t bc bs := by
  intro n
  induction n with
  | zero => intro t v1 v2 v4 v5 v7 v9 v11 v12 H; exact (wp_none H).elim
  | succ n ih =>
    intro t v1 v2 v4 v5 v7 v9 v11 v12 H
    exact TBB_X13_part_179 hW   hk26 ih t v1 v2 v4 v5 v7 v9 v11 v12 H
def B_X13_part_173 (k26 : TS → Int32 → Int64 → Int32 → Option (Int32 × TS)) (k114 : TS → Int32 → Int64 → Int32 → Int64 → Int64 → Int64 → Int32 → Option (Int32 × TS)) (t : TS) (v1 : Int32) (v2 : Int64) (v4 : Int32) (v5 : Int64) (v7 : Int64) (v9 : Int64) (v11 : Int32) : Option (Int32 × TS) := (k114 t v1 v2 v4 v5 v7 v9 (v11 + 1))
theorem TB_X13_part_173 {W : NW} {d : Nat} {Q : Option NV → TS → Prop} {a0 : Nat → Nat → Nat} {e0 : Nat → Nat → Bool} {k26 : TS → Int32 → Int64 → Int32 → Option (Int32 × TS)} {k114 : TS → Int32 → Int64 → Int32 → Int64 → Int64 → Int64 → Int32 → Option (Int32 × TS)} {bc bs : Nat} (hW : W.2.2.2 = mm_fx) (hk26 : ∀ (t : TS) (v1 : Int32) (v2 : Int64) (v4 : Int32) (v5 : Option NV) (v7 : Option NV) (v9 : Option NV) (v11 : Option NV) (v12 : Option NV), wp (k26 t v1 v2 v4) (fun r => Q (some (eI r.1)) r.2) → nX W (d + 1) tX13_part Q a0 e0 26 [some (eR (some (13, 0))), some (eI v1), some (eJ v2), none, some (eI v4), v5, none, v7, none, v9, none, v11, v12] [] t bc bs) (hk114 : ∀ (t : TS) (v1 : Int32) (v2 : Int64) (v4 : Int32) (v5 : Int64) (v7 : Int64) (v9 : Int64) (v11 : Int32) (v12 : Option NV), wp (k114 t v1 v2 v4 v5 v7 v9 v11) (fun r => Q (some (eI r.1)) r.2) → nX W (d + 1) tX13_part Q a0 e0 114 [some (eR (some (13, 0))), some (eI v1), some (eJ v2), none, some (eI v4), some (eJ v5), none, some (eJ v7), none, some (eJ v9), none, some (eI v11), v12] [] t bc bs) : ∀ (t : TS) (v1 : Int32) (v2 : Int64) (v4 : Int32) (v5 : Int64) (v7 : Int64) (v9 : Int64) (v11 : Int32) (v12 : Option NV), wp (B_X13_part_173 k26 k114 t v1 v2 v4 v5 v7 v9 v11) (fun r => Q (some (eI r.1)) r.2) → nX W (d + 1) tX13_part Q a0 e0 173 [some (eR (some (13, 0))), some (eI v1), some (eJ v2), none, some (eI v4), some (eJ v5), none, some (eJ v7), none, some (eJ v9), none, some (eI v11), v12] [] t bc bs := by
  intro t v1 v2 v4 v5 v7 v9 v11 v12 H
  unfold B_X13_part_173 at H
  refine nx_iinc2 1 (ls' := [some (eR (some (13, 0))), some (eI v1), some (eJ v2), none, some (eI v4), some (eJ v5), none, some (eJ v7), none, some (eJ v9), none, some (eI (v11 + 1)), v12]) rfl rfl rfl rfl rfl ?_
  refine nx_goto rfl rfl ?_
  exact hk114 _ _ _ _ _ _ _ _ _ H
def BB_X13_part_114 (k26 : TS → Int32 → Int64 → Int32 → Option (Int32 × TS)) (k114 : TS → Int32 → Int64 → Int32 → Int64 → Int64 → Int64 → Int32 → Option (Int32 × TS)) (t : TS) (v1 : Int32) (v2 : Int64) (v4 : Int32) (v5 : Int64) (v7 : Int64) (v9 : Int64) (v11 : Int32) : Option (Int32 × TS) := (if (tI t 1386 0) ≤ v11 then (B_X13_part_179 k26 10000 t v1 v2 v4 v5 v7 v9) else (gd v11 (tL t 3387 0) (if (tA t 3387 0 v11.toNatClampNeg) = v4 then (gd v11 (tL t 3388 0) (gzJ v5 (gd v11 (tL t 3389 0) (nxt (uA t 3389 0 v11.toNatClampNeg (((v7 * ((tA t 3388 0 v11.toNatClampNeg).toInt64)) / v5).toInt32)) (fun t21 => (gd v11 (tL t21 3389 0) (B_X13_part_173 k26 k114 t21 v1 v2 v4 v5 v7 (v9 - ((tA t21 3389 0 v11.toNatClampNeg).toInt64)) v11))))))) else (B_X13_part_173 k26 k114 t v1 v2 v4 v5 v7 v9 v11))))
theorem TBB_X13_part_114 {W : NW} {d : Nat} {Q : Option NV → TS → Prop} {a0 : Nat → Nat → Nat} {e0 : Nat → Nat → Bool} {k26 : TS → Int32 → Int64 → Int32 → Option (Int32 × TS)} {k114 : TS → Int32 → Int64 → Int32 → Int64 → Int64 → Int64 → Int32 → Option (Int32 × TS)} {bc bs : Nat} (hW : W.2.2.2 = mm_fx) (hk26 : ∀ (t : TS) (v1 : Int32) (v2 : Int64) (v4 : Int32) (v5 : Option NV) (v7 : Option NV) (v9 : Option NV) (v11 : Option NV) (v12 : Option NV), wp (k26 t v1 v2 v4) (fun r => Q (some (eI r.1)) r.2) → nX W (d + 1) tX13_part Q a0 e0 26 [some (eR (some (13, 0))), some (eI v1), some (eJ v2), none, some (eI v4), v5, none, v7, none, v9, none, v11, v12] [] t bc bs) (hk114 : ∀ (t : TS) (v1 : Int32) (v2 : Int64) (v4 : Int32) (v5 : Int64) (v7 : Int64) (v9 : Int64) (v11 : Int32) (v12 : Option NV), wp (k114 t v1 v2 v4 v5 v7 v9 v11) (fun r => Q (some (eI r.1)) r.2) → nX W (d + 1) tX13_part Q a0 e0 114 [some (eR (some (13, 0))), some (eI v1), some (eJ v2), none, some (eI v4), some (eJ v5), none, some (eJ v7), none, some (eJ v9), none, some (eI v11), v12] [] t bc bs) : ∀ (t : TS) (v1 : Int32) (v2 : Int64) (v4 : Int32) (v5 : Int64) (v7 : Int64) (v9 : Int64) (v11 : Int32) (v12 : Option NV), wp (BB_X13_part_114 k26 k114 t v1 v2 v4 v5 v7 v9 v11) (fun r => Q (some (eI r.1)) r.2) → nX W (d + 1) tX13_part Q a0 e0 114 [some (eR (some (13, 0))), some (eI v1), some (eJ v2), none, some (eI v4), some (eJ v5), none, some (eJ v7), none, some (eJ v9), none, some (eI v11), v12] [] t bc bs := by
  intro t v1 v2 v4 v5 v7 v9 v11 v12 H
  unfold BB_X13_part_114 at H
  refine nx_ld rfl rfl rfl rfl ?_
  refine nx_ld rfl rfl rfl rfl ?_
  refine nx_getI rfl rfl rfl (by decide) ?_
  refine nx_icmp rfl rfl (by rfl) H (fun H => ?_) (fun H => ?_)
  · exact TB_X13_part_179 hW   hk26 10000 _ _ _ _ _ _ _ _ _ H
  refine nx_ld rfl rfl rfl rfl ?_
  refine nx_getFix rfl rfl rfl (by decide) (by rw [hW]; rfl) rfl ?_
  refine nx_ld rfl rfl rfl rfl ?_
  refine nx_iald (p := (3387, 0)) rfl rfl (Nat.le_of_ble_eq_true rfl) (Nat.le_of_ble_eq_true rfl) rfl H (fun H => ?_)
  refine nx_ld rfl rfl rfl rfl ?_
  refine nx_icmp rfl rfl (by rfl) H (fun H => ?_) (fun H => ?_)
  · refine nx_ld rfl rfl rfl rfl ?_
    refine nx_getFix rfl rfl rfl (by decide) (by rw [hW]; rfl) rfl ?_
    refine nx_ld rfl rfl rfl rfl ?_
    refine nx_ld rfl rfl rfl rfl ?_
    refine nx_ld rfl rfl rfl rfl ?_
    refine nx_getFix rfl rfl rfl (by decide) (by rw [hW]; rfl) rfl ?_
    refine nx_ld rfl rfl rfl rfl ?_
    show nX _ _ _ _ _ _ 152 _ _ _ _ _
    refine nx_iald (p := (3388, 0)) rfl rfl (Nat.le_of_ble_eq_true rfl) (Nat.le_of_ble_eq_true rfl) rfl H (fun H => ?_)
    refine nx_i2l rfl rfl ?_
    refine nx_jj rfl rfl ?_
    refine nx_ld rfl rfl rfl rfl ?_
    refine nx_jdiv rfl rfl H (fun H => ?_)
    refine nx_l2i rfl rfl ?_
    refine nx_iast (p := (3389, 0)) rfl rfl (Nat.le_of_ble_eq_true rfl) (Nat.le_of_ble_eq_true rfl) rfl H (fun t21 H => ?_)
    refine nx_ld rfl rfl rfl rfl ?_
    show nX _ _ _ _ _ _ 162 _ _ _ _ _
    refine nx_ld rfl rfl rfl rfl ?_
    refine nx_getFix rfl rfl rfl (by decide) (by rw [hW]; rfl) rfl ?_
    refine nx_ld rfl rfl rfl rfl ?_
    refine nx_iald (p := (3389, 0)) rfl rfl (Nat.le_of_ble_eq_true rfl) (Nat.le_of_ble_eq_true rfl) rfl H (fun H => ?_)
    refine nx_i2l rfl rfl ?_
    refine nx_jj rfl rfl ?_
    refine nx_st2 (ls' := [some (eR (some (13, 0))), some (eI v1), some (eJ v2), none, some (eI v4), some (eJ v5), none, some (eJ v7), none, some (eJ (v9 - ((tA t21 3389 0 v11.toNatClampNeg).toInt64))), none, some (eI v11), v12]) rfl rfl (Nat.le_of_ble_eq_true rfl) rfl ?_
    exact TB_X13_part_173 hW   hk26 hk114 _ _ _ _ _ _ _ _ _ H
  refine nx_goto rfl rfl ?_
  exact TB_X13_part_173 hW   hk26 hk114 _ _ _ _ _ _ _ _ _ H
def B_X13_part_114 (k26 : TS → Int32 → Int64 → Int32 → Option (Int32 × TS)) : Nat → TS → Int32 → Int64 → Int32 → Int64 → Int64 → Int64 → Int32 → Option (Int32 × TS)
  | 0 => fun _ _ _ _ _ _ _ _ => none
  | n + 1 => fun t v1 v2 v4 v5 v7 v9 v11 => BB_X13_part_114 k26 (B_X13_part_114 k26 n) t v1 v2 v4 v5 v7 v9 v11
theorem TB_X13_part_114 {W : NW} {d : Nat} {Q : Option NV → TS → Prop} {a0 : Nat → Nat → Nat} {e0 : Nat → Nat → Bool} {k26 : TS → Int32 → Int64 → Int32 → Option (Int32 × TS)} {bc bs : Nat} (hW : W.2.2.2 = mm_fx) (hk26 : ∀ (t : TS) (v1 : Int32) (v2 : Int64) (v4 : Int32) (v5 : Option NV) (v7 : Option NV) (v9 : Option NV) (v11 : Option NV) (v12 : Option NV), wp (k26 t v1 v2 v4) (fun r => Q (some (eI r.1)) r.2) → nX W (d + 1) tX13_part Q a0 e0 26 [some (eR (some (13, 0))), some (eI v1), some (eJ v2), none, some (eI v4), v5, none, v7, none, v9, none, v11, v12] [] t bc bs) : ∀ (n : Nat) (t : TS) (v1 : Int32) (v2 : Int64) (v4 : Int32) (v5 : Int64) (v7 : Int64) (v9 : Int64) (v11 : Int32) (v12 : Option NV), wp (B_X13_part_114 k26 n t v1 v2 v4 v5 v7 v9 v11) (fun r => Q (some (eI r.1)) r.2) → nX W (d + 1) tX13_part Q a0 e0 114 [some (eR (some (13, 0))), some (eI v1), some (eJ v2), none, some (eI v4), some (eJ v5), none, some (eJ v7), none, some (eJ v9), none, some (eI v11), v12] [] t bc bs := by
  intro n
  induction n with
  | zero => intro t v1 v2 v4 v5 v7 v9 v11 v12 H; exact (wp_none H).elim
  | succ n ih =>
    intro t v1 v2 v4 v5 v7 v9 v11 v12 H
    exact TBB_X13_part_114 hW   hk26 ih t v1 v2 v4 v5 v7 v9 v11 v12 H
def B_X13_part_105 (k26 : TS → Int32 → Int64 → Int32 → Option (Int32 × TS)) (t : TS) (v1 : Int32) (v2 : Int64) (v4 : Int32) (v5 : Int64) (s0 : Int64) : Option (Int32 × TS) := (B_X13_part_114 k26 10000 t v1 v2 v4 v5 s0 s0 0)
theorem TB_X13_part_105 {W : NW} {d : Nat} {Q : Option NV → TS → Prop} {a0 : Nat → Nat → Nat} {e0 : Nat → Nat → Bool} {k26 : TS → Int32 → Int64 → Int32 → Option (Int32 × TS)} {bc bs : Nat} (hW : W.2.2.2 = mm_fx) (hk26 : ∀ (t : TS) (v1 : Int32) (v2 : Int64) (v4 : Int32) (v5 : Option NV) (v7 : Option NV) (v9 : Option NV) (v11 : Option NV) (v12 : Option NV), wp (k26 t v1 v2 v4) (fun r => Q (some (eI r.1)) r.2) → nX W (d + 1) tX13_part Q a0 e0 26 [some (eR (some (13, 0))), some (eI v1), some (eJ v2), none, some (eI v4), v5, none, v7, none, v9, none, v11, v12] [] t bc bs) : ∀ (t : TS) (v1 : Int32) (v2 : Int64) (v4 : Int32) (v5 : Int64) (v7 : Int32) (v9 : Option NV) (v11 : Option NV) (v12 : Option NV) (s0 : Int64), wp (B_X13_part_105 k26 t v1 v2 v4 v5 s0) (fun r => Q (some (eI r.1)) r.2) → nX W (d + 1) tX13_part Q a0 e0 105 [some (eR (some (13, 0))), some (eI v1), some (eJ v2), none, some (eI v4), some (eJ v5), none, some (eI v7), none, v9, none, v11, v12] [eJ s0] t bc bs := by
  intro t v1 v2 v4 v5 v7 v9 v11 v12 s0 H
  unfold B_X13_part_105 at H
  refine nx_st2 (ls' := [some (eR (some (13, 0))), some (eI v1), some (eJ v2), none, some (eI v4), some (eJ v5), none, some (eJ s0), none, v9, none, v11, v12]) rfl rfl (Nat.le_of_ble_eq_true rfl) rfl ?_
  refine nx_ld rfl rfl rfl rfl ?_
  refine nx_st2 (ls' := [some (eR (some (13, 0))), some (eI v1), some (eJ v2), none, some (eI v4), some (eJ v5), none, some (eJ s0), none, some (eJ s0), none, v11, v12]) rfl rfl (Nat.le_of_ble_eq_true rfl) rfl ?_
  refine nx_int (x := 0) rfl rfl ?_
  refine nx_st (ls' := [some (eR (some (13, 0))), some (eI v1), some (eJ v2), none, some (eI v4), some (eJ v5), none, some (eJ s0), none, some (eJ s0), none, some (eI 0), v12]) rfl rfl rfl (Nat.le_of_ble_eq_true rfl) rfl ?_
  exact TB_X13_part_114 hW   hk26 10000 _ _ _ _ _ _ _ _ _ H
def B_X13_part_82 (k26 : TS → Int32 → Int64 → Int32 → Option (Int32 × TS)) (t : TS) (v1 : Int32) (v2 : Int64) (v4 : Int32) (v5 : Int64) : Option (Int32 × TS) := (if ¬ (lg_cmp v5 0) = 0 then (if 0 ≤ (lg_cmp v2 v5) then (B_X13_part_105 k26 t v1 v2 v4 v5 v5) else (B_X13_part_105 k26 t v1 v2 v4 v5 v2)) else (B_X13_part_314 k26 t v1 v2 v4))
theorem TB_X13_part_82 {W : NW} {d : Nat} {Q : Option NV → TS → Prop} {a0 : Nat → Nat → Nat} {e0 : Nat → Nat → Bool} {k26 : TS → Int32 → Int64 → Int32 → Option (Int32 × TS)} {bc bs : Nat} (hW : W.2.2.2 = mm_fx) (hk26 : ∀ (t : TS) (v1 : Int32) (v2 : Int64) (v4 : Int32) (v5 : Option NV) (v7 : Option NV) (v9 : Option NV) (v11 : Option NV) (v12 : Option NV), wp (k26 t v1 v2 v4) (fun r => Q (some (eI r.1)) r.2) → nX W (d + 1) tX13_part Q a0 e0 26 [some (eR (some (13, 0))), some (eI v1), some (eJ v2), none, some (eI v4), v5, none, v7, none, v9, none, v11, v12] [] t bc bs) : ∀ (t : TS) (v1 : Int32) (v2 : Int64) (v4 : Int32) (v5 : Int64) (v7 : Int32) (v9 : Option NV) (v11 : Option NV) (v12 : Option NV), wp (B_X13_part_82 k26 t v1 v2 v4 v5) (fun r => Q (some (eI r.1)) r.2) → nX W (d + 1) tX13_part Q a0 e0 82 [some (eR (some (13, 0))), some (eI v1), some (eJ v2), none, some (eI v4), some (eJ v5), none, some (eI v7), none, v9, none, v11, v12] [] t bc bs := by
  intro t v1 v2 v4 v5 v7 v9 v11 v12 H
  unfold B_X13_part_82 at H
  refine nx_ld rfl rfl rfl rfl ?_
  refine nx_long (x := 0) rfl rfl ?_
  refine nx_lcmp rfl rfl ?_
  refine nx_if rfl rfl (by rfl) H (fun H => ?_) (fun H => ?_)
  · refine nx_ld rfl rfl rfl rfl ?_
    refine nx_ld rfl rfl rfl rfl ?_
    refine nx_lcmp rfl rfl ?_
    refine nx_if rfl rfl (by rfl) H (fun H => ?_) (fun H => ?_)
    · refine nx_ld rfl rfl rfl rfl ?_
      exact TB_X13_part_105 hW   hk26 _ _ _ _ _ _ _ _ _ _ H
    refine nx_ld rfl rfl rfl rfl ?_
    refine nx_goto rfl rfl ?_
    exact TB_X13_part_105 hW   hk26 _ _ _ _ _ _ _ _ _ _ H
  refine nx_goto rfl rfl ?_
  exact TB_X13_part_314 hW   hk26 _ _ _ _ _ _ _ _ _ H
def B_X13_part_73 (k26 : TS → Int32 → Int64 → Int32 → Option (Int32 × TS)) (k38 : TS → Int32 → Int64 → Int32 → Int64 → Int32 → Option (Int32 × TS)) (t : TS) (v1 : Int32) (v2 : Int64) (v4 : Int32) (v7 : Int32) (s0 : Int64) (s1 : Int64) : Option (Int32 × TS) := (k38 t v1 v2 v4 (s1 + s0) (v7 + 1))
theorem TB_X13_part_73 {W : NW} {d : Nat} {Q : Option NV → TS → Prop} {a0 : Nat → Nat → Nat} {e0 : Nat → Nat → Bool} {k26 : TS → Int32 → Int64 → Int32 → Option (Int32 × TS)} {k38 : TS → Int32 → Int64 → Int32 → Int64 → Int32 → Option (Int32 × TS)} {bc bs : Nat} (hW : W.2.2.2 = mm_fx) (hk26 : ∀ (t : TS) (v1 : Int32) (v2 : Int64) (v4 : Int32) (v5 : Option NV) (v7 : Option NV) (v9 : Option NV) (v11 : Option NV) (v12 : Option NV), wp (k26 t v1 v2 v4) (fun r => Q (some (eI r.1)) r.2) → nX W (d + 1) tX13_part Q a0 e0 26 [some (eR (some (13, 0))), some (eI v1), some (eJ v2), none, some (eI v4), v5, none, v7, none, v9, none, v11, v12] [] t bc bs) (hk38 : ∀ (t : TS) (v1 : Int32) (v2 : Int64) (v4 : Int32) (v5 : Int64) (v7 : Int32) (v9 : Option NV) (v11 : Option NV) (v12 : Option NV), wp (k38 t v1 v2 v4 v5 v7) (fun r => Q (some (eI r.1)) r.2) → nX W (d + 1) tX13_part Q a0 e0 38 [some (eR (some (13, 0))), some (eI v1), some (eJ v2), none, some (eI v4), some (eJ v5), none, some (eI v7), none, v9, none, v11, v12] [] t bc bs) : ∀ (t : TS) (v1 : Int32) (v2 : Int64) (v4 : Int32) (v5 : Int64) (v7 : Int32) (v9 : Option NV) (v11 : Option NV) (v12 : Option NV) (s0 : Int64) (s1 : Int64), wp (B_X13_part_73 k26 k38 t v1 v2 v4 v7 s0 s1) (fun r => Q (some (eI r.1)) r.2) → nX W (d + 1) tX13_part Q a0 e0 73 [some (eR (some (13, 0))), some (eI v1), some (eJ v2), none, some (eI v4), some (eJ v5), none, some (eI v7), none, v9, none, v11, v12] [eJ s0, eJ s1] t bc bs := by
  intro t v1 v2 v4 v5 v7 v9 v11 v12 s0 s1 H
  unfold B_X13_part_73 at H
  refine nx_jj rfl rfl ?_
  refine nx_st2 (ls' := [some (eR (some (13, 0))), some (eI v1), some (eJ v2), none, some (eI v4), some (eJ (s1 + s0)), none, some (eI v7), none, v9, none, v11, v12]) rfl rfl (Nat.le_of_ble_eq_true rfl) rfl ?_
  refine nx_iinc2 1 (ls' := [some (eR (some (13, 0))), some (eI v1), some (eJ v2), none, some (eI v4), some (eJ (s1 + s0)), none, some (eI (v7 + 1)), none, v9, none, v11, v12]) rfl rfl rfl rfl rfl ?_
  refine nx_goto rfl rfl ?_
  exact hk38 _ _ _ _ _ _ _ _ _ H
def BB_X13_part_38 (k26 : TS → Int32 → Int64 → Int32 → Option (Int32 × TS)) (k38 : TS → Int32 → Int64 → Int32 → Int64 → Int32 → Option (Int32 × TS)) (t : TS) (v1 : Int32) (v2 : Int64) (v4 : Int32) (v5 : Int64) (v7 : Int32) : Option (Int32 × TS) := (if (tI t 1386 0) ≤ v7 then (B_X13_part_82 k26 t v1 v2 v4 v5) else (gd v7 (tL t 3387 0) (if ¬ (tA t 3387 0 v7.toNatClampNeg) = v4 then (B_X13_part_73 k26 k38 t v1 v2 v4 v7 0 v5) else (gd v7 (tL t 3388 0) (B_X13_part_73 k26 k38 t v1 v2 v4 v7 ((tA t 3388 0 v7.toNatClampNeg).toInt64) v5)))))
theorem TBB_X13_part_38 {W : NW} {d : Nat} {Q : Option NV → TS → Prop} {a0 : Nat → Nat → Nat} {e0 : Nat → Nat → Bool} {k26 : TS → Int32 → Int64 → Int32 → Option (Int32 × TS)} {k38 : TS → Int32 → Int64 → Int32 → Int64 → Int32 → Option (Int32 × TS)} {bc bs : Nat} (hW : W.2.2.2 = mm_fx) (hk26 : ∀ (t : TS) (v1 : Int32) (v2 : Int64) (v4 : Int32) (v5 : Option NV) (v7 : Option NV) (v9 : Option NV) (v11 : Option NV) (v12 : Option NV), wp (k26 t v1 v2 v4) (fun r => Q (some (eI r.1)) r.2) → nX W (d + 1) tX13_part Q a0 e0 26 [some (eR (some (13, 0))), some (eI v1), some (eJ v2), none, some (eI v4), v5, none, v7, none, v9, none, v11, v12] [] t bc bs) (hk38 : ∀ (t : TS) (v1 : Int32) (v2 : Int64) (v4 : Int32) (v5 : Int64) (v7 : Int32) (v9 : Option NV) (v11 : Option NV) (v12 : Option NV), wp (k38 t v1 v2 v4 v5 v7) (fun r => Q (some (eI r.1)) r.2) → nX W (d + 1) tX13_part Q a0 e0 38 [some (eR (some (13, 0))), some (eI v1), some (eJ v2), none, some (eI v4), some (eJ v5), none, some (eI v7), none, v9, none, v11, v12] [] t bc bs) : ∀ (t : TS) (v1 : Int32) (v2 : Int64) (v4 : Int32) (v5 : Int64) (v7 : Int32) (v9 : Option NV) (v11 : Option NV) (v12 : Option NV), wp (BB_X13_part_38 k26 k38 t v1 v2 v4 v5 v7) (fun r => Q (some (eI r.1)) r.2) → nX W (d + 1) tX13_part Q a0 e0 38 [some (eR (some (13, 0))), some (eI v1), some (eJ v2), none, some (eI v4), some (eJ v5), none, some (eI v7), none, v9, none, v11, v12] [] t bc bs := by
  intro t v1 v2 v4 v5 v7 v9 v11 v12 H
  unfold BB_X13_part_38 at H
  refine nx_ld rfl rfl rfl rfl ?_
  refine nx_ld rfl rfl rfl rfl ?_
  refine nx_getI rfl rfl rfl (by decide) ?_
  refine nx_icmp rfl rfl (by rfl) H (fun H => ?_) (fun H => ?_)
  · exact TB_X13_part_82 hW   hk26 _ _ _ _ _ _ _ _ _ H
  refine nx_ld rfl rfl rfl rfl ?_
  refine nx_ld rfl rfl rfl rfl ?_
  refine nx_getFix rfl rfl rfl (by decide) (by rw [hW]; rfl) rfl ?_
  refine nx_ld rfl rfl rfl rfl ?_
  refine nx_iald (p := (3387, 0)) rfl rfl (Nat.le_of_ble_eq_true rfl) (Nat.le_of_ble_eq_true rfl) rfl H (fun H => ?_)
  refine nx_ld rfl rfl rfl rfl ?_
  refine nx_icmp rfl rfl (by rfl) H (fun H => ?_) (fun H => ?_)
  · refine nx_long (x := 0) rfl rfl ?_
    exact TB_X13_part_73 hW   hk26 hk38 _ _ _ _ _ _ _ _ _ _ _ H
  refine nx_ld rfl rfl rfl rfl ?_
  refine nx_getFix rfl rfl rfl (by decide) (by rw [hW]; rfl) rfl ?_
  refine nx_ld rfl rfl rfl rfl ?_
  refine nx_iald (p := (3388, 0)) rfl rfl (Nat.le_of_ble_eq_true rfl) (Nat.le_of_ble_eq_true rfl) rfl H (fun H => ?_)
  refine nx_i2l rfl rfl ?_
  refine nx_goto rfl rfl ?_
  exact TB_X13_part_73 hW   hk26 hk38 _ _ _ _ _ _ _ _ _ _ _ H
def B_X13_part_38 (k26 : TS → Int32 → Int64 → Int32 → Option (Int32 × TS)) : Nat → TS → Int32 → Int64 → Int32 → Int64 → Int32 → Option (Int32 × TS)
  | 0 => fun _ _ _ _ _ _ => none
  | n + 1 => fun t v1 v2 v4 v5 v7 => BB_X13_part_38 k26 (B_X13_part_38 k26 n) t v1 v2 v4 v5 v7
theorem TB_X13_part_38 {W : NW} {d : Nat} {Q : Option NV → TS → Prop} {a0 : Nat → Nat → Nat} {e0 : Nat → Nat → Bool} {k26 : TS → Int32 → Int64 → Int32 → Option (Int32 × TS)} {bc bs : Nat} (hW : W.2.2.2 = mm_fx) (hk26 : ∀ (t : TS) (v1 : Int32) (v2 : Int64) (v4 : Int32) (v5 : Option NV) (v7 : Option NV) (v9 : Option NV) (v11 : Option NV) (v12 : Option NV), wp (k26 t v1 v2 v4) (fun r => Q (some (eI r.1)) r.2) → nX W (d + 1) tX13_part Q a0 e0 26 [some (eR (some (13, 0))), some (eI v1), some (eJ v2), none, some (eI v4), v5, none, v7, none, v9, none, v11, v12] [] t bc bs) : ∀ (n : Nat) (t : TS) (v1 : Int32) (v2 : Int64) (v4 : Int32) (v5 : Int64) (v7 : Int32) (v9 : Option NV) (v11 : Option NV) (v12 : Option NV), wp (B_X13_part_38 k26 n t v1 v2 v4 v5 v7) (fun r => Q (some (eI r.1)) r.2) → nX W (d + 1) tX13_part Q a0 e0 38 [some (eR (some (13, 0))), some (eI v1), some (eJ v2), none, some (eI v4), some (eJ v5), none, some (eI v7), none, v9, none, v11, v12] [] t bc bs := by
  intro n
  induction n with
  | zero => intro t v1 v2 v4 v5 v7 v9 v11 v12 H; exact (wp_none H).elim
  | succ n ih =>
    intro t v1 v2 v4 v5 v7 v9 v11 v12 H
    exact TBB_X13_part_38 hW   hk26 ih t v1 v2 v4 v5 v7 v9 v11 v12 H
def BB_X13_part_26 (k26 : TS → Int32 → Int64 → Int32 → Option (Int32 × TS)) (t : TS) (v1 : Int32) (v2 : Int64) (v4 : Int32) : Option (Int32 × TS) := (if 4 ≤ v4 then (B_X13_part_320  t v1 v2) else (B_X13_part_38 k26 10000 t v1 v2 v4 0 0))
theorem TBB_X13_part_26 {W : NW} {d : Nat} {Q : Option NV → TS → Prop} {a0 : Nat → Nat → Nat} {e0 : Nat → Nat → Bool} {k26 : TS → Int32 → Int64 → Int32 → Option (Int32 × TS)} {bc bs : Nat} (hW : W.2.2.2 = mm_fx) (hk26 : ∀ (t : TS) (v1 : Int32) (v2 : Int64) (v4 : Int32) (v5 : Option NV) (v7 : Option NV) (v9 : Option NV) (v11 : Option NV) (v12 : Option NV), wp (k26 t v1 v2 v4) (fun r => Q (some (eI r.1)) r.2) → nX W (d + 1) tX13_part Q a0 e0 26 [some (eR (some (13, 0))), some (eI v1), some (eJ v2), none, some (eI v4), v5, none, v7, none, v9, none, v11, v12] [] t bc bs) : ∀ (t : TS) (v1 : Int32) (v2 : Int64) (v4 : Int32) (v5 : Option NV) (v7 : Option NV) (v9 : Option NV) (v11 : Option NV) (v12 : Option NV), wp (BB_X13_part_26 k26 t v1 v2 v4) (fun r => Q (some (eI r.1)) r.2) → nX W (d + 1) tX13_part Q a0 e0 26 [some (eR (some (13, 0))), some (eI v1), some (eJ v2), none, some (eI v4), v5, none, v7, none, v9, none, v11, v12] [] t bc bs := by
  intro t v1 v2 v4 v5 v7 v9 v11 v12 H
  unfold BB_X13_part_26 at H
  refine nx_ld rfl rfl rfl rfl ?_
  refine nx_int (x := 4) rfl rfl ?_
  refine nx_icmp rfl rfl (by rfl) H (fun H => ?_) (fun H => ?_)
  · exact TB_X13_part_320 hW    _ _ _ _ _ _ _ _ _ H
  refine nx_long (x := 0) rfl rfl ?_
  refine nx_st2 (ls' := [some (eR (some (13, 0))), some (eI v1), some (eJ v2), none, some (eI v4), some (eJ 0), none, v7, none, v9, none, v11, v12]) rfl rfl (Nat.le_of_ble_eq_true rfl) rfl ?_
  refine nx_int (x := 0) rfl rfl ?_
  refine nx_st (ls' := [some (eR (some (13, 0))), some (eI v1), some (eJ v2), none, some (eI v4), some (eJ 0), none, some (eI 0), none, v9, none, v11, v12]) rfl rfl rfl (Nat.le_of_ble_eq_true rfl) rfl ?_
  exact TB_X13_part_38 hW   hk26 10000 _ _ _ _ _ _ _ _ _ H
def B_X13_part_26 : Nat → TS → Int32 → Int64 → Int32 → Option (Int32 × TS)
  | 0 => fun _ _ _ _ => none
  | n + 1 => fun t v1 v2 v4 => BB_X13_part_26 (B_X13_part_26 n) t v1 v2 v4
theorem TB_X13_part_26 {W : NW} {d : Nat} {Q : Option NV → TS → Prop} {a0 : Nat → Nat → Nat} {e0 : Nat → Nat → Bool} {bc bs : Nat} (hW : W.2.2.2 = mm_fx) : ∀ (n : Nat) (t : TS) (v1 : Int32) (v2 : Int64) (v4 : Int32) (v5 : Option NV) (v7 : Option NV) (v9 : Option NV) (v11 : Option NV) (v12 : Option NV), wp (B_X13_part_26 n t v1 v2 v4) (fun r => Q (some (eI r.1)) r.2) → nX W (d + 1) tX13_part Q a0 e0 26 [some (eR (some (13, 0))), some (eI v1), some (eJ v2), none, some (eI v4), v5, none, v7, none, v9, none, v11, v12] [] t bc bs := by
  intro n
  induction n with
  | zero => intro t v1 v2 v4 v5 v7 v9 v11 v12 H; exact (wp_none H).elim
  | succ n ih =>
    intro t v1 v2 v4 v5 v7 v9 v11 v12 H
    exact TBB_X13_part_26 hW    ih t v1 v2 v4 v5 v7 v9 v11 v12 H
def F_X13_part (t : TS) (x1 : Int32) : Option (Int32 × TS) := (if (tI t 1386 0) = 0 then (some ((-1), t)) else (Option.bind (F_X13_in t x1 0 9999999) (fun r21 => (if ¬ r21 = 0 then (B_X13_part_26  10000 t x1 (x1.toInt64) 0) else (some ((-1), t))))))
theorem TF_X13_part {W : NW} {d : Nat} {t : TS} {x1 : Int32} {Q : Option NV → TS → Prop} {bc bs : Nat} (hW : W.2.2.2 = mm_fx) (H : wp (F_X13_part t x1) (fun r => Q (some (eI r.1)) r.2)) : nC W (d + 2) 247 [eR (some (13, 0)), eI x1] t bc bs Q := by
  refine nC_in (d := (d + 1)) (T := tX13_part) (ls := [some (eR (some (13, 0))), some (eI x1), none, none, none, none, none, none, none, none, none, none, none]) rfl (Nat.le_of_ble_eq_true rfl) rfl (fun a0 e0 => ?_)
  unfold F_X13_part at H
  refine nx_ld rfl rfl rfl rfl ?_
  refine nx_getI rfl rfl rfl (by decide) ?_
  refine nx_if rfl rfl (by rfl) H (fun H => ?_) (fun H => ?_)
  · refine nx_int (x := (-1)) rfl rfl ?_
    exact nx_rit rfl rfl H
  refine nx_ld rfl rfl rfl rfl ?_
  refine nx_int (x := 0) rfl rfl ?_
  refine nx_int (x := 9999999) rfl rfl ?_
  refine nx_cSI (as := [eI x1, eI 0, eI 9999999]) (st' := []) rfl rfl (Nat.le_of_ble_eq_true rfl) rfl rfl (Nat.le_of_ble_eq_true rfl) H (fun Q H => TF_X13_in hW  H) (fun r21 H => ?_)
  refine nx_if rfl rfl (by rfl) H (fun H => ?_) (fun H => ?_)
  · refine nx_ld rfl rfl rfl rfl ?_
    refine nx_i2l rfl rfl ?_
    refine nx_st2 (ls' := [some (eR (some (13, 0))), some (eI x1), some (eJ (x1.toInt64)), none, none, none, none, none, none, none, none, none, none]) rfl rfl (Nat.le_of_ble_eq_true rfl) rfl ?_
    refine nx_int (x := 0) rfl rfl ?_
    refine nx_st (ls' := [some (eR (some (13, 0))), some (eI x1), some (eJ (x1.toInt64)), none, some (eI 0), none, none, none, none, none, none, none, none]) rfl rfl rfl (Nat.le_of_ble_eq_true rfl) rfl ?_
    exact TB_X13_part_26 hW    10000 _ _ _ _ _ _ _ _ _ H
  refine nx_int (x := (-1)) rfl rfl ?_
  exact nx_rit rfl rfl H
def F_X13_got (t : TS) (x1 : Int32) : Option Int32 := (Option.bind (F_X13_in t x1 0 ((tI t 1390 0) - 1)) (fun r21 => (if r21 = 0 then (some ((-1))) else (gd x1 (tL t 3389 0) (some ((tA t 3389 0 x1.toNatClampNeg)))))))
theorem TF_X13_got {W : NW} {d : Nat} {t : TS} {x1 : Int32} {Q : Option NV → TS → Prop} {bc bs : Nat} (hW : W.2.2.2 = mm_fx) (H : wp (F_X13_got t x1) (fun r => Q (some (eI r)) t)) : nC W (d + 2) 248 [eR (some (13, 0)), eI x1] t bc bs Q := by
  refine nC_in (d := (d + 1)) (T := tX13_got) (ls := [some (eR (some (13, 0))), some (eI x1)]) rfl (Nat.le_of_ble_eq_true rfl) rfl (fun a0 e0 => ?_)
  unfold F_X13_got at H
  refine nx_ld rfl rfl rfl rfl ?_
  refine nx_int (x := 0) rfl rfl ?_
  refine nx_ld rfl rfl rfl rfl ?_
  refine nx_getI rfl rfl rfl (by decide) ?_
  refine nx_int (x := 1) rfl rfl ?_
  refine nx_ii rfl rfl ?_
  refine nx_cSI (as := [eI x1, eI 0, eI ((tI t 1390 0) - 1)]) (st' := []) rfl rfl (Nat.le_of_ble_eq_true rfl) rfl rfl (Nat.le_of_ble_eq_true rfl) H (fun Q H => TF_X13_in hW  H) (fun r21 H => ?_)
  show nX _ _ _ _ _ _ 11 _ _ _ _ _
  refine nx_if rfl rfl (by rfl) H (fun H => ?_) (fun H => ?_)
  · refine nx_int (x := (-1)) rfl rfl ?_
    exact nx_ri rfl rfl H
  refine nx_ld rfl rfl rfl rfl ?_
  refine nx_getFix rfl rfl rfl (by decide) (by rw [hW]; rfl) rfl ?_
  refine nx_ld rfl rfl rfl rfl ?_
  refine nx_iald (p := (3389, 0)) rfl rfl (Nat.le_of_ble_eq_true rfl) (Nat.le_of_ble_eq_true rfl) rfl H (fun H => ?_)
  refine nx_goto rfl rfl ?_
  exact nx_ri rfl rfl H
def B_X13_ran_19 (t : TS) : Option TS := (nxt (uI t 1391 0 ((tI t 1391 0) + 1)) (fun t21 => (some t21)))
theorem TB_X13_ran_19 {W : NW} {d : Nat} {Q : Option NV → TS → Prop} {a0 : Nat → Nat → Nat} {e0 : Nat → Nat → Bool} {bc bs : Nat} (hW : W.2.2.2 = mm_fx) : ∀ (t : TS) (v1 : Int32), wp (B_X13_ran_19 t) (fun r => Q none r) → nX W d tX13_ran Q a0 e0 19 [some (eR (some (13, 0))), some (eI v1)] [] t bc bs := by
  intro t v1 H
  unfold B_X13_ran_19 at H
  refine nx_ld rfl rfl rfl rfl ?_
  refine nx_dup rfl rfl (Nat.ne_of_beq_eq_false rfl) ?_
  refine nx_getI rfl rfl rfl (by decide) ?_
  refine nx_int (x := 1) rfl rfl ?_
  refine nx_ii rfl rfl ?_
  refine nx_putI rfl rfl rfl (by decide) H (fun t21 H => ?_)
  exact nx_rv rfl rfl H
def F_X13_ran (t : TS) (x1 : Int32) : Option TS := (if 24 ≤ (tI t 1391 0) then (B_X13_ran_19  t) else (gd (tI t 1391 0) (tL t 3392 0) (nxt (uA t 3392 0 (tI t 1391 0).toNatClampNeg x1) (fun t21 => (B_X13_ran_19  t21)))))
theorem TF_X13_ran {W : NW} {d : Nat} {t : TS} {x1 : Int32} {Q : Option NV → TS → Prop} {bc bs : Nat} (hW : W.2.2.2 = mm_fx) (H : wp (F_X13_ran t x1) (fun r => Q none r)) : nC W (d + 1) 249 [eR (some (13, 0)), eI x1] t bc bs Q := by
  refine nC_in (d := d) (T := tX13_ran) (ls := [some (eR (some (13, 0))), some (eI x1)]) rfl (Nat.le_of_ble_eq_true rfl) rfl (fun a0 e0 => ?_)
  unfold F_X13_ran at H
  refine nx_ld rfl rfl rfl rfl ?_
  refine nx_getI rfl rfl rfl (by decide) ?_
  refine nx_int (x := 24) rfl rfl ?_
  refine nx_icmp rfl rfl (by rfl) H (fun H => ?_) (fun H => ?_)
  · exact TB_X13_ran_19 hW    _ _ H
  refine nx_ld rfl rfl rfl rfl ?_
  refine nx_getFix rfl rfl rfl (by decide) (by rw [hW]; rfl) rfl ?_
  refine nx_ld rfl rfl rfl rfl ?_
  refine nx_getI rfl rfl rfl (by decide) ?_
  refine nx_ld rfl rfl rfl rfl ?_
  refine nx_iast (p := (3392, 0)) rfl rfl (Nat.le_of_ble_eq_true rfl) (Nat.le_of_ble_eq_true rfl) rfl H (fun t21 H => ?_)
  exact TB_X13_ran_19 hW    _ _ H
def F_X13_plainPlays (t : TS) (x1 : Int32) (x2 : Int32) : Option (Int32 × TS) := (Option.bind (F_X13_ran t 1) (fun r21 => (some ((x2 - x1), r21))))
theorem TF_X13_plainPlays {W : NW} {d : Nat} {t : TS} {x1 : Int32} {x2 : Int32} {Q : Option NV → TS → Prop} {bc bs : Nat} (hW : W.2.2.2 = mm_fx) (H : wp (F_X13_plainPlays t x1 x2) (fun r => Q (some (eI r.1)) r.2)) : nC W (d + 2) 250 [eR (some (13, 0)), eI x1, eI x2] t bc bs Q := by
  refine nC_in (d := (d + 1)) (T := tX13_plainPlays) (ls := [some (eR (some (13, 0))), some (eI x1), some (eI x2)]) rfl (Nat.le_of_ble_eq_true rfl) rfl (fun a0 e0 => ?_)
  unfold F_X13_plainPlays at H
  refine nx_ld rfl rfl rfl rfl ?_
  refine nx_int (x := 1) rfl rfl ?_
  refine nx_cVVt (as := [eI 1]) (st' := []) rfl rfl (Nat.le_of_ble_eq_true rfl) rfl rfl (Nat.le_of_ble_eq_true rfl) (c0 := 13) rfl (by decide) H (fun Q H => TF_X13_ran hW  H) (fun r21 H => ?_)
  refine nx_ld rfl rfl rfl rfl ?_
  refine nx_ld rfl rfl rfl rfl ?_
  refine nx_ii rfl rfl ?_
  exact nx_rit rfl rfl H
def F_X13_personPlays (t : TS) (x1 : Int32) (x2 : Int32) : Option (Int32 × TS) := (Option.bind (F_X13_ran t 20) (fun r21 => (ob2 (F_X13_plainPlays r21 x1 x2) (fun x23 t24 => (some ((x23 * 2), t24))))))
theorem TF_X13_personPlays {W : NW} {d : Nat} {t : TS} {x1 : Int32} {x2 : Int32} {Q : Option NV → TS → Prop} {bc bs : Nat} (hW : W.2.2.2 = mm_fx) (H : wp (F_X13_personPlays t x1 x2) (fun r => Q (some (eI r.1)) r.2)) : nC W (d + 3) 251 [eR (some (13, 0)), eI x1, eI x2] t bc bs Q := by
  refine nC_in (d := (d + 2)) (T := tX13_personPlays) (ls := [some (eR (some (13, 0))), some (eI x1), some (eI x2)]) rfl (Nat.le_of_ble_eq_true rfl) rfl (fun a0 e0 => ?_)
  unfold F_X13_personPlays at H
  refine nx_ld rfl rfl rfl rfl ?_
  refine nx_int (x := 20) rfl rfl ?_
  refine nx_cVVt (as := [eI 20]) (st' := []) rfl rfl (Nat.le_of_ble_eq_true rfl) rfl rfl (Nat.le_of_ble_eq_true rfl) (c0 := 13) rfl (by decide) H (fun Q H => TF_X13_ran hW  H) (fun r21 H => ?_)
  refine nx_ld rfl rfl rfl rfl ?_
  refine nx_ld rfl rfl rfl rfl ?_
  refine nx_ld rfl rfl rfl rfl ?_
  refine nx_cVI2 (as := [eI x1, eI x2]) (st' := []) rfl rfl (Nat.le_of_ble_eq_true rfl) rfl rfl (Nat.le_of_ble_eq_true rfl) (c0 := 13) rfl (by decide) H (fun Q H => TF_X13_plainPlays hW  H) (fun x23 t24 H => ?_)
  show nX _ _ _ _ _ _ 12 _ _ _ _ _
  refine nx_int (x := 2) rfl rfl ?_
  refine nx_ii rfl rfl ?_
  exact nx_rit rfl rfl H
def F_X13_plays (t : TS) (x1 : Int32) (x2 : Int32) : Option (Int32 × TS) := (gd x1 (tL t 3308 0) (if ¬ (tA t 3308 0 x1.toNatClampNeg) = 3 then (gd x1 (tL t 3308 0) (Option.bind (F_X13_isUnder t (tA t 3308 0 x1.toNatClampNeg) 1) (fun r21 => (if r21 = 0 then (ob2 (F_X13_plainPlays t x1 x2) (fun x23 t24 => (some (x23, t24)))) else (ob2 (F_X13_personPlays t x1 x2) (fun x26 t27 => (some (x26, t27)))))))) else (Option.bind (F_X13_ran t 40) (fun r28 => (ob2 (F_X13_personPlays r28 x1 (x2 + 1)) (fun x30 t31 => (some (x30, t31))))))))
theorem TF_X13_plays {W : NW} {d : Nat} {t : TS} {x1 : Int32} {x2 : Int32} {Q : Option NV → TS → Prop} {bc bs : Nat} (hW : W.2.2.2 = mm_fx) (H : wp (F_X13_plays t x1 x2) (fun r => Q (some (eI r.1)) r.2)) : nC W (d + 4) 252 [eR (some (13, 0)), eI x1, eI x2] t bc bs Q := by
  refine nC_in (d := (d + 3)) (T := tX13_plays) (ls := [some (eR (some (13, 0))), some (eI x1), some (eI x2)]) rfl (Nat.le_of_ble_eq_true rfl) rfl (fun a0 e0 => ?_)
  unfold F_X13_plays at H
  refine nx_ld rfl rfl rfl rfl ?_
  refine nx_getFix rfl rfl rfl (by decide) (by rw [hW]; rfl) rfl ?_
  refine nx_ld rfl rfl rfl rfl ?_
  refine nx_iald (p := (3308, 0)) rfl rfl (Nat.le_of_ble_eq_true rfl) (Nat.le_of_ble_eq_true rfl) rfl H (fun H => ?_)
  refine nx_int (x := 3) rfl rfl ?_
  refine nx_icmp rfl rfl (by rfl) H (fun H => ?_) (fun H => ?_)
  · refine nx_ld rfl rfl rfl rfl ?_
    refine nx_getFix rfl rfl rfl (by decide) (by rw [hW]; rfl) rfl ?_
    refine nx_ld rfl rfl rfl rfl ?_
    refine nx_iald (p := (3308, 0)) rfl rfl (Nat.le_of_ble_eq_true rfl) (Nat.le_of_ble_eq_true rfl) rfl H (fun H => ?_)
    refine nx_int (x := 1) rfl rfl ?_
    refine nx_cSI (as := [eI (tA t 3308 0 x1.toNatClampNeg), eI 1]) (st' := []) rfl rfl (Nat.le_of_ble_eq_true rfl) rfl rfl (Nat.le_of_ble_eq_true rfl) H (fun Q H => TF_X13_isUnder hW  H) (fun r21 H => ?_)
    refine nx_if rfl rfl (by rfl) H (fun H => ?_) (fun H => ?_)
    · refine nx_ld rfl rfl rfl rfl ?_
      refine nx_ld rfl rfl rfl rfl ?_
      refine nx_ld rfl rfl rfl rfl ?_
      refine nx_cVI2 (as := [eI x1, eI x2]) (st' := []) rfl rfl (Nat.le_of_ble_eq_true rfl) rfl rfl (Nat.le_of_ble_eq_true rfl) (c0 := 13) rfl (by decide) H (fun Q H => TF_X13_plainPlays hW  H) (fun x23 t24 H => ?_)
      exact nx_rit rfl rfl H
    refine nx_ld rfl rfl rfl rfl ?_
    refine nx_ld rfl rfl rfl rfl ?_
    refine nx_ld rfl rfl rfl rfl ?_
    refine nx_cVI2 (as := [eI x1, eI x2]) (st' := []) rfl rfl (Nat.le_of_ble_eq_true rfl) rfl rfl (Nat.le_of_ble_eq_true rfl) (c0 := 13) rfl (by decide) H (fun Q H => TF_X13_personPlays hW  H) (fun x26 t27 H => ?_)
    refine nx_goto rfl rfl ?_
    exact nx_rit rfl rfl H
  refine nx_ld rfl rfl rfl rfl ?_
  refine nx_int (x := 40) rfl rfl ?_
  refine nx_cVVt (as := [eI 40]) (st' := []) rfl rfl (Nat.le_of_ble_eq_true rfl) rfl rfl (Nat.le_of_ble_eq_true rfl) (c0 := 13) rfl (by decide) H (fun Q H => TF_X13_ran hW  H) (fun r28 H => ?_)
  refine nx_ld rfl rfl rfl rfl ?_
  refine nx_ld rfl rfl rfl rfl ?_
  refine nx_ld rfl rfl rfl rfl ?_
  refine nx_int (x := 1) rfl rfl ?_
  show nX _ _ _ _ _ _ 20 _ _ _ _ _
  refine nx_ii rfl rfl ?_
  refine nx_cVI2 (as := [eI x1, eI (x2 + 1)]) (st' := []) rfl rfl (Nat.le_of_ble_eq_true rfl) rfl rfl (Nat.le_of_ble_eq_true rfl) (c0 := 13) rfl (by decide) H (fun Q H => TF_X13_personPlays hW  H) (fun x30 t31 H => ?_)
  exact nx_rit rfl rfl H
def F_X13_plainPays (t : TS) (x1 : Int32) (x2 : Int32) : Option (Int32 × TS) := (Option.bind (F_X13_ran t 10) (fun r21 => (ob2 (F_X13_plays r21 x1 x2) (fun x23 t24 => (some ((x23 + 4), t24))))))
theorem TF_X13_plainPays {W : NW} {d : Nat} {t : TS} {x1 : Int32} {x2 : Int32} {Q : Option NV → TS → Prop} {bc bs : Nat} (hW : W.2.2.2 = mm_fx) (H : wp (F_X13_plainPays t x1 x2) (fun r => Q (some (eI r.1)) r.2)) : nC W (d + 5) 253 [eR (some (13, 0)), eI x1, eI x2] t bc bs Q := by
  refine nC_in (d := (d + 4)) (T := tX13_plainPays) (ls := [some (eR (some (13, 0))), some (eI x1), some (eI x2)]) rfl (Nat.le_of_ble_eq_true rfl) rfl (fun a0 e0 => ?_)
  unfold F_X13_plainPays at H
  refine nx_ld rfl rfl rfl rfl ?_
  refine nx_int (x := 10) rfl rfl ?_
  refine nx_cVVt (as := [eI 10]) (st' := []) rfl rfl (Nat.le_of_ble_eq_true rfl) rfl rfl (Nat.le_of_ble_eq_true rfl) (c0 := 13) rfl (by decide) H (fun Q H => TF_X13_ran hW  H) (fun r21 H => ?_)
  refine nx_ld rfl rfl rfl rfl ?_
  refine nx_ld rfl rfl rfl rfl ?_
  refine nx_ld rfl rfl rfl rfl ?_
  refine nx_cVI2 (as := [eI x1, eI x2]) (st' := []) rfl rfl (Nat.le_of_ble_eq_true rfl) rfl rfl (Nat.le_of_ble_eq_true rfl) (c0 := 13) rfl (by decide) H (fun Q H => TF_X13_plays hW  H) (fun x23 t24 H => ?_)
  show nX _ _ _ _ _ _ 12 _ _ _ _ _
  refine nx_int (x := 4) rfl rfl ?_
  refine nx_ii rfl rfl ?_
  exact nx_rit rfl rfl H
def F_X13_playerPays (t : TS) (x1 : Int32) (x2 : Int32) : Option (Int32 × TS) := (Option.bind (F_X13_ran t 30) (fun r21 => (ob2 (F_X13_plainPays r21 x1 x2) (fun x23 t24 => (gd x1 (tL t24 3313 0) (some ((x23 - (tA t24 3313 0 x1.toNatClampNeg)), t24)))))))
theorem TF_X13_playerPays {W : NW} {d : Nat} {t : TS} {x1 : Int32} {x2 : Int32} {Q : Option NV → TS → Prop} {bc bs : Nat} (hW : W.2.2.2 = mm_fx) (H : wp (F_X13_playerPays t x1 x2) (fun r => Q (some (eI r.1)) r.2)) : nC W (d + 6) 254 [eR (some (13, 0)), eI x1, eI x2] t bc bs Q := by
  refine nC_in (d := (d + 5)) (T := tX13_playerPays) (ls := [some (eR (some (13, 0))), some (eI x1), some (eI x2)]) rfl (Nat.le_of_ble_eq_true rfl) rfl (fun a0 e0 => ?_)
  unfold F_X13_playerPays at H
  refine nx_ld rfl rfl rfl rfl ?_
  refine nx_int (x := 30) rfl rfl ?_
  refine nx_cVVt (as := [eI 30]) (st' := []) rfl rfl (Nat.le_of_ble_eq_true rfl) rfl rfl (Nat.le_of_ble_eq_true rfl) (c0 := 13) rfl (by decide) H (fun Q H => TF_X13_ran hW  H) (fun r21 H => ?_)
  refine nx_ld rfl rfl rfl rfl ?_
  refine nx_ld rfl rfl rfl rfl ?_
  refine nx_ld rfl rfl rfl rfl ?_
  refine nx_cVI2 (as := [eI x1, eI x2]) (st' := []) rfl rfl (Nat.le_of_ble_eq_true rfl) rfl rfl (Nat.le_of_ble_eq_true rfl) (c0 := 13) rfl (by decide) H (fun Q H => TF_X13_plainPays hW  H) (fun x23 t24 H => ?_)
  show nX _ _ _ _ _ _ 12 _ _ _ _ _
  refine nx_ld rfl rfl rfl rfl ?_
  refine nx_getFix rfl rfl rfl (by decide) (by rw [hW]; rfl) rfl ?_
  refine nx_ld rfl rfl rfl rfl ?_
  refine nx_iald (p := (3313, 0)) rfl rfl (Nat.le_of_ble_eq_true rfl) (Nat.le_of_ble_eq_true rfl) rfl H (fun H => ?_)
  refine nx_ii rfl rfl ?_
  exact nx_rit rfl rfl H
def F_X13_clubPays (t : TS) (x1 : Int32) (x2 : Int32) : Option (Int32 × TS) := (Option.bind (F_X13_ran t 61) (fun r21 => (ob2 (F_X13_plainPays r21 x1 x2) (fun x23 t24 => (gd x1 (tL t24 3309 0) (some ((x23 ^^^ (tA t24 3309 0 x1.toNatClampNeg)), t24)))))))
theorem TF_X13_clubPays {W : NW} {d : Nat} {t : TS} {x1 : Int32} {x2 : Int32} {Q : Option NV → TS → Prop} {bc bs : Nat} (hW : W.2.2.2 = mm_fx) (H : wp (F_X13_clubPays t x1 x2) (fun r => Q (some (eI r.1)) r.2)) : nC W (d + 6) 255 [eR (some (13, 0)), eI x1, eI x2] t bc bs Q := by
  refine nC_in (d := (d + 5)) (T := tX13_clubPays) (ls := [some (eR (some (13, 0))), some (eI x1), some (eI x2)]) rfl (Nat.le_of_ble_eq_true rfl) rfl (fun a0 e0 => ?_)
  unfold F_X13_clubPays at H
  refine nx_ld rfl rfl rfl rfl ?_
  refine nx_int (x := 61) rfl rfl ?_
  refine nx_cVVt (as := [eI 61]) (st' := []) rfl rfl (Nat.le_of_ble_eq_true rfl) rfl rfl (Nat.le_of_ble_eq_true rfl) (c0 := 13) rfl (by decide) H (fun Q H => TF_X13_ran hW  H) (fun r21 H => ?_)
  refine nx_ld rfl rfl rfl rfl ?_
  refine nx_ld rfl rfl rfl rfl ?_
  refine nx_ld rfl rfl rfl rfl ?_
  refine nx_cVI2 (as := [eI x1, eI x2]) (st' := []) rfl rfl (Nat.le_of_ble_eq_true rfl) rfl rfl (Nat.le_of_ble_eq_true rfl) (c0 := 13) rfl (by decide) H (fun Q H => TF_X13_plainPays hW  H) (fun x23 t24 H => ?_)
  show nX _ _ _ _ _ _ 12 _ _ _ _ _
  refine nx_ld rfl rfl rfl rfl ?_
  refine nx_getFix rfl rfl rfl (by decide) (by rw [hW]; rfl) rfl ?_
  refine nx_ld rfl rfl rfl rfl ?_
  refine nx_iald (p := (3309, 0)) rfl rfl (Nat.le_of_ble_eq_true rfl) (Nat.le_of_ble_eq_true rfl) rfl H (fun H => ?_)
  refine nx_ii rfl rfl ?_
  exact nx_rit rfl rfl H
def F_X13_plainSigns (t : TS) (x1 : Int32) (x2 : Int32) : Option (Int32 × TS) := (Option.bind (F_X13_ran t 11) (fun r21 => (some ((x2 ^^^ x1), r21))))
theorem TF_X13_plainSigns {W : NW} {d : Nat} {t : TS} {x1 : Int32} {x2 : Int32} {Q : Option NV → TS → Prop} {bc bs : Nat} (hW : W.2.2.2 = mm_fx) (H : wp (F_X13_plainSigns t x1 x2) (fun r => Q (some (eI r.1)) r.2)) : nC W (d + 2) 257 [eR (some (13, 0)), eI x1, eI x2] t bc bs Q := by
  refine nC_in (d := (d + 1)) (T := tX13_plainSigns) (ls := [some (eR (some (13, 0))), some (eI x1), some (eI x2)]) rfl (Nat.le_of_ble_eq_true rfl) rfl (fun a0 e0 => ?_)
  unfold F_X13_plainSigns at H
  refine nx_ld rfl rfl rfl rfl ?_
  refine nx_int (x := 11) rfl rfl ?_
  refine nx_cVVt (as := [eI 11]) (st' := []) rfl rfl (Nat.le_of_ble_eq_true rfl) rfl rfl (Nat.le_of_ble_eq_true rfl) (c0 := 13) rfl (by decide) H (fun Q H => TF_X13_ran hW  H) (fun r21 H => ?_)
  refine nx_ld rfl rfl rfl rfl ?_
  refine nx_ld rfl rfl rfl rfl ?_
  refine nx_ii rfl rfl ?_
  exact nx_rit rfl rfl H
def F_X13_clubSigns (t : TS) (x1 : Int32) (x2 : Int32) : Option (Int32 × TS) := (Option.bind (F_X13_ran t 60) (fun r21 => (ob2 (F_X13_plainSigns r21 x1 x2) (fun x23 t24 => (some (((-x23)), t24))))))
theorem TF_X13_clubSigns {W : NW} {d : Nat} {t : TS} {x1 : Int32} {x2 : Int32} {Q : Option NV → TS → Prop} {bc bs : Nat} (hW : W.2.2.2 = mm_fx) (H : wp (F_X13_clubSigns t x1 x2) (fun r => Q (some (eI r.1)) r.2)) : nC W (d + 3) 258 [eR (some (13, 0)), eI x1, eI x2] t bc bs Q := by
  refine nC_in (d := (d + 2)) (T := tX13_clubSigns) (ls := [some (eR (some (13, 0))), some (eI x1), some (eI x2)]) rfl (Nat.le_of_ble_eq_true rfl) rfl (fun a0 e0 => ?_)
  unfold F_X13_clubSigns at H
  refine nx_ld rfl rfl rfl rfl ?_
  refine nx_int (x := 60) rfl rfl ?_
  refine nx_cVVt (as := [eI 60]) (st' := []) rfl rfl (Nat.le_of_ble_eq_true rfl) rfl rfl (Nat.le_of_ble_eq_true rfl) (c0 := 13) rfl (by decide) H (fun Q H => TF_X13_ran hW  H) (fun r21 H => ?_)
  refine nx_ld rfl rfl rfl rfl ?_
  refine nx_ld rfl rfl rfl rfl ?_
  refine nx_ld rfl rfl rfl rfl ?_
  refine nx_cVI2 (as := [eI x1, eI x2]) (st' := []) rfl rfl (Nat.le_of_ble_eq_true rfl) rfl rfl (Nat.le_of_ble_eq_true rfl) (c0 := 13) rfl (by decide) H (fun Q H => TF_X13_plainSigns hW  H) (fun x23 t24 H => ?_)
  show nX _ _ _ _ _ _ 12 _ _ _ _ _
  refine nx_i1 rfl rfl ?_
  exact nx_rit rfl rfl H
def B_X13_pays_95 (t : TS) (v1 : Int32) (v2 : Int32) : Option (Int32 × TS) := (ob2 (F_X13_plainPays t v1 v2) (fun x22 t23 => (some (x22, t23))))
theorem TB_X13_pays_95 {W : NW} {d : Nat} {Q : Option NV → TS → Prop} {a0 : Nat → Nat → Nat} {e0 : Nat → Nat → Bool} {bc bs : Nat} (hW : W.2.2.2 = mm_fx) : ∀ (t : TS) (v1 : Int32) (v2 : Int32), wp (B_X13_pays_95 t v1 v2) (fun r => Q (some (eI r.1)) r.2) → nX W (d + 6) tX13_pays Q a0 e0 95 [some (eR (some (13, 0))), some (eI v1), some (eI v2), none] [] t bc bs := by
  intro t v1 v2 H
  unfold B_X13_pays_95 at H
  refine nx_ld rfl rfl rfl rfl ?_
  refine nx_ld rfl rfl rfl rfl ?_
  refine nx_ld rfl rfl rfl rfl ?_
  refine nx_cVI2 (as := [eI v1, eI v2]) (st' := []) rfl rfl (Nat.le_of_ble_eq_true rfl) rfl rfl (Nat.le_of_ble_eq_true rfl) (c0 := 13) rfl (by decide) H (fun Q H => TF_X13_plainPays hW  H) (fun x22 t23 H => ?_)
  exact nx_rit rfl rfl H
def B_X13_pays_44 (t : TS) (v1 : Int32) (v2 : Int32) : Option (Int32 × TS) := (ob2 (F_X13_playerPays t v1 v2) (fun x22 t23 => (some (x22, t23))))
theorem TB_X13_pays_44 {W : NW} {d : Nat} {Q : Option NV → TS → Prop} {a0 : Nat → Nat → Nat} {e0 : Nat → Nat → Bool} {bc bs : Nat} (hW : W.2.2.2 = mm_fx) : ∀ (t : TS) (v1 : Int32) (v2 : Int32), wp (B_X13_pays_44 t v1 v2) (fun r => Q (some (eI r.1)) r.2) → nX W (d + 6) tX13_pays Q a0 e0 44 [some (eR (some (13, 0))), some (eI v1), some (eI v2), none] [] t bc bs := by
  intro t v1 v2 H
  unfold B_X13_pays_44 at H
  refine nx_ld rfl rfl rfl rfl ?_
  refine nx_ld rfl rfl rfl rfl ?_
  refine nx_ld rfl rfl rfl rfl ?_
  refine nx_cVI2 (as := [eI v1, eI v2]) (st' := []) rfl rfl (Nat.le_of_ble_eq_true rfl) rfl rfl (Nat.le_of_ble_eq_true rfl) (c0 := 13) rfl (by decide) H (fun Q H => TF_X13_playerPays hW  H) (fun x22 t23 H => ?_)
  exact nx_rit rfl rfl H
def F_X13_pays (t : TS) (x1 : Int32) (x2 : Int32) : Option (Int32 × TS) := (gd x1 (tL t 3308 0) (swi (tA t 3308 0 x1.toNatClampNeg) 2 [(B_X13_pays_44  t x1 x2), (B_X13_pays_44  t x1 x2), (Option.bind (F_X13_ran t 50) (fun r21 => (ob2 (F_X13_playerPays r21 x1 x2) (fun x23 t24 => (some ((x23 * 3), t24)))))), (ob2 (F_X13_clubPays t x1 x2) (fun x26 t27 => (some (x26, t27)))), (B_X13_pays_95  t x1 x2), (Option.bind (F_X13_ran t 80) (fun r28 => (ob2 (F_X13_clubPays r28 x1 x2) (fun x30 t31 => (ob2 (F_X13_clubSigns t31 x1 x2) (fun x33 t34 => (some ((x30 + x33), t34))))))))] (B_X13_pays_95  t x1 x2)))
theorem TF_X13_pays {W : NW} {d : Nat} {t : TS} {x1 : Int32} {x2 : Int32} {Q : Option NV → TS → Prop} {bc bs : Nat} (hW : W.2.2.2 = mm_fx) (H : wp (F_X13_pays t x1 x2) (fun r => Q (some (eI r.1)) r.2)) : nC W (d + 7) 256 [eR (some (13, 0)), eI x1, eI x2] t bc bs Q := by
  refine nC_in (d := (d + 6)) (T := tX13_pays) (ls := [some (eR (some (13, 0))), some (eI x1), some (eI x2), none]) rfl (Nat.le_of_ble_eq_true rfl) rfl (fun a0 e0 => ?_)
  unfold F_X13_pays at H
  refine nx_ld rfl rfl rfl rfl ?_
  refine nx_getFix rfl rfl rfl (by decide) (by rw [hW]; rfl) rfl ?_
  refine nx_ld rfl rfl rfl rfl ?_
  refine nx_iald (p := (3308, 0)) rfl rfl (Nat.le_of_ble_eq_true rfl) (Nat.le_of_ble_eq_true rfl) rfl H (fun H => ?_)
  refine nx_tsw rfl rfl (by decide) (by decide) (by decide) H (fun H => ?_) ?_
  · show nX _ _ _ _ _ _ 95 _ _ _ _ _
    exact TB_X13_pays_95 hW    _ _ _ H
  refine ⟨fun H => ?_, fun H => ?_, fun H => ?_, fun H => ?_, fun H => ?_, fun H => ?_, trivial⟩
  · show nX _ _ _ _ _ _ 44 _ _ _ _ _
    exact TB_X13_pays_44 hW    _ _ _ H
  · show nX _ _ _ _ _ _ 44 _ _ _ _ _
    exact TB_X13_pays_44 hW    _ _ _ H
  · show nX _ _ _ _ _ _ 51 _ _ _ _ _
    refine nx_ld rfl rfl rfl rfl ?_
    refine nx_int (x := 50) rfl rfl ?_
    refine nx_cVVt (as := [eI 50]) (st' := []) rfl rfl (Nat.le_of_ble_eq_true rfl) rfl rfl (Nat.le_of_ble_eq_true rfl) (c0 := 13) rfl (by decide) H (fun Q H => TF_X13_ran hW  H) (fun r21 H => ?_)
    refine nx_ld rfl rfl rfl rfl ?_
    refine nx_ld rfl rfl rfl rfl ?_
    refine nx_ld rfl rfl rfl rfl ?_
    refine nx_cVI2 (as := [eI x1, eI x2]) (st' := []) rfl rfl (Nat.le_of_ble_eq_true rfl) rfl rfl (Nat.le_of_ble_eq_true rfl) (c0 := 13) rfl (by decide) H (fun Q H => TF_X13_playerPays hW  H) (fun x23 t24 H => ?_)
    show nX _ _ _ _ _ _ 63 _ _ _ _ _
    refine nx_int (x := 3) rfl rfl ?_
    refine nx_ii rfl rfl ?_
    exact nx_rit rfl rfl H
  · show nX _ _ _ _ _ _ 66 _ _ _ _ _
    refine nx_ld rfl rfl rfl rfl ?_
    refine nx_ld rfl rfl rfl rfl ?_
    refine nx_ld rfl rfl rfl rfl ?_
    refine nx_cVI2 (as := [eI x1, eI x2]) (st' := []) rfl rfl (Nat.le_of_ble_eq_true rfl) rfl rfl (Nat.le_of_ble_eq_true rfl) (c0 := 13) rfl (by decide) H (fun Q H => TF_X13_clubPays hW  H) (fun x26 t27 H => ?_)
    exact nx_rit rfl rfl H
  · show nX _ _ _ _ _ _ 95 _ _ _ _ _
    exact TB_X13_pays_95 hW    _ _ _ H
  · show nX _ _ _ _ _ _ 73 _ _ _ _ _
    refine nx_ld rfl rfl rfl rfl ?_
    refine nx_int (x := 80) rfl rfl ?_
    refine nx_cVVt (as := [eI 80]) (st' := []) rfl rfl (Nat.le_of_ble_eq_true rfl) rfl rfl (Nat.le_of_ble_eq_true rfl) (c0 := 13) rfl (by decide) H (fun Q H => TF_X13_ran hW  H) (fun r28 H => ?_)
    refine nx_ld rfl rfl rfl rfl ?_
    refine nx_ld rfl rfl rfl rfl ?_
    refine nx_ld rfl rfl rfl rfl ?_
    refine nx_cVI2 (as := [eI x1, eI x2]) (st' := []) rfl rfl (Nat.le_of_ble_eq_true rfl) rfl rfl (Nat.le_of_ble_eq_true rfl) (c0 := 13) rfl (by decide) H (fun Q H => TF_X13_clubPays hW  H) (fun x30 t31 H => ?_)
    show nX _ _ _ _ _ _ 85 _ _ _ _ _
    refine nx_st (ls' := [some (eR (some (13, 0))), some (eI x1), some (eI x2), some (eI x30)]) rfl rfl rfl (Nat.le_of_ble_eq_true rfl) rfl ?_
    refine nx_ld rfl rfl rfl rfl ?_
    refine nx_ld rfl rfl rfl rfl ?_
    refine nx_ld rfl rfl rfl rfl ?_
    refine nx_ld rfl rfl rfl rfl ?_
    refine nx_cVI2 (as := [eI x1, eI x2]) (st' := [eI x30]) rfl rfl (Nat.le_of_ble_eq_true rfl) rfl rfl (Nat.le_of_ble_eq_true rfl) (c0 := 13) rfl (by decide) H (fun Q H => TF_X13_clubSigns hW  H) (fun x33 t34 H => ?_)
    refine nx_ii rfl rfl ?_
    exact nx_rit rfl rfl H
