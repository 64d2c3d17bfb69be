/-! functions of methods over the typed heap, and that the runs follow them (by program: wip/whole/walk.py) -/
def F_X13_isSome (t : TS) (x1 : Int32) (x2 : Int32) : Option Int32 := (gd x1 (tL t 3319 0) (if x2 < (tA t 3319 0 x1.toNatClampNeg) then (some (0)) else (gd x1 (tL t 3322 0) (if (tA t 3322 0 x1.toNatClampNeg) ≤ x2 then (some (0)) else (some (1))))))
theorem TF_X13_isSome {W : NW} {d : Nat} {t : TS} {x1 : Int32} {x2 : Int32} {Q : Option NV → TS → Prop} {bc bs : Nat} (hW : W.2.2.2 = mm_fx) (H : wp (F_X13_isSome t x1 x2) (fun r => Q (some (eI r)) t)) : nC W (d + 1) 177 [eR (some (13, 0)), eI x1, eI x2] t bc bs Q := by
  refine nC_in (d := d) (T := tX13_isSome) (ls := [some (eR (some (13, 0))), some (eI x1), some (eI x2)]) rfl (Nat.le_of_ble_eq_true rfl) rfl (fun a0 e0 => ?_)
  unfold F_X13_isSome at H
  refine nx_ld rfl rfl rfl rfl ?_
  refine nx_getFix rfl rfl rfl (by decide) (by rw [hW]; rfl) rfl ?_
  refine nx_ld rfl rfl rfl rfl ?_
  refine nx_iald (p := (3319, 0)) rfl rfl (Nat.le_of_ble_eq_true rfl) (Nat.le_of_ble_eq_true rfl) rfl H (fun H => ?_)
  refine nx_ld rfl rfl rfl rfl ?_
  refine nx_icmp rfl rfl (by rfl) H (fun H => ?_) (fun H => ?_)
  · refine nx_int (x := 0) rfl rfl ?_
    exact nx_rzl rfl rfl (by decide) H
  refine nx_ld rfl rfl rfl rfl ?_
  refine nx_ld rfl rfl rfl rfl ?_
  refine nx_getFix rfl rfl rfl (by decide) (by rw [hW]; rfl) rfl ?_
  refine nx_ld rfl rfl rfl rfl ?_
  refine nx_iald (p := (3322, 0)) rfl rfl (Nat.le_of_ble_eq_true rfl) (Nat.le_of_ble_eq_true rfl) rfl H (fun H => ?_)
  refine nx_icmp rfl rfl (by rfl) H (fun H => ?_) (fun H => ?_)
  · refine nx_int (x := 0) rfl rfl ?_
    exact nx_rzl rfl rfl (by decide) H
  refine nx_int (x := 1) rfl rfl ?_
  refine nx_goto rfl rfl ?_
  exact nx_rzl rfl rfl (by decide) H
def B_X13_ownSpan_42 (k7 : TS → Int32 → Int32 → Int32 → Option Int32) (t : TS) (v1 : Int32) (v2 : Int32) (v3 : Int32) : Option Int32 := (k7 t v1 v2 (v3 + (-1)))
theorem TB_X13_ownSpan_42 {W : NW} {d : Nat} {Q : Option NV → TS → Prop} {a0 : Nat → Nat → Nat} {e0 : Nat → Nat → Bool} {t : TS} {k7 : TS → Int32 → Int32 → Int32 → Option Int32} {bc bs : Nat} (hW : W.2.2.2 = mm_fx) (hk7 : ∀ (v1 : Int32) (v2 : Int32) (v3 : Int32), wp (k7 t v1 v2 v3) (fun r => Q (some (eI r)) t) → nX W (d + 1) tX13_ownSpan Q a0 e0 7 [some (eR (some (13, 0))), some (eI v1), some (eI v2), some (eI v3)] [] t bc bs) : ∀ (v1 : Int32) (v2 : Int32) (v3 : Int32), wp (B_X13_ownSpan_42 k7 t v1 v2 v3) (fun r => Q (some (eI r)) t) → nX W (d + 1) tX13_ownSpan Q a0 e0 42 [some (eR (some (13, 0))), some (eI v1), some (eI v2), some (eI v3)] [] t bc bs := by
  intro v1 v2 v3 H
  unfold B_X13_ownSpan_42 at H
  refine nx_iinc2 (-1) (ls' := [some (eR (some (13, 0))), some (eI v1), some (eI v2), some (eI (v3 + (-1)))]) rfl rfl rfl rfl rfl ?_
  refine nx_goto rfl rfl ?_
  exact hk7 _ _ _ H
def BB_X13_ownSpan_7 (k7 : TS → Int32 → Int32 → Int32 → Option Int32) (t : TS) (v1 : Int32) (v2 : Int32) (v3 : Int32) : Option Int32 := (if v3 < 0 then (some ((-1))) else (gd v3 (tL t 3317 0) (if ¬ (tA t 3317 0 v3.toNatClampNeg) = v1 then (B_X13_ownSpan_42 k7 t v1 v2 v3) else (gd v3 (tL t 3321 0) (if ¬ (tA t 3321 0 v3.toNatClampNeg) = 1 then (B_X13_ownSpan_42 k7 t v1 v2 v3) else (Option.bind (F_X13_isSome t v3 v2) (fun r21 => (if r21 = 0 then (B_X13_ownSpan_42 k7 t v1 v2 v3) else (some (v3))))))))))
theorem TBB_X13_ownSpan_7 {W : NW} {d : Nat} {Q : Option NV → TS → Prop} {a0 : Nat → Nat → Nat} {e0 : Nat → Nat → Bool} {t : TS} {k7 : TS → Int32 → Int32 → Int32 → Option Int32} {bc bs : Nat} (hW : W.2.2.2 = mm_fx) (hk7 : ∀ (v1 : Int32) (v2 : Int32) (v3 : Int32), wp (k7 t v1 v2 v3) (fun r => Q (some (eI r)) t) → nX W (d + 1) tX13_ownSpan Q a0 e0 7 [some (eR (some (13, 0))), some (eI v1), some (eI v2), some (eI v3)] [] t bc bs) : ∀ (v1 : Int32) (v2 : Int32) (v3 : Int32), wp (BB_X13_ownSpan_7 k7 t v1 v2 v3) (fun r => Q (some (eI r)) t) → nX W (d + 1) tX13_ownSpan Q a0 e0 7 [some (eR (some (13, 0))), some (eI v1), some (eI v2), some (eI v3)] [] t bc bs := by
  intro v1 v2 v3 H
  unfold BB_X13_ownSpan_7 at H
  refine nx_ld rfl rfl rfl rfl ?_
  refine nx_if rfl rfl (by rfl) H (fun H => ?_) (fun H => ?_)
  · refine nx_int (x := (-1)) rfl rfl ?_
    exact nx_ri rfl rfl H
  refine nx_ld rfl rfl rfl rfl ?_
  refine nx_getFix rfl rfl rfl (by decide) (by rw [hW]; rfl) rfl ?_
  refine nx_ld rfl rfl rfl rfl ?_
  refine nx_iald (p := (3317, 0)) rfl rfl (Nat.le_of_ble_eq_true rfl) (Nat.le_of_ble_eq_true rfl) rfl H (fun H => ?_)
  refine nx_ld rfl rfl rfl rfl ?_
  refine nx_icmp rfl rfl (by rfl) H (fun H => ?_) (fun H => ?_)
  · exact TB_X13_ownSpan_42 hW   hk7 _ _ _ H
  refine nx_ld rfl rfl rfl rfl ?_
  refine nx_getFix rfl rfl rfl (by decide) (by rw [hW]; rfl) rfl ?_
  refine nx_ld rfl rfl rfl rfl ?_
  refine nx_iald (p := (3321, 0)) rfl rfl (Nat.le_of_ble_eq_true rfl) (Nat.le_of_ble_eq_true rfl) rfl H (fun H => ?_)
  refine nx_int (x := 1) rfl rfl ?_
  refine nx_icmp rfl rfl (by rfl) H (fun H => ?_) (fun H => ?_)
  · exact TB_X13_ownSpan_42 hW   hk7 _ _ _ H
  refine nx_ld rfl rfl rfl rfl ?_
  refine nx_ld rfl rfl rfl rfl ?_
  refine nx_ld rfl rfl rfl rfl ?_
  refine nx_cVI (as := [eI v3, eI v2]) (st' := []) rfl rfl (Nat.le_of_ble_eq_true rfl) rfl rfl (Nat.le_of_ble_eq_true rfl) (c0 := 13) rfl (by decide) H (fun Q H => TF_X13_isSome hW  H) (fun r21 H => ?_)
  refine nx_if rfl rfl (by rfl) H (fun H => ?_) (fun H => ?_)
  · exact TB_X13_ownSpan_42 hW   hk7 _ _ _ H
  refine nx_ld rfl rfl rfl rfl ?_
  exact nx_ri rfl rfl H
def B_X13_ownSpan_7 : Nat → TS → Int32 → Int32 → Int32 → Option Int32
  | 0 => fun _ _ _ _ => none
  | n + 1 => fun t v1 v2 v3 => BB_X13_ownSpan_7 (B_X13_ownSpan_7 n) t v1 v2 v3
theorem TB_X13_ownSpan_7 {W : NW} {d : Nat} {Q : Option NV → TS → Prop} {a0 : Nat → Nat → Nat} {e0 : Nat → Nat → Bool} {t : TS} {bc bs : Nat} (hW : W.2.2.2 = mm_fx) : ∀ (n : Nat) (v1 : Int32) (v2 : Int32) (v3 : Int32), wp (B_X13_ownSpan_7 n t v1 v2 v3) (fun r => Q (some (eI r)) t) → nX W (d + 1) tX13_ownSpan Q a0 e0 7 [some (eR (some (13, 0))), some (eI v1), some (eI v2), some (eI v3)] [] t bc bs := by
  intro n
  induction n with
  | zero => intro v1 v2 v3 H; exact (wp_none H).elim
  | succ n ih =>
    intro v1 v2 v3 H
    exact TBB_X13_ownSpan_7 hW    ih v1 v2 v3 H
def F_X13_ownSpan (t : TS) (x1 : Int32) (x2 : Int32) : Option Int32 := (B_X13_ownSpan_7  10000 t x1 x2 ((tI t 1316 0) - 1))
theorem TF_X13_ownSpan {W : NW} {d : Nat} {t : TS} {x1 : Int32} {x2 : Int32} {Q : Option NV → TS → Prop} {bc bs : Nat} (hW : W.2.2.2 = mm_fx) (H : wp (F_X13_ownSpan t x1 x2) (fun r => Q (some (eI r)) t)) : nC W (d + 2) 178 [eR (some (13, 0)), eI x1, eI x2] t bc bs Q := by
  refine nC_in (d := (d + 1)) (T := tX13_ownSpan) (ls := [some (eR (some (13, 0))), some (eI x1), some (eI x2), none]) rfl (Nat.le_of_ble_eq_true rfl) rfl (fun a0 e0 => ?_)
  unfold F_X13_ownSpan at H
  refine nx_ld rfl rfl rfl rfl ?_
  refine nx_getI rfl rfl rfl (by decide) ?_
  refine nx_int (x := 1) rfl rfl ?_
  refine nx_ii rfl rfl ?_
  refine nx_st (ls' := [some (eR (some (13, 0))), some (eI x1), some (eI x2), some (eI ((tI t 1316 0) - 1))]) rfl rfl rfl (Nat.le_of_ble_eq_true rfl) rfl ?_
  exact TB_X13_ownSpan_7 hW    10000 _ _ _ H
def B_X13_spanOn_72 (k15 : TS → Int32 → Int32 → Int32 → Int32 → Option Int32) (t : TS) (v1 : Int32) (v2 : Int32) (v3 : Int32) (v4 : Int32) : Option Int32 := (k15 t v1 v2 v3 (v4 + (-1)))
theorem TB_X13_spanOn_72 {W : NW} {d : Nat} {Q : Option NV → TS → Prop} {a0 : Nat → Nat → Nat} {e0 : Nat → Nat → Bool} {t : TS} {k15 : TS → Int32 → Int32 → Int32 → Int32 → Option Int32} {bc bs : Nat} (hW : W.2.2.2 = mm_fx) (hk15 : ∀ (v1 : Int32) (v2 : Int32) (v3 : Int32) (v4 : Int32), wp (k15 t v1 v2 v3 v4) (fun r => Q (some (eI r)) t) → nX W (d + 2) tX13_spanOn Q a0 e0 15 [some (eR (some (13, 0))), some (eI v1), some (eI v2), some (eI v3), some (eI v4)] [] t bc bs) : ∀ (v1 : Int32) (v2 : Int32) (v3 : Int32) (v4 : Int32), wp (B_X13_spanOn_72 k15 t v1 v2 v3 v4) (fun r => Q (some (eI r)) t) → nX W (d + 2) tX13_spanOn Q a0 e0 72 [some (eR (some (13, 0))), some (eI v1), some (eI v2), some (eI v3), some (eI v4)] [] t bc bs := by
  intro v1 v2 v3 v4 H
  unfold B_X13_spanOn_72 at H
  refine nx_iinc2 (-1) (ls' := [some (eR (some (13, 0))), some (eI v1), some (eI v2), some (eI v3), some (eI (v4 + (-1)))]) rfl rfl rfl rfl rfl ?_
  refine nx_goto rfl rfl ?_
  exact hk15 _ _ _ _ H
def BB_X13_spanOn_15 (k15 : TS → Int32 → Int32 → Int32 → Int32 → Option Int32) (t : TS) (v1 : Int32) (v2 : Int32) (v3 : Int32) (v4 : Int32) : Option Int32 := (if v4 < 0 then (some ((-1))) else (gd v4 (tL t 3317 0) (if ¬ (tA t 3317 0 v4.toNatClampNeg) = v1 then (B_X13_spanOn_72 k15 t v1 v2 v3 v4) else (Option.bind (F_X13_isSome t v4 v2) (fun r21 => (if r21 = 0 then (B_X13_spanOn_72 k15 t v1 v2 v3 v4) else (gd v4 (tL t 3320 0) (if (tA t 3320 0 v4.toNatClampNeg) < v2 then (B_X13_spanOn_72 k15 t v1 v2 v3 v4) else (gd v4 (tL t 3321 0) (if ¬ (tA t 3321 0 v4.toNatClampNeg) = 1 then (some (v4)) else (if ¬ v4 = v3 then (B_X13_spanOn_72 k15 t v1 v2 v3 v4) else (some (v4)))))))))))))
theorem TBB_X13_spanOn_15 {W : NW} {d : Nat} {Q : Option NV → TS → Prop} {a0 : Nat → Nat → Nat} {e0 : Nat → Nat → Bool} {t : TS} {k15 : TS → Int32 → Int32 → Int32 → Int32 → Option Int32} {bc bs : Nat} (hW : W.2.2.2 = mm_fx) (hk15 : ∀ (v1 : Int32) (v2 : Int32) (v3 : Int32) (v4 : Int32), wp (k15 t v1 v2 v3 v4) (fun r => Q (some (eI r)) t) → nX W (d + 2) tX13_spanOn Q a0 e0 15 [some (eR (some (13, 0))), some (eI v1), some (eI v2), some (eI v3), some (eI v4)] [] t bc bs) : ∀ (v1 : Int32) (v2 : Int32) (v3 : Int32) (v4 : Int32), wp (BB_X13_spanOn_15 k15 t v1 v2 v3 v4) (fun r => Q (some (eI r)) t) → nX W (d + 2) tX13_spanOn Q a0 e0 15 [some (eR (some (13, 0))), some (eI v1), some (eI v2), some (eI v3), some (eI v4)] [] t bc bs := by
  intro v1 v2 v3 v4 H
  unfold BB_X13_spanOn_15 at H
  refine nx_ld rfl rfl rfl rfl ?_
  refine nx_if rfl rfl (by rfl) H (fun H => ?_) (fun H => ?_)
  · refine nx_int (x := (-1)) rfl rfl ?_
    exact nx_ri rfl rfl H
  refine nx_ld rfl rfl rfl rfl ?_
  refine nx_getFix rfl rfl rfl (by decide) (by rw [hW]; rfl) rfl ?_
  refine nx_ld rfl rfl rfl rfl ?_
  refine nx_iald (p := (3317, 0)) rfl rfl (Nat.le_of_ble_eq_true rfl) (Nat.le_of_ble_eq_true rfl) rfl H (fun H => ?_)
  refine nx_ld rfl rfl rfl rfl ?_
  refine nx_icmp rfl rfl (by rfl) H (fun H => ?_) (fun H => ?_)
  · exact TB_X13_spanOn_72 hW   hk15 _ _ _ _ H
  refine nx_ld rfl rfl rfl rfl ?_
  refine nx_ld rfl rfl rfl rfl ?_
  refine nx_ld rfl rfl rfl rfl ?_
  refine nx_cVI (as := [eI v4, eI v2]) (st' := []) rfl rfl (Nat.le_of_ble_eq_true rfl) rfl rfl (Nat.le_of_ble_eq_true rfl) (c0 := 13) rfl (by decide) H (fun Q H => TF_X13_isSome hW  H) (fun r21 H => ?_)
  refine nx_if rfl rfl (by rfl) H (fun H => ?_) (fun H => ?_)
  · exact TB_X13_spanOn_72 hW   hk15 _ _ _ _ H
  refine nx_ld rfl rfl rfl rfl ?_
  refine nx_ld rfl rfl rfl rfl ?_
  refine nx_getFix rfl rfl rfl (by decide) (by rw [hW]; rfl) rfl ?_
  refine nx_ld rfl rfl rfl rfl ?_
  refine nx_iald (p := (3320, 0)) rfl rfl (Nat.le_of_ble_eq_true rfl) (Nat.le_of_ble_eq_true rfl) rfl H (fun H => ?_)
  refine nx_icmp rfl rfl (by rfl) H (fun H => ?_) (fun H => ?_)
  · exact TB_X13_spanOn_72 hW   hk15 _ _ _ _ H
  refine nx_ld rfl rfl rfl rfl ?_
  refine nx_getFix rfl rfl rfl (by decide) (by rw [hW]; rfl) rfl ?_
  refine nx_ld rfl rfl rfl rfl ?_
  refine nx_iald (p := (3321, 0)) rfl rfl (Nat.le_of_ble_eq_true rfl) (Nat.le_of_ble_eq_true rfl) rfl H (fun H => ?_)
  refine nx_int (x := 1) rfl rfl ?_
  refine nx_icmp rfl rfl (by rfl) H (fun H => ?_) (fun H => ?_)
  · refine nx_ld rfl rfl rfl rfl ?_
    exact nx_ri rfl rfl H
  refine nx_ld rfl rfl rfl rfl ?_
  refine nx_ld rfl rfl rfl rfl ?_
  refine nx_icmp rfl rfl (by rfl) H (fun H => ?_) (fun H => ?_)
  · exact TB_X13_spanOn_72 hW   hk15 _ _ _ _ H
  refine nx_ld rfl rfl rfl rfl ?_
  exact nx_ri rfl rfl H
def B_X13_spanOn_15 : Nat → TS → Int32 → Int32 → Int32 → Int32 → Option Int32
  | 0 => fun _ _ _ _ _ => none
  | n + 1 => fun t v1 v2 v3 v4 => BB_X13_spanOn_15 (B_X13_spanOn_15 n) t v1 v2 v3 v4
theorem TB_X13_spanOn_15 {W : NW} {d : Nat} {Q : Option NV → TS → Prop} {a0 : Nat → Nat → Nat} {e0 : Nat → Nat → Bool} {t : TS} {bc bs : Nat} (hW : W.2.2.2 = mm_fx) : ∀ (n : Nat) (v1 : Int32) (v2 : Int32) (v3 : Int32) (v4 : Int32), wp (B_X13_spanOn_15 n t v1 v2 v3 v4) (fun r => Q (some (eI r)) t) → nX W (d + 2) tX13_spanOn Q a0 e0 15 [some (eR (some (13, 0))), some (eI v1), some (eI v2), some (eI v3), some (eI v4)] [] t bc bs := by
  intro n
  induction n with
  | zero => intro v1 v2 v3 v4 H; exact (wp_none H).elim
  | succ n ih =>
    intro v1 v2 v3 v4 H
    exact TBB_X13_spanOn_15 hW    ih v1 v2 v3 v4 H
def F_X13_spanOn (t : TS) (x1 : Int32) (x2 : Int32) : Option Int32 := (Option.bind (F_X13_ownSpan t x1 x2) (fun r21 => (B_X13_spanOn_15  10000 t x1 x2 r21 ((tI t 1316 0) - 1))))
theorem TF_X13_spanOn {W : NW} {d : Nat} {t : TS} {x1 : Int32} {x2 : Int32} {Q : Option NV → TS → Prop} {bc bs : Nat} (hW : W.2.2.2 = mm_fx) (H : wp (F_X13_spanOn t x1 x2) (fun r => Q (some (eI r)) t)) : nC W (d + 3) 179 [eR (some (13, 0)), eI x1, eI x2] t bc bs Q := by
  refine nC_in (d := (d + 2)) (T := tX13_spanOn) (ls := [some (eR (some (13, 0))), some (eI x1), some (eI x2), none, none]) rfl (Nat.le_of_ble_eq_true rfl) rfl (fun a0 e0 => ?_)
  unfold F_X13_spanOn at H
  refine nx_ld rfl rfl rfl rfl ?_
  refine nx_ld rfl rfl rfl rfl ?_
  refine nx_ld rfl rfl rfl rfl ?_
  refine nx_cVI (as := [eI x1, eI x2]) (st' := []) rfl rfl (Nat.le_of_ble_eq_true rfl) rfl rfl (Nat.le_of_ble_eq_true rfl) (c0 := 13) rfl (by decide) H (fun Q H => TF_X13_ownSpan hW  H) (fun r21 H => ?_)
  refine nx_st (ls' := [some (eR (some (13, 0))), some (eI x1), some (eI x2), some (eI r21), none]) rfl rfl rfl (Nat.le_of_ble_eq_true rfl) rfl ?_
  refine nx_ld rfl rfl rfl rfl ?_
  refine nx_getI rfl rfl rfl (by decide) ?_
  show nX _ _ _ _ _ _ 11 _ _ _ _ _
  refine nx_int (x := 1) rfl rfl ?_
  refine nx_ii rfl rfl ?_
  refine nx_st (ls' := [some (eR (some (13, 0))), some (eI x1), some (eI x2), some (eI r21), some (eI ((tI t 1316 0) - 1))]) rfl rfl rfl (Nat.le_of_ble_eq_true rfl) rfl ?_
  exact TB_X13_spanOn_15 hW    10000 _ _ _ _ H
def F_X13_holderOn (t : TS) (x1 : Int32) (x2 : Int32) : Option Int32 := (Option.bind (F_X13_spanOn t x1 x2) (fun r21 => (if 0 ≤ r21 then (gd r21 (tL t 3318 0) (some ((tA t 3318 0 r21.toNatClampNeg)))) else (some ((-1))))))
theorem TF_X13_holderOn {W : NW} {d : Nat} {t : TS} {x1 : Int32} {x2 : Int32} {Q : Option NV → TS → Prop} {bc bs : Nat} (hW : W.2.2.2 = mm_fx) (H : wp (F_X13_holderOn t x1 x2) (fun r => Q (some (eI r)) t)) : nC W (d + 4) 180 [eR (some (13, 0)), eI x1, eI x2] t bc bs Q := by
  refine nC_in (d := (d + 3)) (T := tX13_holderOn) (ls := [some (eR (some (13, 0))), some (eI x1), some (eI x2), none]) rfl (Nat.le_of_ble_eq_true rfl) rfl (fun a0 e0 => ?_)
  unfold F_X13_holderOn at H
  refine nx_ld rfl rfl rfl rfl ?_
  refine nx_ld rfl rfl rfl rfl ?_
  refine nx_ld rfl rfl rfl rfl ?_
  refine nx_cVI (as := [eI x1, eI x2]) (st' := []) rfl rfl (Nat.le_of_ble_eq_true rfl) rfl rfl (Nat.le_of_ble_eq_true rfl) (c0 := 13) rfl (by decide) H (fun Q H => TF_X13_spanOn hW  H) (fun r21 H => ?_)
  refine nx_st (ls' := [some (eR (some (13, 0))), some (eI x1), some (eI x2), some (eI r21)]) rfl rfl rfl (Nat.le_of_ble_eq_true rfl) rfl ?_
  refine nx_ld rfl rfl rfl rfl ?_
  refine nx_if rfl rfl (by rfl) H (fun H => ?_) (fun H => ?_)
  · refine nx_ld rfl rfl rfl rfl ?_
    refine nx_getFix rfl rfl rfl (by decide) (by rw [hW]; rfl) rfl ?_
    refine nx_ld rfl rfl rfl rfl ?_
    refine nx_iald (p := (3318, 0)) rfl rfl (Nat.le_of_ble_eq_true rfl) (Nat.le_of_ble_eq_true rfl) rfl H (fun H => ?_)
    exact nx_ri rfl rfl H
  refine nx_int (x := (-1)) rfl rfl ?_
  refine nx_goto rfl rfl ?_
  exact nx_ri rfl rfl H
def B_X13_spansOf_28 (k4 : TS → Int32 → Int32 → Int32 → Option Int32) (t : TS) (v1 : Int32) (v3 : Int32) (s0 : Int32) (s1 : Int32) : Option Int32 := (k4 t v1 (s1 + s0) (v3 + 1))
theorem TB_X13_spansOf_28 {W : NW} {d : Nat} {Q : Option NV → TS → Prop} {a0 : Nat → Nat → Nat} {e0 : Nat → Nat → Bool} {t : TS} {k4 : TS → Int32 → Int32 → Int32 → Option Int32} {bc bs : Nat} (hW : W.2.2.2 = mm_fx) (hk4 : ∀ (v1 : Int32) (v2 : Int32) (v3 : Int32), wp (k4 t v1 v2 v3) (fun r => Q (some (eI r)) t) → nX W d tX13_spansOf Q a0 e0 4 [some (eR (some (13, 0))), some (eI v1), some (eI v2), some (eI v3)] [] t bc bs) : ∀ (v1 : Int32) (v2 : Int32) (v3 : Int32) (s0 : Int32) (s1 : Int32), wp (B_X13_spansOf_28 k4 t v1 v3 s0 s1) (fun r => Q (some (eI r)) t) → nX W d tX13_spansOf Q a0 e0 28 [some (eR (some (13, 0))), some (eI v1), some (eI v2), some (eI v3)] [eI s0, eI s1] t bc bs := by
  intro v1 v2 v3 s0 s1 H
  unfold B_X13_spansOf_28 at H
  refine nx_ii rfl rfl ?_
  refine nx_st (ls' := [some (eR (some (13, 0))), some (eI v1), some (eI (s1 + s0)), some (eI v3)]) rfl rfl rfl (Nat.le_of_ble_eq_true rfl) rfl ?_
  refine nx_iinc2 1 (ls' := [some (eR (some (13, 0))), some (eI v1), some (eI (s1 + s0)), some (eI (v3 + 1))]) rfl rfl rfl rfl rfl ?_
  refine nx_goto rfl rfl ?_
  exact hk4 _ _ _ H
def BB_X13_spansOf_4 (k4 : TS → Int32 → Int32 → Int32 → Option Int32) (t : TS) (v1 : Int32) (v2 : Int32) (v3 : Int32) : Option Int32 := (if (tI t 1316 0) ≤ v3 then (some (v2)) else (gd v3 (tL t 3317 0) (if ¬ (tA t 3317 0 v3.toNatClampNeg) = v1 then (B_X13_spansOf_28 k4 t v1 v3 0 v2) else (B_X13_spansOf_28 k4 t v1 v3 1 v2))))
theorem TBB_X13_spansOf_4 {W : NW} {d : Nat} {Q : Option NV → TS → Prop} {a0 : Nat → Nat → Nat} {e0 : Nat → Nat → Bool} {t : TS} {k4 : TS → Int32 → Int32 → Int32 → Option Int32} {bc bs : Nat} (hW : W.2.2.2 = mm_fx) (hk4 : ∀ (v1 : Int32) (v2 : Int32) (v3 : Int32), wp (k4 t v1 v2 v3) (fun r => Q (some (eI r)) t) → nX W d tX13_spansOf Q a0 e0 4 [some (eR (some (13, 0))), some (eI v1), some (eI v2), some (eI v3)] [] t bc bs) : ∀ (v1 : Int32) (v2 : Int32) (v3 : Int32), wp (BB_X13_spansOf_4 k4 t v1 v2 v3) (fun r => Q (some (eI r)) t) → nX W d tX13_spansOf Q a0 e0 4 [some (eR (some (13, 0))), some (eI v1), some (eI v2), some (eI v3)] [] t bc bs := by
  intro v1 v2 v3 H
  unfold BB_X13_spansOf_4 at H
  refine nx_ld rfl rfl rfl rfl ?_
  refine nx_ld rfl rfl rfl rfl ?_
  refine nx_getI rfl rfl rfl (by decide) ?_
  refine nx_icmp rfl rfl (by rfl) H (fun H => ?_) (fun H => ?_)
  · refine nx_ld rfl rfl rfl rfl ?_
    exact nx_ri rfl rfl H
  refine nx_ld rfl rfl rfl rfl ?_
  refine nx_ld rfl rfl rfl rfl ?_
  refine nx_getFix rfl rfl rfl (by decide) (by rw [hW]; rfl) rfl ?_
  refine nx_ld rfl rfl rfl rfl ?_
  refine nx_iald (p := (3317, 0)) rfl rfl (Nat.le_of_ble_eq_true rfl) (Nat.le_of_ble_eq_true rfl) rfl H (fun H => ?_)
  refine nx_ld rfl rfl rfl rfl ?_
  refine nx_icmp rfl rfl (by rfl) H (fun H => ?_) (fun H => ?_)
  · refine nx_int (x := 0) rfl rfl ?_
    exact TB_X13_spansOf_28 hW   hk4 _ _ _ _ _ H
  refine nx_int (x := 1) rfl rfl ?_
  refine nx_goto rfl rfl ?_
  exact TB_X13_spansOf_28 hW   hk4 _ _ _ _ _ H
def B_X13_spansOf_4 : Nat → TS → Int32 → Int32 → Int32 → Option Int32
  | 0 => fun _ _ _ _ => none
  | n + 1 => fun t v1 v2 v3 => BB_X13_spansOf_4 (B_X13_spansOf_4 n) t v1 v2 v3
theorem TB_X13_spansOf_4 {W : NW} {d : Nat} {Q : Option NV → TS → Prop} {a0 : Nat → Nat → Nat} {e0 : Nat → Nat → Bool} {t : TS} {bc bs : Nat} (hW : W.2.2.2 = mm_fx) : ∀ (n : Nat) (v1 : Int32) (v2 : Int32) (v3 : Int32), wp (B_X13_spansOf_4 n t v1 v2 v3) (fun r => Q (some (eI r)) t) → nX W d tX13_spansOf Q a0 e0 4 [some (eR (some (13, 0))), some (eI v1), some (eI v2), some (eI v3)] [] t bc bs := by
  intro n
  induction n with
  | zero => intro v1 v2 v3 H; exact (wp_none H).elim
  | succ n ih =>
    intro v1 v2 v3 H
    exact TBB_X13_spansOf_4 hW    ih v1 v2 v3 H
def F_X13_spansOf (t : TS) (x1 : Int32) : Option Int32 := (B_X13_spansOf_4  10000 t x1 0 0)
theorem TF_X13_spansOf {W : NW} {d : Nat} {t : TS} {x1 : Int32} {Q : Option NV → TS → Prop} {bc bs : Nat} (hW : W.2.2.2 = mm_fx) (H : wp (F_X13_spansOf t x1) (fun r => Q (some (eI r)) t)) : nC W (d + 1) 176 [eR (some (13, 0)), eI x1] t bc bs Q := by
  refine nC_in (d := d) (T := tX13_spansOf) (ls := [some (eR (some (13, 0))), some (eI x1), none, none]) rfl (Nat.le_of_ble_eq_true rfl) rfl (fun a0 e0 => ?_)
  unfold F_X13_spansOf at H
  refine nx_int (x := 0) rfl rfl ?_
  refine nx_st (ls' := [some (eR (some (13, 0))), some (eI x1), some (eI 0), none]) rfl rfl rfl (Nat.le_of_ble_eq_true rfl) rfl ?_
  refine nx_int (x := 0) rfl rfl ?_
  refine nx_st (ls' := [some (eR (some (13, 0))), some (eI x1), some (eI 0), some (eI 0)]) rfl rfl rfl (Nat.le_of_ble_eq_true rfl) rfl ?_
  exact TB_X13_spansOf_4 hW    10000 _ _ _ H
def B_X13_ofBody_107 (t : TS) (v1 : Int32) (v2 : Int32) (v3 : Int32) (s0 : Int32) : Option Int32 := (swi v2 1 [(Option.bind (F_X13_ageOn t v1 (tI t 1301 0)) (fun r21 => (some (r21)))), (gd v1 (tL t 3313 0) (some ((tA t 3313 0 v1.toNatClampNeg)))), (gd v1 (tL t 3314 0) (some ((tA t 3314 0 v1.toNatClampNeg)))), (Option.bind (F_X13_holderOn t v1 (tI t 1301 0)) (fun r22 => (some (r22)))), (if s0 = 0 then (some ((-1))) else (gd v3 (tL t 3318 0) (some ((tA t 3318 0 v3.toNatClampNeg))))), (Option.bind (F_X13_spansOf t v1) (fun r23 => (some (r23)))), (if s0 = 0 then (some ((-1))) else (gd v3 (tL t 3320 0) (some ((tA t 3320 0 v3.toNatClampNeg))))), (if s0 = 0 then (some (0)) else (gd v3 (tL t 3323 0) (some ((tA t 3323 0 v3.toNatClampNeg))))), (gd v1 (tL t 3315 0) (if (tA t 3315 0 v1.toNatClampNeg) = 0 then (some (0)) else (some (1))))] (some ((-2000000000))))
theorem TB_X13_ofBody_107 {W : NW} {d : Nat} {Q : Option NV → TS → Prop} {a0 : Nat → Nat → Nat} {e0 : Nat → Nat → Bool} {t : TS} {bc bs : Nat} (hW : W.2.2.2 = mm_fx) : ∀ (v1 : Int32) (v2 : Int32) (v3 : Int32) (s0 : Int32), wp (B_X13_ofBody_107 t v1 v2 v3 s0) (fun r => Q (some (eI r)) t) → nX W (d + 4) tX13_ofBody Q a0 e0 107 [some (eR (some (13, 0))), some (eI v1), some (eI v2), some (eI v3), none] [eI s0] t bc bs := by
  intro v1 v2 v3 s0 H
  unfold B_X13_ofBody_107 at H
  refine nx_st (ls' := [some (eR (some (13, 0))), some (eI v1), some (eI v2), some (eI v3), some (eI s0)]) rfl rfl rfl (Nat.le_of_ble_eq_true rfl) rfl ?_
  refine nx_ld rfl rfl rfl rfl ?_
  refine nx_tsw rfl rfl (by decide) (by decide) (by decide) H (fun H => ?_) ?_
  · show nX _ _ _ _ _ _ 263 _ _ _ _ _
    refine nx_int (x := (-2000000000)) rfl rfl ?_
    exact nx_ri rfl rfl H
  refine ⟨fun H => ?_, fun H => ?_, fun H => ?_, fun H => ?_, fun H => ?_, fun H => ?_, fun H => ?_, fun H => ?_, fun H => ?_, trivial⟩
  · show nX _ _ _ _ _ _ 160 _ _ _ _ _
    refine nx_ld rfl rfl rfl rfl ?_
    refine nx_ld rfl rfl rfl rfl ?_
    refine nx_ld rfl rfl rfl rfl ?_
    refine nx_getI rfl rfl rfl (by decide) ?_
    refine nx_cVI (as := [eI v1, eI (tI t 1301 0)]) (st' := []) rfl rfl (Nat.le_of_ble_eq_true rfl) rfl rfl (Nat.le_of_ble_eq_true rfl) (c0 := 13) rfl (by decide) H (fun Q H => TF_X13_ageOn hW  H) (fun r21 H => ?_)
    exact nx_ri rfl rfl H
  · show nX _ _ _ _ _ _ 170 _ _ _ _ _
    refine nx_ld rfl rfl rfl rfl ?_
    refine nx_getFix rfl rfl rfl (by decide) (by rw [hW]; rfl) rfl ?_
    refine nx_ld rfl rfl rfl rfl ?_
    refine nx_iald (p := (3313, 0)) rfl rfl (Nat.le_of_ble_eq_true rfl) (Nat.le_of_ble_eq_true rfl) rfl H (fun H => ?_)
    exact nx_ri rfl rfl H
  · show nX _ _ _ _ _ _ 177 _ _ _ _ _
    refine nx_ld rfl rfl rfl rfl ?_
    refine nx_getFix rfl rfl rfl (by decide) (by rw [hW]; rfl) rfl ?_
    refine nx_ld rfl rfl rfl rfl ?_
    refine nx_iald (p := (3314, 0)) rfl rfl (Nat.le_of_ble_eq_true rfl) (Nat.le_of_ble_eq_true rfl) rfl H (fun H => ?_)
    exact nx_ri rfl rfl H
  · show nX _ _ _ _ _ _ 184 _ _ _ _ _
    refine nx_ld rfl rfl rfl rfl ?_
    refine nx_ld rfl rfl rfl rfl ?_
    refine nx_ld rfl rfl rfl rfl ?_
    refine nx_getI rfl rfl rfl (by decide) ?_
    refine nx_cVI (as := [eI v1, eI (tI t 1301 0)]) (st' := []) rfl rfl (Nat.le_of_ble_eq_true rfl) rfl rfl (Nat.le_of_ble_eq_true rfl) (c0 := 13) rfl (by decide) H (fun Q H => TF_X13_holderOn hW  H) (fun r22 H => ?_)
    exact nx_ri rfl rfl H
  · show nX _ _ _ _ _ _ 194 _ _ _ _ _
    refine nx_ld rfl rfl rfl rfl ?_
    refine nx_if rfl rfl (by rfl) H (fun H => ?_) (fun H => ?_)
    · refine nx_int (x := (-1)) rfl rfl ?_
      exact nx_ri rfl rfl H
    refine nx_ld rfl rfl rfl rfl ?_
    refine nx_getFix rfl rfl rfl (by decide) (by rw [hW]; rfl) rfl ?_
    refine nx_ld rfl rfl rfl rfl ?_
    refine nx_iald (p := (3318, 0)) rfl rfl (Nat.le_of_ble_eq_true rfl) (Nat.le_of_ble_eq_true rfl) rfl H (fun H => ?_)
    refine nx_goto rfl rfl ?_
    exact nx_ri rfl rfl H
  · show nX _ _ _ _ _ _ 210 _ _ _ _ _
    refine nx_ld rfl rfl rfl rfl ?_
    refine nx_ld rfl rfl rfl rfl ?_
    refine nx_cVI (as := [eI v1]) (st' := []) rfl rfl (Nat.le_of_ble_eq_true rfl) rfl rfl (Nat.le_of_ble_eq_true rfl) (c0 := 13) rfl (by decide) H (fun Q H => TF_X13_spansOf hW  H) (fun r23 H => ?_)
    exact nx_ri rfl rfl H
  · show nX _ _ _ _ _ _ 216 _ _ _ _ _
    refine nx_ld rfl rfl rfl rfl ?_
    refine nx_if rfl rfl (by rfl) H (fun H => ?_) (fun H => ?_)
    · refine nx_int (x := (-1)) rfl rfl ?_
      exact nx_ri rfl rfl H
    refine nx_ld rfl rfl rfl rfl ?_
    refine nx_getFix rfl rfl rfl (by decide) (by rw [hW]; rfl) rfl ?_
    refine nx_ld rfl rfl rfl rfl ?_
    refine nx_iald (p := (3320, 0)) rfl rfl (Nat.le_of_ble_eq_true rfl) (Nat.le_of_ble_eq_true rfl) rfl H (fun H => ?_)
    refine nx_goto rfl rfl ?_
    exact nx_ri rfl rfl H
  · show nX _ _ _ _ _ _ 232 _ _ _ _ _
    refine nx_ld rfl rfl rfl rfl ?_
    refine nx_if rfl rfl (by rfl) H (fun H => ?_) (fun H => ?_)
    · refine nx_int (x := 0) rfl rfl ?_
      exact nx_ri rfl rfl H
    refine nx_ld rfl rfl rfl rfl ?_
    refine nx_getFix rfl rfl rfl (by decide) (by rw [hW]; rfl) rfl ?_
    refine nx_ld rfl rfl rfl rfl ?_
    refine nx_iald (p := (3323, 0)) rfl rfl (Nat.le_of_ble_eq_true rfl) (Nat.le_of_ble_eq_true rfl) rfl H (fun H => ?_)
    refine nx_goto rfl rfl ?_
    exact nx_ri rfl rfl H
  · show nX _ _ _ _ _ _ 248 _ _ _ _ _
    refine nx_ld rfl rfl rfl rfl ?_
    refine nx_getFix rfl rfl rfl (by decide) (by rw [hW]; rfl) rfl ?_
    refine nx_ld rfl rfl rfl rfl ?_
    refine nx_bald (c := 3315) (i := 0) rfl rfl (Nat.le_of_ble_eq_true rfl) (Nat.le_of_ble_eq_true rfl) (Or.inr rfl) H (fun H => ?_)
    refine nx_if rfl rfl (by rfl) H (fun H => ?_) (fun H => ?_)
    · refine nx_int (x := 0) rfl rfl ?_
      exact nx_ri rfl rfl H
    refine nx_int (x := 1) rfl rfl ?_
    refine nx_goto rfl rfl ?_
    exact nx_ri rfl rfl H
def B_X13_ofBody_106 (t : TS) (v1 : Int32) (v2 : Int32) (v3 : Int32) : Option Int32 := (B_X13_ofBody_107  t v1 v2 v3 0)
theorem TB_X13_ofBody_106 {W : NW} {d : Nat} {Q : Option NV → TS → Prop} {a0 : Nat → Nat → Nat} {e0 : Nat → Nat → Bool} {t : TS} {bc bs : Nat} (hW : W.2.2.2 = mm_fx) : ∀ (v1 : Int32) (v2 : Int32) (v3 : Int32), wp (B_X13_ofBody_106 t v1 v2 v3) (fun r => Q (some (eI r)) t) → nX W (d + 4) tX13_ofBody Q a0 e0 106 [some (eR (some (13, 0))), some (eI v1), some (eI v2), some (eI v3), none] [] t bc bs := by
  intro v1 v2 v3 H
  unfold B_X13_ofBody_106 at H
  refine nx_int (x := 0) rfl rfl ?_
  exact TB_X13_ofBody_107 hW    _ _ _ _ H
def F_X13_ofBody (t : TS) (x1 : Int32) (x2 : Int32) : Option Int32 := (Option.bind (F_X13_isBody t x1) (fun r21 => (if ¬ r21 = 0 then (if ¬ x2 = 0 then (Option.bind (F_X13_isClub t x1) (fun r22 => (if r22 = 0 then (Option.bind (F_X13_isPlayer t x1) (fun r23 => (if ¬ r23 = 0 then (Option.bind (F_X13_ownSpan t x1 (tI t 1301 0)) (fun r24 => (if r24 < 0 then (B_X13_ofBody_106  t x1 x2 r24) else (gd r24 (tL t 3320 0) (if (tA t 3320 0 r24.toNatClampNeg) < (tI t 1301 0) then (B_X13_ofBody_106  t x1 x2 r24) else (B_X13_ofBody_107  t x1 x2 r24 1)))))) else (some ((-2000000000)))))) else (if ¬ x2 = 1 then (if ¬ x2 = 2 then (some ((-2000000000))) else (gd x1 (tL t 3310 0) (some ((tA t 3310 0 x1.toNatClampNeg))))) else (gd x1 (tL t 3309 0) (some ((tA t 3309 0 x1.toNatClampNeg)))))))) else (gd x1 (tL t 3308 0) (some ((tA t 3308 0 x1.toNatClampNeg))))) else (some ((-2000000000))))))
theorem TF_X13_ofBody {W : NW} {d : Nat} {t : TS} {x1 : Int32} {x2 : Int32} {Q : Option NV → TS → Prop} {bc bs : Nat} (hW : W.2.2.2 = mm_fx) (H : wp (F_X13_ofBody t x1 x2) (fun r => Q (some (eI r)) t)) : nC W (d + 5) 174 [eR (some (13, 0)), eI x1, eI x2] t bc bs Q := by
  refine nC_in (d := (d + 4)) (T := tX13_ofBody) (ls := [some (eR (some (13, 0))), some (eI x1), some (eI x2), none, none]) rfl (Nat.le_of_ble_eq_true rfl) rfl (fun a0 e0 => ?_)
  unfold F_X13_ofBody at H
  refine nx_ld rfl rfl rfl rfl ?_
  refine nx_ld rfl rfl rfl rfl ?_
  refine nx_cVI (as := [eI x1]) (st' := []) rfl rfl (Nat.le_of_ble_eq_true rfl) rfl rfl (Nat.le_of_ble_eq_true rfl) (c0 := 13) rfl (by decide) H (fun Q H => TF_X13_isBody hW  H) (fun r21 H => ?_)
  refine nx_if rfl rfl (by rfl) H (fun H => ?_) (fun H => ?_)
  · refine nx_ld rfl rfl rfl rfl ?_
    refine nx_if rfl rfl (by rfl) H (fun H => ?_) (fun H => ?_)
    · refine nx_ld rfl rfl rfl rfl ?_
      refine nx_ld rfl rfl rfl rfl ?_
      refine nx_cVI (as := [eI x1]) (st' := []) rfl rfl (Nat.le_of_ble_eq_true rfl) rfl rfl (Nat.le_of_ble_eq_true rfl) (c0 := 13) rfl (by decide) H (fun Q H => TF_X13_isClub hW  H) (fun r22 H => ?_)
      refine nx_if rfl rfl (by rfl) H (fun H => ?_) (fun H => ?_)
      · refine nx_ld rfl rfl rfl rfl ?_
        refine nx_ld rfl rfl rfl rfl ?_
        refine nx_cVI (as := [eI x1]) (st' := []) rfl rfl (Nat.le_of_ble_eq_true rfl) rfl rfl (Nat.le_of_ble_eq_true rfl) (c0 := 13) rfl (by decide) H (fun Q H => TF_X13_isPlayer hW  H) (fun r23 H => ?_)
        refine nx_if rfl rfl (by rfl) H (fun H => ?_) (fun H => ?_)
        · refine nx_ld rfl rfl rfl rfl ?_
          refine nx_ld rfl rfl rfl rfl ?_
          refine nx_ld rfl rfl rfl rfl ?_
          refine nx_getI rfl rfl rfl (by decide) ?_
          refine nx_cVI (as := [eI x1, eI (tI t 1301 0)]) (st' := []) rfl rfl (Nat.le_of_ble_eq_true rfl) rfl rfl (Nat.le_of_ble_eq_true rfl) (c0 := 13) rfl (by decide) H (fun Q H => TF_X13_ownSpan hW  H) (fun r24 H => ?_)
          refine nx_st (ls' := [some (eR (some (13, 0))), some (eI x1), some (eI x2), some (eI r24), none]) rfl rfl rfl (Nat.le_of_ble_eq_true rfl) rfl ?_
          refine nx_ld rfl rfl rfl rfl ?_
          show nX _ _ _ _ _ _ 86 _ _ _ _ _
          refine nx_if rfl rfl (by rfl) H (fun H => ?_) (fun H => ?_)
          · exact TB_X13_ofBody_106 hW    _ _ _ H
          refine nx_ld rfl rfl rfl rfl ?_
          refine nx_getFix rfl rfl rfl (by decide) (by rw [hW]; rfl) rfl ?_
          refine nx_ld rfl rfl rfl rfl ?_
          refine nx_iald (p := (3320, 0)) rfl rfl (Nat.le_of_ble_eq_true rfl) (Nat.le_of_ble_eq_true rfl) rfl H (fun H => ?_)
          refine nx_ld rfl rfl rfl rfl ?_
          refine nx_getI rfl rfl rfl (by decide) ?_
          refine nx_icmp rfl rfl (by rfl) H (fun H => ?_) (fun H => ?_)
          · exact TB_X13_ofBody_106 hW    _ _ _ H
          refine nx_int (x := 1) rfl rfl ?_
          refine nx_goto rfl rfl ?_
          exact TB_X13_ofBody_107 hW    _ _ _ _ H
        refine nx_int (x := (-2000000000)) rfl rfl ?_
        exact nx_ri rfl rfl H
      refine nx_ld rfl rfl rfl rfl ?_
      refine nx_int (x := 1) rfl rfl ?_
      refine nx_icmp rfl rfl (by rfl) H (fun H => ?_) (fun H => ?_)
      · refine nx_ld rfl rfl rfl rfl ?_
        refine nx_int (x := 2) rfl rfl ?_
        refine nx_icmp rfl rfl (by rfl) H (fun H => ?_) (fun H => ?_)
        · refine nx_int (x := (-2000000000)) rfl rfl ?_
          exact nx_ri rfl rfl H
        refine nx_ld rfl rfl rfl rfl ?_
        refine nx_getFix rfl rfl rfl (by decide) (by rw [hW]; rfl) rfl ?_
        refine nx_ld rfl rfl rfl rfl ?_
        refine nx_iald (p := (3310, 0)) rfl rfl (Nat.le_of_ble_eq_true rfl) (Nat.le_of_ble_eq_true rfl) rfl H (fun H => ?_)
        refine nx_goto rfl rfl ?_
        exact nx_ri rfl rfl H
      refine nx_ld rfl rfl rfl rfl ?_
      refine nx_getFix rfl rfl rfl (by decide) (by rw [hW]; rfl) rfl ?_
      refine nx_ld rfl rfl rfl rfl ?_
      refine nx_iald (p := (3309, 0)) rfl rfl (Nat.le_of_ble_eq_true rfl) (Nat.le_of_ble_eq_true rfl) rfl H (fun H => ?_)
      refine nx_goto rfl rfl ?_
      exact nx_ri rfl rfl H
    refine nx_ld rfl rfl rfl rfl ?_
    refine nx_getFix rfl rfl rfl (by decide) (by rw [hW]; rfl) rfl ?_
    refine nx_ld rfl rfl rfl rfl ?_
    refine nx_iald (p := (3308, 0)) rfl rfl (Nat.le_of_ble_eq_true rfl) (Nat.le_of_ble_eq_true rfl) rfl H (fun H => ?_)
    exact nx_ri rfl rfl H
  refine nx_int (x := (-2000000000)) rfl rfl ?_
  exact nx_ri rfl rfl H
def F_X13_addSpan (t : TS) (x1 : Int32) (x2 : Int32) (x3 : Int32) (x4 : Int32) (x5 : Int32) : Option (Int32 × TS) := (gd (tI t 1316 0) (tL t 3317 0) (nxt (uA t 3317 0 (tI t 1316 0).toNatClampNeg x1) (fun t21 => (gd (tI t21 1316 0) (tL t21 3318 0) (nxt (uA t21 3318 0 (tI t21 1316 0).toNatClampNeg x2) (fun t22 => (gd (tI t22 1316 0) (tL t22 3319 0) (nxt (uA t22 3319 0 (tI t22 1316 0).toNatClampNeg x3) (fun t23 => (gd (tI t23 1316 0) (tL t23 3320 0) (nxt (uA t23 3320 0 (tI t23 1316 0).toNatClampNeg x4) (fun t24 => (gd (tI t24 1316 0) (tL t24 3321 0) (nxt (uA t24 3321 0 (tI t24 1316 0).toNatClampNeg x5) (fun t25 => (gd (tI t25 1316 0) (tL t25 3322 0) (nxt (uA t25 3322 0 (tI t25 1316 0).toNatClampNeg 1000000) (fun t26 => (gd (tI t26 1316 0) (tL t26 3323 0) (nxt (uA t26 3323 0 (tI t26 1316 0).toNatClampNeg 0) (fun t27 => (gd (tI t27 1316 0) (tL t27 3324 0) (nxt (uA t27 3324 0 (tI t27 1316 0).toNatClampNeg (-1)) (fun t28 => (nxt (uI t28 1316 0 ((tI t28 1316 0) + 1)) (fun t29 => (some (((tI t29 1316 0) - 1), t29))))))))))))))))))))))))))))
theorem TF_X13_addSpan {W : NW} {d : Nat} {t : TS} {x1 : Int32} {x2 : Int32} {x3 : Int32} {x4 : Int32} {x5 : Int32} {Q : Option NV → TS → Prop} {bc bs : Nat} (hW : W.2.2.2 = mm_fx) (H : wp (F_X13_addSpan t x1 x2 x3 x4 x5) (fun r => Q (some (eI r.1)) r.2)) : nC W (d + 1) 175 [eR (some (13, 0)), eI x1, eI x2, eI x3, eI x4, eI x5] t bc bs Q := by
  refine nC_in (d := d) (T := tX13_addSpan) (ls := [some (eR (some (13, 0))), some (eI x1), some (eI x2), some (eI x3), some (eI x4), some (eI x5)]) rfl (Nat.le_of_ble_eq_true rfl) rfl (fun a0 e0 => ?_)
  unfold F_X13_addSpan at H
  refine nx_ld rfl rfl rfl rfl ?_
  refine nx_getFix rfl rfl rfl (by decide) (by rw [hW]; rfl) rfl ?_
  refine nx_ld rfl rfl rfl rfl ?_
  refine nx_getI rfl rfl rfl (by decide) ?_
  refine nx_ld rfl rfl rfl rfl ?_
  refine nx_iast (p := (3317, 0)) rfl rfl (Nat.le_of_ble_eq_true rfl) (Nat.le_of_ble_eq_true rfl) rfl H (fun t21 H => ?_)
  refine nx_ld rfl rfl rfl rfl ?_
  show nX _ _ _ _ _ _ 11 _ _ _ _ _
  refine nx_getFix rfl rfl rfl (by decide) (by rw [hW]; rfl) rfl ?_
  refine nx_ld rfl rfl rfl rfl ?_
  refine nx_getI rfl rfl rfl (by decide) ?_
  refine nx_ld rfl rfl rfl rfl ?_
  refine nx_iast (p := (3318, 0)) rfl rfl (Nat.le_of_ble_eq_true rfl) (Nat.le_of_ble_eq_true rfl) rfl H (fun t22 H => ?_)
  refine nx_ld rfl rfl rfl rfl ?_
  refine nx_getFix rfl rfl rfl (by decide) (by rw [hW]; rfl) rfl ?_
  refine nx_ld rfl rfl rfl rfl ?_
  show nX _ _ _ _ _ _ 25 _ _ _ _ _
  refine nx_getI rfl rfl rfl (by decide) ?_
  refine nx_ld rfl rfl rfl rfl ?_
  refine nx_iast (p := (3319, 0)) rfl rfl (Nat.le_of_ble_eq_true rfl) (Nat.le_of_ble_eq_true rfl) rfl H (fun t23 H => ?_)
  refine nx_ld rfl rfl rfl rfl ?_
  refine nx_getFix rfl rfl rfl (by decide) (by rw [hW]; rfl) rfl ?_
  refine nx_ld rfl rfl rfl rfl ?_
  refine nx_getI rfl rfl rfl (by decide) ?_
  refine nx_ld rfl rfl rfl rfl ?_
  show nX _ _ _ _ _ _ 40 _ _ _ _ _
  refine nx_iast (p := (3320, 0)) rfl rfl (Nat.le_of_ble_eq_true rfl) (Nat.le_of_ble_eq_true rfl) rfl H (fun t24 H => ?_)
  refine nx_ld rfl rfl rfl rfl ?_
  refine nx_getFix rfl rfl rfl (by decide) (by rw [hW]; rfl) rfl ?_
  refine nx_ld rfl rfl rfl rfl ?_
  refine nx_getI rfl rfl rfl (by decide) ?_
  refine nx_ld rfl rfl rfl rfl ?_
  refine nx_iast (p := (3321, 0)) rfl rfl (Nat.le_of_ble_eq_true rfl) (Nat.le_of_ble_eq_true rfl) rfl H (fun t25 H => ?_)
  refine nx_ld rfl rfl rfl rfl ?_
  show nX _ _ _ _ _ _ 53 _ _ _ _ _
  refine nx_getFix rfl rfl rfl (by decide) (by rw [hW]; rfl) rfl ?_
  refine nx_ld rfl rfl rfl rfl ?_
  refine nx_getI rfl rfl rfl (by decide) ?_
  refine nx_int (x := 1000000) rfl rfl ?_
  refine nx_iast (p := (3322, 0)) rfl rfl (Nat.le_of_ble_eq_true rfl) (Nat.le_of_ble_eq_true rfl) rfl H (fun t26 H => ?_)
  refine nx_ld rfl rfl rfl rfl ?_
  refine nx_getFix rfl rfl rfl (by decide) (by rw [hW]; rfl) rfl ?_
  refine nx_ld rfl rfl rfl rfl ?_
  show nX _ _ _ _ _ _ 69 _ _ _ _ _
  refine nx_getI rfl rfl rfl (by decide) ?_
  refine nx_int (x := 0) rfl rfl ?_
  refine nx_iast (p := (3323, 0)) rfl rfl (Nat.le_of_ble_eq_true rfl) (Nat.le_of_ble_eq_true rfl) rfl H (fun t27 H => ?_)
  refine nx_ld rfl rfl rfl rfl ?_
  refine nx_getFix rfl rfl rfl (by decide) (by rw [hW]; rfl) rfl ?_
  refine nx_ld rfl rfl rfl rfl ?_
  refine nx_getI rfl rfl rfl (by decide) ?_
  refine nx_int (x := (-1)) rfl rfl ?_
  show nX _ _ _ _ _ _ 83 _ _ _ _ _
  refine nx_iast (p := (3324, 0)) rfl rfl (Nat.le_of_ble_eq_true rfl) (Nat.le_of_ble_eq_true rfl) rfl H (fun t28 H => ?_)
  refine nx_ld rfl rfl rfl rfl ?_
  refine nx_dup rfl rfl (Nat.ne_of_beq_eq_false rfl) ?_
  refine nx_getI rfl rfl rfl (by decide) ?_
  refine nx_int (x := 1) rfl rfl ?_
  refine nx_ii rfl rfl ?_
  refine nx_putI rfl rfl rfl (by decide) H (fun t29 H => ?_)
  refine nx_ld rfl rfl rfl rfl ?_
  show nX _ _ _ _ _ _ 95 _ _ _ _ _
  refine nx_getI rfl rfl rfl (by decide) ?_
  refine nx_int (x := 1) rfl rfl ?_
  refine nx_ii rfl rfl ?_
  exact nx_rit rfl rfl H
def B_X13_ownerOn_21 (t : TS) : Option Int32 := (some ((-1)))
theorem TB_X13_ownerOn_21 {W : NW} {d : Nat} {Q : Option NV → TS → Prop} {a0 : Nat → Nat → Nat} {e0 : Nat → Nat → Bool} {t : TS} {bc bs : Nat} (hW : W.2.2.2 = mm_fx) : ∀ (v1 : Int32) (v2 : Int32) (v3 : Int32), wp (B_X13_ownerOn_21 t) (fun r => Q (some (eI r)) t) → nX W (d + 2) tX13_ownerOn Q a0 e0 21 [some (eR (some (13, 0))), some (eI v1), some (eI v2), some (eI v3)] [] t bc bs := by
  intro v1 v2 v3 H
  unfold B_X13_ownerOn_21 at H
  refine nx_int (x := (-1)) rfl rfl ?_
  refine nx_goto rfl rfl ?_
  exact nx_ri rfl rfl H
def F_X13_ownerOn (t : TS) (x1 : Int32) (x2 : Int32) : Option Int32 := (Option.bind (F_X13_ownSpan t x1 x2) (fun r21 => (if r21 < 0 then (B_X13_ownerOn_21  t) else (gd r21 (tL t 3320 0) (if x2 ≤ (tA t 3320 0 r21.toNatClampNeg) then (gd r21 (tL t 3318 0) (some ((tA t 3318 0 r21.toNatClampNeg)))) else (B_X13_ownerOn_21  t))))))
theorem TF_X13_ownerOn {W : NW} {d : Nat} {t : TS} {x1 : Int32} {x2 : Int32} {Q : Option NV → TS → Prop} {bc bs : Nat} (hW : W.2.2.2 = mm_fx) (H : wp (F_X13_ownerOn t x1 x2) (fun r => Q (some (eI r)) t)) : nC W (d + 3) 181 [eR (some (13, 0)), eI x1, eI x2] t bc bs Q := by
  refine nC_in (d := (d + 2)) (T := tX13_ownerOn) (ls := [some (eR (some (13, 0))), some (eI x1), some (eI x2), none]) rfl (Nat.le_of_ble_eq_true rfl) rfl (fun a0 e0 => ?_)
  unfold F_X13_ownerOn at H
  refine nx_ld rfl rfl rfl rfl ?_
  refine nx_ld rfl rfl rfl rfl ?_
  refine nx_ld rfl rfl rfl rfl ?_
  refine nx_cVI (as := [eI x1, eI x2]) (st' := []) rfl rfl (Nat.le_of_ble_eq_true rfl) rfl rfl (Nat.le_of_ble_eq_true rfl) (c0 := 13) rfl (by decide) H (fun Q H => TF_X13_ownSpan hW  H) (fun r21 H => ?_)
  refine nx_st (ls' := [some (eR (some (13, 0))), some (eI x1), some (eI x2), some (eI r21)]) rfl rfl rfl (Nat.le_of_ble_eq_true rfl) rfl ?_
  refine nx_ld rfl rfl rfl rfl ?_
  refine nx_if rfl rfl (by rfl) H (fun H => ?_) (fun H => ?_)
  · exact TB_X13_ownerOn_21 hW    _ _ _ H
  refine nx_ld rfl rfl rfl rfl ?_
  refine nx_getFix rfl rfl rfl (by decide) (by rw [hW]; rfl) rfl ?_
  refine nx_ld rfl rfl rfl rfl ?_
  refine nx_iald (p := (3320, 0)) rfl rfl (Nat.le_of_ble_eq_true rfl) (Nat.le_of_ble_eq_true rfl) rfl H (fun H => ?_)
  refine nx_ld rfl rfl rfl rfl ?_
  refine nx_icmp rfl rfl (by rfl) H (fun H => ?_) (fun H => ?_)
  · refine nx_ld rfl rfl rfl rfl ?_
    refine nx_getFix rfl rfl rfl (by decide) (by rw [hW]; rfl) rfl ?_
    refine nx_ld rfl rfl rfl rfl ?_
    refine nx_iald (p := (3318, 0)) rfl rfl (Nat.le_of_ble_eq_true rfl) (Nat.le_of_ble_eq_true rfl) rfl H (fun H => ?_)
    exact nx_ri rfl rfl H
  exact TB_X13_ownerOn_21 hW    _ _ _ H
def B_X13_at_51 (t : TS) (s0 : Int32) : Option Int32 := (if 0 ≤ s0 then (some (s0)) else (some ((-2))))
theorem TB_X13_at_51 {W : NW} {d : Nat} {Q : Option NV → TS → Prop} {a0 : Nat → Nat → Nat} {e0 : Nat → Nat → Bool} {t : TS} {bc bs : Nat} (hW : W.2.2.2 = mm_fx) : ∀ (v1 : Int32) (v2 : Int32) (v3 : Int32) (s0 : Int32), wp (B_X13_at_51 t s0) (fun r => Q (some (eI r)) t) → nX W (d + 4) tX13_at Q a0 e0 51 [some (eR (some (13, 0))), some (eI v1), some (eI v2), some (eI v3), none] [eI s0] t bc bs := by
  intro v1 v2 v3 s0 H
  unfold B_X13_at_51 at H
  refine nx_st (ls' := [some (eR (some (13, 0))), some (eI v1), some (eI v2), some (eI v3), some (eI s0)]) rfl rfl rfl (Nat.le_of_ble_eq_true rfl) rfl ?_
  refine nx_ld rfl rfl rfl rfl ?_
  refine nx_if rfl rfl (by rfl) H (fun H => ?_) (fun H => ?_)
  · refine nx_ld rfl rfl rfl rfl ?_
    exact nx_ri rfl rfl H
  refine nx_int (x := (-2)) rfl rfl ?_
  refine nx_goto rfl rfl ?_
  exact nx_ri rfl rfl H
def F_X13_at (t : TS) (x1 : Int32) (x2 : Int32) (x3 : Int32) : Option Int32 := (Option.bind (F_X13_isPlayer t x1) (fun r21 => (if r21 = 0 then (some ((-1))) else (Option.bind (F_X13_in t x2 (-9999) 2999) (fun r22 => (if r22 = 0 then (some ((-1))) else (Option.bind (F_X13_in t x3 0 1) (fun r23 => (if ¬ r23 = 0 then (if ¬ x3 = 0 then (Option.bind (F_X13_ownerOn t x1 x2) (fun r24 => (B_X13_at_51  t r24))) else (Option.bind (F_X13_holderOn t x1 x2) (fun r25 => (B_X13_at_51  t r25)))) else (some ((-1))))))))))))
theorem TF_X13_at {W : NW} {d : Nat} {t : TS} {x1 : Int32} {x2 : Int32} {x3 : Int32} {Q : Option NV → TS → Prop} {bc bs : Nat} (hW : W.2.2.2 = mm_fx) (H : wp (F_X13_at t x1 x2 x3) (fun r => Q (some (eI r)) t)) : nC W (d + 5) 182 [eR (some (13, 0)), eI x1, eI x2, eI x3] t bc bs Q := by
  refine nC_in (d := (d + 4)) (T := tX13_at) (ls := [some (eR (some (13, 0))), some (eI x1), some (eI x2), some (eI x3), none]) rfl (Nat.le_of_ble_eq_true rfl) rfl (fun a0 e0 => ?_)
  unfold F_X13_at at H
  refine nx_ld rfl rfl rfl rfl ?_
  refine nx_ld rfl rfl rfl rfl ?_
  refine nx_cVI (as := [eI x1]) (st' := []) rfl rfl (Nat.le_of_ble_eq_true rfl) rfl rfl (Nat.le_of_ble_eq_true rfl) (c0 := 13) rfl (by decide) H (fun Q H => TF_X13_isPlayer hW  H) (fun r21 H => ?_)
  refine nx_if rfl rfl (by rfl) H (fun H => ?_) (fun H => ?_)
  · refine nx_int (x := (-1)) rfl rfl ?_
    exact nx_ri rfl rfl H
  refine nx_ld rfl rfl rfl rfl ?_
  refine nx_int (x := (-9999)) rfl rfl ?_
  refine nx_int (x := 2999) rfl rfl ?_
  refine nx_cSI (as := [eI x2, eI (-9999), eI 2999]) (st' := []) rfl rfl (Nat.le_of_ble_eq_true rfl) rfl rfl (Nat.le_of_ble_eq_true rfl) H (fun Q H => TF_X13_in hW  H) (fun r22 H => ?_)
  refine nx_if rfl rfl (by rfl) H (fun H => ?_) (fun H => ?_)
  · refine nx_int (x := (-1)) rfl rfl ?_
    exact nx_ri rfl rfl H
  refine nx_ld rfl rfl rfl rfl ?_
  refine nx_int (x := 0) rfl rfl ?_
  refine nx_int (x := 1) rfl rfl ?_
  refine nx_cSI (as := [eI x3, eI 0, eI 1]) (st' := []) rfl rfl (Nat.le_of_ble_eq_true rfl) rfl rfl (Nat.le_of_ble_eq_true rfl) H (fun Q H => TF_X13_in hW  H) (fun r23 H => ?_)
  refine nx_if rfl rfl (by rfl) H (fun H => ?_) (fun H => ?_)
  · refine nx_ld rfl rfl rfl rfl ?_
    refine nx_if rfl rfl (by rfl) H (fun H => ?_) (fun H => ?_)
    · refine nx_ld rfl rfl rfl rfl ?_
      refine nx_ld rfl rfl rfl rfl ?_
      refine nx_ld rfl rfl rfl rfl ?_
      refine nx_cVI (as := [eI x1, eI x2]) (st' := []) rfl rfl (Nat.le_of_ble_eq_true rfl) rfl rfl (Nat.le_of_ble_eq_true rfl) (c0 := 13) rfl (by decide) H (fun Q H => TF_X13_ownerOn hW  H) (fun r24 H => ?_)
      exact TB_X13_at_51 hW    _ _ _ _ H
    refine nx_ld rfl rfl rfl rfl ?_
    refine nx_ld rfl rfl rfl rfl ?_
    refine nx_ld rfl rfl rfl rfl ?_
    refine nx_cVI (as := [eI x1, eI x2]) (st' := []) rfl rfl (Nat.le_of_ble_eq_true rfl) rfl rfl (Nat.le_of_ble_eq_true rfl) (c0 := 13) rfl (by decide) H (fun Q H => TF_X13_holderOn hW  H) (fun r25 H => ?_)
    refine nx_goto rfl rfl ?_
    exact TB_X13_at_51 hW    _ _ _ _ H
  refine nx_int (x := (-1)) rfl rfl ?_
  exact nx_ri rfl rfl H
def F_X13_past (t : TS) (x1 : Int32) (x2 : Int32) (x3 : Int32) (x4 : Int32) : Option (Int32 × TS) := (Option.bind (F_X13_isPlayer t x1) (fun r21 => (if r21 = 0 then (some ((-1), t)) else (Option.bind (F_X13_isClub t x2) (fun r22 => (if r22 = 0 then (some ((-1), t)) else (Option.bind (F_X13_in t x3 (-9999) 0) (fun r23 => (if r23 = 0 then (some ((-1), t)) else (Option.bind (F_X13_in t x4 x3 0) (fun r24 => (if ¬ r24 = 0 then (if ¬ (tI t 1316 0) = 600 then (ob2 (F_X13_addSpan t x1 x2 x3 x4 0) (fun x26 t27 => (Option.bind (F_X13_spansOf t27 x1) (fun r28 => (some (r28, t27)))))) else (some ((-3), t))) else (some ((-1), t))))))))))))))
theorem TF_X13_past {W : NW} {d : Nat} {t : TS} {x1 : Int32} {x2 : Int32} {x3 : Int32} {x4 : Int32} {Q : Option NV → TS → Prop} {bc bs : Nat} (hW : W.2.2.2 = mm_fx) (H : wp (F_X13_past t x1 x2 x3 x4) (fun r => Q (some (eI r.1)) r.2)) : nC W (d + 4) 183 [eR (some (13, 0)), eI x1, eI x2, eI x3, eI x4] t bc bs Q := by
  refine nC_in (d := (d + 3)) (T := tX13_past) (ls := [some (eR (some (13, 0))), some (eI x1), some (eI x2), some (eI x3), some (eI x4)]) rfl (Nat.le_of_ble_eq_true rfl) rfl (fun a0 e0 => ?_)
  unfold F_X13_past at H
  refine nx_ld rfl rfl rfl rfl ?_
  refine nx_ld rfl rfl rfl rfl ?_
  refine nx_cVI (as := [eI x1]) (st' := []) rfl rfl (Nat.le_of_ble_eq_true rfl) rfl rfl (Nat.le_of_ble_eq_true rfl) (c0 := 13) rfl (by decide) H (fun Q H => TF_X13_isPlayer hW  H) (fun r21 H => ?_)
  refine nx_if rfl rfl (by rfl) H (fun H => ?_) (fun H => ?_)
  · refine nx_int (x := (-1)) rfl rfl ?_
    exact nx_rit rfl rfl H
  refine nx_ld rfl rfl rfl rfl ?_
  refine nx_ld rfl rfl rfl rfl ?_
  refine nx_cVI (as := [eI x2]) (st' := []) rfl rfl (Nat.le_of_ble_eq_true rfl) rfl rfl (Nat.le_of_ble_eq_true rfl) (c0 := 13) rfl (by decide) H (fun Q H => TF_X13_isClub hW  H) (fun r22 H => ?_)
  refine nx_if rfl rfl (by rfl) H (fun H => ?_) (fun H => ?_)
  · refine nx_int (x := (-1)) rfl rfl ?_
    exact nx_rit rfl rfl H
  refine nx_ld rfl rfl rfl rfl ?_
  refine nx_int (x := (-9999)) rfl rfl ?_
  refine nx_int (x := 0) rfl rfl ?_
  refine nx_cSI (as := [eI x3, eI (-9999), eI 0]) (st' := []) rfl rfl (Nat.le_of_ble_eq_true rfl) rfl rfl (Nat.le_of_ble_eq_true rfl) H (fun Q H => TF_X13_in hW  H) (fun r23 H => ?_)
  refine nx_if rfl rfl (by rfl) H (fun H => ?_) (fun H => ?_)
  · refine nx_int (x := (-1)) rfl rfl ?_
    exact nx_rit rfl rfl H
  refine nx_ld rfl rfl rfl rfl ?_
  refine nx_ld rfl rfl rfl rfl ?_
  refine nx_int (x := 0) rfl rfl ?_
  refine nx_cSI (as := [eI x4, eI x3, eI 0]) (st' := []) rfl rfl (Nat.le_of_ble_eq_true rfl) rfl rfl (Nat.le_of_ble_eq_true rfl) H (fun Q H => TF_X13_in hW  H) (fun r24 H => ?_)
  refine nx_if rfl rfl (by rfl) H (fun H => ?_) (fun H => ?_)
  · refine nx_ld rfl rfl rfl rfl ?_
    refine nx_getI rfl rfl rfl (by decide) ?_
    refine nx_int (x := 600) rfl rfl ?_
    refine nx_icmp rfl rfl (by rfl) H (fun H => ?_) (fun H => ?_)
    · refine nx_ld rfl rfl rfl rfl ?_
      refine nx_ld rfl rfl rfl rfl ?_
      refine nx_ld rfl rfl rfl rfl ?_
      refine nx_ld rfl rfl rfl rfl ?_
      refine nx_ld rfl rfl rfl rfl ?_
      refine nx_int (x := 0) rfl rfl ?_
      refine nx_cVI2 (as := [eI x1, eI x2, eI x3, eI x4, eI 0]) (st' := []) rfl rfl (Nat.le_of_ble_eq_true rfl) rfl rfl (Nat.le_of_ble_eq_true rfl) (c0 := 13) rfl (by decide) H (fun Q H => TF_X13_addSpan hW  H) (fun x26 t27 H => ?_)
      show nX _ _ _ _ _ _ 62 _ _ _ _ _
      refine nx_pop rfl rfl (Nat.ne_of_beq_eq_false rfl) ?_
      refine nx_ld rfl rfl rfl rfl ?_
      refine nx_ld rfl rfl rfl rfl ?_
      refine nx_cVI (as := [eI x1]) (st' := []) rfl rfl (Nat.le_of_ble_eq_true rfl) rfl rfl (Nat.le_of_ble_eq_true rfl) (c0 := 13) rfl (by decide) H (fun Q H => TF_X13_spansOf hW  H) (fun r28 H => ?_)
      exact nx_rit rfl rfl H
    refine nx_int (x := (-3)) rfl rfl ?_
    exact nx_rit rfl rfl H
  refine nx_int (x := (-1)) rfl rfl ?_
  exact nx_rit rfl rfl H
def F_X13_isShelf (t : TS) (x1 : Int32) : Option Int32 := (Option.bind (F_X13_in t x1 0 5) (fun r21 => (gb r21 (some (r21)))))
theorem TF_X13_isShelf {W : NW} {d : Nat} {t : TS} {x1 : Int32} {Q : Option NV → TS → Prop} {bc bs : Nat} (hW : W.2.2.2 = mm_fx) (H : wp (F_X13_isShelf t x1) (fun r => Q (some (eI r)) t)) : nC W (d + 2) 264 [eI x1] t bc bs Q := by
  refine nC_in (d := (d + 1)) (T := tX13_isShelf) (ls := [some (eI x1)]) rfl (Nat.le_of_ble_eq_true rfl) rfl (fun a0 e0 => ?_)
  unfold F_X13_isShelf at H
  refine nx_ld rfl rfl rfl rfl ?_
  refine nx_int (x := 0) rfl rfl ?_
  refine nx_int (x := 5) rfl rfl ?_
  refine nx_cSI (as := [eI x1, eI 0, eI 5]) (st' := []) rfl rfl (Nat.le_of_ble_eq_true rfl) rfl rfl (Nat.le_of_ble_eq_true rfl) H (fun Q H => TF_X13_in hW  H) (fun r21 H => ?_)
  exact nx_rz rfl rfl H
def B_X13_spans_263 (t : TS) (v1 : Int32) (v4 : Int32) : Option (Int32 × TS) := (gd v1 (tL t 3315 0) (nxt (uA t 3315 0 v1.toNatClampNeg (vp_nar .boolean 0)) (fun t21 => (some (v4, t21)))))
theorem TB_X13_spans_263 {W : NW} {d : Nat} {Q : Option NV → TS → Prop} {a0 : Nat → Nat → Nat} {e0 : Nat → Nat → Bool} {bc bs : Nat} (hW : W.2.2.2 = mm_fx) : ∀ (t : TS) (v1 : Int32) (v2 : Int32) (v3 : Int32) (v4 : Int32) (v5 : Int32) (v6 : Option NV) (v8 : Option NV) (v9 : Option NV) (v10 : Option NV) (v11 : Option NV) (v12 : Option NV), wp (B_X13_spans_263 t v1 v4) (fun r => Q (some (eI r.1)) r.2) → nX W (d + 3) tX13_spans Q a0 e0 263 [some (eR (some (13, 0))), some (eI v1), some (eI v2), some (eI v3), some (eI v4), some (eI v5), v6, none, v8, v9, v10, v11, v12] [] t bc bs := by
  intro t v1 v2 v3 v4 v5 v6 v8 v9 v10 v11 v12 H
  unfold B_X13_spans_263 at H
  refine nx_ld rfl rfl rfl rfl ?_
  refine nx_getFix rfl rfl rfl (by decide) (by rw [hW]; rfl) rfl ?_
  refine nx_ld rfl rfl rfl rfl ?_
  refine nx_int (x := 0) rfl rfl ?_
  refine nx_zast (c := 3315) (i := 0) rfl rfl (Nat.le_of_ble_eq_true rfl) (Nat.le_of_ble_eq_true rfl) rfl H (fun t21 H => ?_)
  refine nx_ld rfl rfl rfl rfl ?_
  exact nx_rit rfl rfl H
def B_X13_spans_234 (t : TS) (v1 : Int32) (v5 : Int32) : Option (Int32 × TS) := (gd v1 (tL t 3315 0) (nxt (uA t 3315 0 v1.toNatClampNeg (vp_nar .boolean 1)) (fun t21 => (some (v5, t21)))))
theorem TB_X13_spans_234 {W : NW} {d : Nat} {Q : Option NV → TS → Prop} {a0 : Nat → Nat → Nat} {e0 : Nat → Nat → Bool} {bc bs : Nat} (hW : W.2.2.2 = mm_fx) : ∀ (t : TS) (v1 : Int32) (v2 : Int32) (v3 : Int32) (v4 : Int32) (v5 : Int32) (v6 : Int64) (v8 : Int32) (v9 : Int32) (v10 : Int32) (v11 : Int32) (v12 : Int32), wp (B_X13_spans_234 t v1 v5) (fun r => Q (some (eI r.1)) r.2) → nX W (d + 3) tX13_spans Q a0 e0 234 [some (eR (some (13, 0))), some (eI v1), some (eI v2), some (eI v3), some (eI v4), some (eI v5), some (eJ v6), none, some (eI v8), some (eI v9), some (eI v10), some (eI v11), some (eI v12)] [] t bc bs := by
  intro t v1 v2 v3 v4 v5 v6 v8 v9 v10 v11 v12 H
  unfold B_X13_spans_234 at H
  refine nx_ld rfl rfl rfl rfl ?_
  refine nx_getFix rfl rfl rfl (by decide) (by rw [hW]; rfl) rfl ?_
  refine nx_ld rfl rfl rfl rfl ?_
  refine nx_int (x := 1) rfl rfl ?_
  refine nx_zast (c := 3315) (i := 0) rfl rfl (Nat.le_of_ble_eq_true rfl) (Nat.le_of_ble_eq_true rfl) rfl H (fun t21 H => ?_)
  refine nx_ld rfl rfl rfl rfl ?_
  exact nx_rit rfl rfl H
def B_X13_spans_195 (k55 : TS → Int32 → Int32 → Int32 → Int32 → Int32 → Option (Int32 × TS)) (t : TS) (v1 : Int32) (v2 : Int32) (v3 : Int32) (v4 : Int32) (v5 : Int32) (v8 : Int32) (v10 : Int32) (v11 : Int32) (s0 : Int32) : Option (Int32 × TS) := (if v8 = 0 then (B_X13_spans_234  t v1 v5) else (Option.bind (F_X13_isClub t v10) (fun r21 => (if r21 = 0 then (B_X13_spans_234  t v1 v5) else (Option.bind (F_X13_in t v11 (-9999) 0) (fun r22 => (if r22 = 0 then (B_X13_spans_234  t v1 v5) else (Option.bind (F_X13_in t s0 v11 0) (fun r23 => (if ¬ r23 = 0 then (ob2 (F_X13_addSpan t v1 v10 v11 s0 0) (fun x25 t26 => (k55 t26 v1 v2 v3 v4 (v5 + 1)))) else (B_X13_spans_234  t v1 v5)))))))))))
theorem TB_X13_spans_195 {W : NW} {d : Nat} {Q : Option NV → TS → Prop} {a0 : Nat → Nat → Nat} {e0 : Nat → Nat → Bool} {k55 : TS → Int32 → Int32 → Int32 → Int32 → Int32 → Option (Int32 × TS)} {bc bs : Nat} (hW : W.2.2.2 = mm_fx) (hk55 : ∀ (t : TS) (v1 : Int32) (v2 : Int32) (v3 : Int32) (v4 : Int32) (v5 : Int32) (v6 : Option NV) (v8 : Option NV) (v9 : Option NV) (v10 : Option NV) (v11 : Option NV) (v12 : Option NV), wp (k55 t v1 v2 v3 v4 v5) (fun r => Q (some (eI r.1)) r.2) → nX W (d + 3) tX13_spans Q a0 e0 55 [some (eR (some (13, 0))), some (eI v1), some (eI v2), some (eI v3), some (eI v4), some (eI v5), v6, none, v8, v9, v10, v11, v12] [] t bc bs) : ∀ (t : TS) (v1 : Int32) (v2 : Int32) (v3 : Int32) (v4 : Int32) (v5 : Int32) (v6 : Int64) (v8 : Int32) (v9 : Int32) (v10 : Int32) (v11 : Int32) (v12 : Option NV) (s0 : Int32), wp (B_X13_spans_195 k55 t v1 v2 v3 v4 v5 v8 v10 v11 s0) (fun r => Q (some (eI r.1)) r.2) → nX W (d + 3) tX13_spans Q a0 e0 195 [some (eR (some (13, 0))), some (eI v1), some (eI v2), some (eI v3), some (eI v4), some (eI v5), some (eJ v6), none, some (eI v8), some (eI v9), some (eI v10), some (eI v11), v12] [eI s0] t bc bs := by
  intro t v1 v2 v3 v4 v5 v6 v8 v9 v10 v11 v12 s0 H
  unfold B_X13_spans_195 at H
  refine nx_st (ls' := [some (eR (some (13, 0))), some (eI v1), some (eI v2), some (eI v3), some (eI v4), some (eI v5), some (eJ v6), none, some (eI v8), some (eI v9), some (eI v10), some (eI v11), some (eI s0)]) rfl rfl rfl (Nat.le_of_ble_eq_true rfl) rfl ?_
  refine nx_ld rfl rfl rfl rfl ?_
  refine nx_if rfl rfl (by rfl) H (fun H => ?_) (fun H => ?_)
  · exact TB_X13_spans_234 hW    _ _ _ _ _ _ _ _ _ _ _ _ H
  refine nx_ld rfl rfl rfl rfl ?_
  refine nx_ld rfl rfl rfl rfl ?_
  refine nx_cVI (as := [eI v10]) (st' := []) rfl rfl (Nat.le_of_ble_eq_true rfl) rfl rfl (Nat.le_of_ble_eq_true rfl) (c0 := 13) rfl (by decide) H (fun Q H => TF_X13_isClub hW  H) (fun r21 H => ?_)
  refine nx_if rfl rfl (by rfl) H (fun H => ?_) (fun H => ?_)
  · exact TB_X13_spans_234 hW    _ _ _ _ _ _ _ _ _ _ _ _ H
  refine nx_ld rfl rfl rfl rfl ?_
  refine nx_int (x := (-9999)) rfl rfl ?_
  refine nx_int (x := 0) rfl rfl ?_
  refine nx_cSI (as := [eI v11, eI (-9999), eI 0]) (st' := []) rfl rfl (Nat.le_of_ble_eq_true rfl) rfl rfl (Nat.le_of_ble_eq_true rfl) H (fun Q H => TF_X13_in hW  H) (fun r22 H => ?_)
  refine nx_if rfl rfl (by rfl) H (fun H => ?_) (fun H => ?_)
  · exact TB_X13_spans_234 hW    _ _ _ _ _ _ _ _ _ _ _ _ H
  refine nx_ld rfl rfl rfl rfl ?_
  refine nx_ld rfl rfl rfl rfl ?_
  refine nx_int (x := 0) rfl rfl ?_
  refine nx_cSI (as := [eI s0, eI v11, eI 0]) (st' := []) rfl rfl (Nat.le_of_ble_eq_true rfl) rfl rfl (Nat.le_of_ble_eq_true rfl) H (fun Q H => TF_X13_in hW  H) (fun r23 H => ?_)
  refine nx_if rfl rfl (by rfl) H (fun H => ?_) (fun H => ?_)
  · refine nx_ld rfl rfl rfl rfl ?_
    refine nx_ld rfl rfl rfl rfl ?_
    refine nx_ld rfl rfl rfl rfl ?_
    refine nx_ld rfl rfl rfl rfl ?_
    refine nx_ld rfl rfl rfl rfl ?_
    refine nx_int (x := 0) rfl rfl ?_
    refine nx_cVI2 (as := [eI v1, eI v10, eI v11, eI s0, eI 0]) (st' := []) rfl rfl (Nat.le_of_ble_eq_true rfl) rfl rfl (Nat.le_of_ble_eq_true rfl) (c0 := 13) rfl (by decide) H (fun Q H => TF_X13_addSpan hW  H) (fun x25 t26 H => ?_)
    show nX _ _ _ _ _ _ 256 _ _ _ _ _
    refine nx_pop rfl rfl (Nat.ne_of_beq_eq_false rfl) ?_
    refine nx_iinc2 1 (ls' := [some (eR (some (13, 0))), some (eI v1), some (eI v2), some (eI v3), some (eI v4), some (eI (v5 + 1)), some (eJ v6), none, some (eI v8), some (eI v9), some (eI v10), some (eI v11), some (eI s0)]) rfl rfl rfl rfl rfl ?_
    refine nx_goto rfl rfl ?_
    exact hk55 _ _ _ _ _ _ _ _ _ _ _ _ H
  exact TB_X13_spans_234 hW    _ _ _ _ _ _ _ _ _ _ _ _ H
def B_X13_spans_174 (k55 : TS → Int32 → Int32 → Int32 → Int32 → Int32 → Option (Int32 × TS)) (t : TS) (v1 : Int32) (v2 : Int32) (v3 : Int32) (v4 : Int32) (v5 : Int32) (v8 : Int32) (v9 : Int32) (v10 : Int32) (s0 : Int32) : Option (Int32 × TS) := (if v8 = 0 then (B_X13_spans_195 k55 t v1 v2 v3 v4 v5 v8 v10 s0 0) else (gd (v9 + 2) (tL t 3395 0) (B_X13_spans_195 k55 t v1 v2 v3 v4 v5 v8 v10 s0 ((tJ t 3395 0 (v9 + 2).toNatClampNeg).toInt32))))
theorem TB_X13_spans_174 {W : NW} {d : Nat} {Q : Option NV → TS → Prop} {a0 : Nat → Nat → Nat} {e0 : Nat → Nat → Bool} {k55 : TS → Int32 → Int32 → Int32 → Int32 → Int32 → Option (Int32 × TS)} {bc bs : Nat} (hW : W.2.2.2 = mm_fx) (hk55 : ∀ (t : TS) (v1 : Int32) (v2 : Int32) (v3 : Int32) (v4 : Int32) (v5 : Int32) (v6 : Option NV) (v8 : Option NV) (v9 : Option NV) (v10 : Option NV) (v11 : Option NV) (v12 : Option NV), wp (k55 t v1 v2 v3 v4 v5) (fun r => Q (some (eI r.1)) r.2) → nX W (d + 3) tX13_spans Q a0 e0 55 [some (eR (some (13, 0))), some (eI v1), some (eI v2), some (eI v3), some (eI v4), some (eI v5), v6, none, v8, v9, v10, v11, v12] [] t bc bs) : ∀ (t : TS) (v1 : Int32) (v2 : Int32) (v3 : Int32) (v4 : Int32) (v5 : Int32) (v6 : Int64) (v8 : Int32) (v9 : Int32) (v10 : Int32) (v11 : Option NV) (v12 : Option NV) (s0 : Int32), wp (B_X13_spans_174 k55 t v1 v2 v3 v4 v5 v8 v9 v10 s0) (fun r => Q (some (eI r.1)) r.2) → nX W (d + 3) tX13_spans Q a0 e0 174 [some (eR (some (13, 0))), some (eI v1), some (eI v2), some (eI v3), some (eI v4), some (eI v5), some (eJ v6), none, some (eI v8), some (eI v9), some (eI v10), v11, v12] [eI s0] t bc bs := by
  intro t v1 v2 v3 v4 v5 v6 v8 v9 v10 v11 v12 s0 H
  unfold B_X13_spans_174 at H
  refine nx_st (ls' := [some (eR (some (13, 0))), some (eI v1), some (eI v2), some (eI v3), some (eI v4), some (eI v5), some (eJ v6), none, some (eI v8), some (eI v9), some (eI v10), some (eI s0), v12]) rfl rfl rfl (Nat.le_of_ble_eq_true rfl) rfl ?_
  refine nx_ld rfl rfl rfl rfl ?_
  refine nx_if rfl rfl (by rfl) H (fun H => ?_) (fun H => ?_)
  · refine nx_int (x := 0) rfl rfl ?_
    exact TB_X13_spans_195 hW   hk55 _ _ _ _ _ _ _ _ _ _ _ _ _ H
  refine nx_ld rfl rfl rfl rfl ?_
  refine nx_getFix rfl rfl rfl (by decide) (by rw [hW]; rfl) rfl ?_
  refine nx_ld rfl rfl rfl rfl ?_
  refine nx_int (x := 2) rfl rfl ?_
  refine nx_ii rfl rfl ?_
  refine nx_lald (c := 3395) (i := 0) rfl rfl (Nat.le_of_ble_eq_true rfl) (Nat.le_of_ble_eq_true rfl) rfl H (fun H => ?_)
  refine nx_l2i rfl rfl ?_
  show nX _ _ _ _ _ _ 191 _ _ _ _ _
  refine nx_goto rfl rfl ?_
  exact TB_X13_spans_195 hW   hk55 _ _ _ _ _ _ _ _ _ _ _ _ _ H
def B_X13_spans_142 (k55 : TS → Int32 → Int32 → Int32 → Int32 → Int32 → Option (Int32 × TS)) (t : TS) (v1 : Int32) (v2 : Int32) (v3 : Int32) (v4 : Int32) (v5 : Int32) (v8 : Int32) (s0 : Int32) (s1 : Int32) : Option (Int32 × TS) := (gd (s1 + s0) (tL t 3395 0) (if v8 = 0 then (B_X13_spans_174 k55 t v1 v2 v3 v4 v5 v8 (s1 + s0) ((tJ t 3395 0 (s1 + s0).toNatClampNeg).toInt32) 0) else (gd ((s1 + s0) + 1) (tL t 3395 0) (B_X13_spans_174 k55 t v1 v2 v3 v4 v5 v8 (s1 + s0) ((tJ t 3395 0 (s1 + s0).toNatClampNeg).toInt32) ((tJ t 3395 0 ((s1 + s0) + 1).toNatClampNeg).toInt32)))))
theorem TB_X13_spans_142 {W : NW} {d : Nat} {Q : Option NV → TS → Prop} {a0 : Nat → Nat → Nat} {e0 : Nat → Nat → Bool} {k55 : TS → Int32 → Int32 → Int32 → Int32 → Int32 → Option (Int32 × TS)} {bc bs : Nat} (hW : W.2.2.2 = mm_fx) (hk55 : ∀ (t : TS) (v1 : Int32) (v2 : Int32) (v3 : Int32) (v4 : Int32) (v5 : Int32) (v6 : Option NV) (v8 : Option NV) (v9 : Option NV) (v10 : Option NV) (v11 : Option NV) (v12 : Option NV), wp (k55 t v1 v2 v3 v4 v5) (fun r => Q (some (eI r.1)) r.2) → nX W (d + 3) tX13_spans Q a0 e0 55 [some (eR (some (13, 0))), some (eI v1), some (eI v2), some (eI v3), some (eI v4), some (eI v5), v6, none, v8, v9, v10, v11, v12] [] t bc bs) : ∀ (t : TS) (v1 : Int32) (v2 : Int32) (v3 : Int32) (v4 : Int32) (v5 : Int32) (v6 : Int64) (v8 : Int32) (v9 : Option NV) (v10 : Option NV) (v11 : Option NV) (v12 : Option NV) (s0 : Int32) (s1 : Int32), wp (B_X13_spans_142 k55 t v1 v2 v3 v4 v5 v8 s0 s1) (fun r => Q (some (eI r.1)) r.2) → nX W (d + 3) tX13_spans Q a0 e0 142 [some (eR (some (13, 0))), some (eI v1), some (eI v2), some (eI v3), some (eI v4), some (eI v5), some (eJ v6), none, some (eI v8), v9, v10, v11, v12] [eI s0, eI s1] t bc bs := by
  intro t v1 v2 v3 v4 v5 v6 v8 v9 v10 v11 v12 s0 s1 H
  unfold B_X13_spans_142 at H
  refine nx_ii rfl rfl ?_
  refine nx_st (ls' := [some (eR (some (13, 0))), some (eI v1), some (eI v2), some (eI v3), some (eI v4), some (eI v5), some (eJ v6), none, some (eI v8), some (eI (s1 + s0)), v10, v11, v12]) rfl rfl rfl (Nat.le_of_ble_eq_true rfl) rfl ?_
  refine nx_ld rfl rfl rfl rfl ?_
  refine nx_getFix rfl rfl rfl (by decide) (by rw [hW]; rfl) rfl ?_
  refine nx_ld rfl rfl rfl rfl ?_
  refine nx_lald (c := 3395) (i := 0) rfl rfl (Nat.le_of_ble_eq_true rfl) (Nat.le_of_ble_eq_true rfl) rfl H (fun H => ?_)
  refine nx_l2i rfl rfl ?_
  show nX _ _ _ _ _ _ 153 _ _ _ _ _
  refine nx_st (ls' := [some (eR (some (13, 0))), some (eI v1), some (eI v2), some (eI v3), some (eI v4), some (eI v5), some (eJ v6), none, some (eI v8), some (eI (s1 + s0)), some (eI ((tJ t 3395 0 (s1 + s0).toNatClampNeg).toInt32)), v11, v12]) rfl rfl rfl (Nat.le_of_ble_eq_true rfl) rfl ?_
  refine nx_ld rfl rfl rfl rfl ?_
  refine nx_if rfl rfl (by rfl) H (fun H => ?_) (fun H => ?_)
  · refine nx_int (x := 0) rfl rfl ?_
    exact TB_X13_spans_174 hW   hk55 _ _ _ _ _ _ _ _ _ _ _ _ _ H
  refine nx_ld rfl rfl rfl rfl ?_
  refine nx_getFix rfl rfl rfl (by decide) (by rw [hW]; rfl) rfl ?_
  refine nx_ld rfl rfl rfl rfl ?_
  refine nx_int (x := 1) rfl rfl ?_
  refine nx_ii rfl rfl ?_
  refine nx_lald (c := 3395) (i := 0) rfl rfl (Nat.le_of_ble_eq_true rfl) (Nat.le_of_ble_eq_true rfl) rfl H (fun H => ?_)
  refine nx_l2i rfl rfl ?_
  show nX _ _ _ _ _ _ 170 _ _ _ _ _
  refine nx_goto rfl rfl ?_
  exact TB_X13_spans_174 hW   hk55 _ _ _ _ _ _ _ _ _ _ _ _ _ H
def B_X13_spans_124 (k55 : TS → Int32 → Int32 → Int32 → Int32 → Int32 → Option (Int32 × TS)) (t : TS) (v1 : Int32) (v2 : Int32) (v3 : Int32) (v4 : Int32) (v5 : Int32) (v6 : Int64) (s0 : Int32) : Option (Int32 × TS) := (if s0 = 0 then (B_X13_spans_142 k55 t v1 v2 v3 v4 v5 s0 0 (60 * v2)) else (B_X13_spans_142 k55 t v1 v2 v3 v4 v5 s0 (v6.toInt32) (60 * v2)))
theorem TB_X13_spans_124 {W : NW} {d : Nat} {Q : Option NV → TS → Prop} {a0 : Nat → Nat → Nat} {e0 : Nat → Nat → Bool} {k55 : TS → Int32 → Int32 → Int32 → Int32 → Int32 → Option (Int32 × TS)} {bc bs : Nat} (hW : W.2.2.2 = mm_fx) (hk55 : ∀ (t : TS) (v1 : Int32) (v2 : Int32) (v3 : Int32) (v4 : Int32) (v5 : Int32) (v6 : Option NV) (v8 : Option NV) (v9 : Option NV) (v10 : Option NV) (v11 : Option NV) (v12 : Option NV), wp (k55 t v1 v2 v3 v4 v5) (fun r => Q (some (eI r.1)) r.2) → nX W (d + 3) tX13_spans Q a0 e0 55 [some (eR (some (13, 0))), some (eI v1), some (eI v2), some (eI v3), some (eI v4), some (eI v5), v6, none, v8, v9, v10, v11, v12] [] t bc bs) : ∀ (t : TS) (v1 : Int32) (v2 : Int32) (v3 : Int32) (v4 : Int32) (v5 : Int32) (v6 : Int64) (v8 : Option NV) (v9 : Option NV) (v10 : Option NV) (v11 : Option NV) (v12 : Option NV) (s0 : Int32), wp (B_X13_spans_124 k55 t v1 v2 v3 v4 v5 v6 s0) (fun r => Q (some (eI r.1)) r.2) → nX W (d + 3) tX13_spans Q a0 e0 124 [some (eR (some (13, 0))), some (eI v1), some (eI v2), some (eI v3), some (eI v4), some (eI v5), some (eJ v6), none, v8, v9, v10, v11, v12] [eI s0] t bc bs := by
  intro t v1 v2 v3 v4 v5 v6 v8 v9 v10 v11 v12 s0 H
  unfold B_X13_spans_124 at H
  refine nx_st (ls' := [some (eR (some (13, 0))), some (eI v1), some (eI v2), some (eI v3), some (eI v4), some (eI v5), some (eJ v6), none, some (eI s0), v9, v10, v11, v12]) rfl rfl rfl (Nat.le_of_ble_eq_true rfl) rfl ?_
  refine nx_int (x := 60) rfl rfl ?_
  refine nx_ld rfl rfl rfl rfl ?_
  refine nx_ii rfl rfl ?_
  refine nx_ld rfl rfl rfl rfl ?_
  refine nx_if rfl rfl (by rfl) H (fun H => ?_) (fun H => ?_)
  · refine nx_int (x := 0) rfl rfl ?_
    exact TB_X13_spans_142 hW   hk55 _ _ _ _ _ _ _ _ _ _ _ _ _ _ H
  refine nx_ld rfl rfl rfl rfl ?_
  refine nx_l2i rfl rfl ?_
  refine nx_goto rfl rfl ?_
  exact TB_X13_spans_142 hW   hk55 _ _ _ _ _ _ _ _ _ _ _ _ _ _ H
def B_X13_spans_123 (k55 : TS → Int32 → Int32 → Int32 → Int32 → Int32 → Option (Int32 × TS)) (t : TS) (v1 : Int32) (v2 : Int32) (v3 : Int32) (v4 : Int32) (v5 : Int32) (v6 : Int64) : Option (Int32 × TS) := (B_X13_spans_124 k55 t v1 v2 v3 v4 v5 v6 0)
theorem TB_X13_spans_123 {W : NW} {d : Nat} {Q : Option NV → TS → Prop} {a0 : Nat → Nat → Nat} {e0 : Nat → Nat → Bool} {k55 : TS → Int32 → Int32 → Int32 → Int32 → Int32 → Option (Int32 × TS)} {bc bs : Nat} (hW : W.2.2.2 = mm_fx) (hk55 : ∀ (t : TS) (v1 : Int32) (v2 : Int32) (v3 : Int32) (v4 : Int32) (v5 : Int32) (v6 : Option NV) (v8 : Option NV) (v9 : Option NV) (v10 : Option NV) (v11 : Option NV) (v12 : Option NV), wp (k55 t v1 v2 v3 v4 v5) (fun r => Q (some (eI r.1)) r.2) → nX W (d + 3) tX13_spans Q a0 e0 55 [some (eR (some (13, 0))), some (eI v1), some (eI v2), some (eI v3), some (eI v4), some (eI v5), v6, none, v8, v9, v10, v11, v12] [] t bc bs) : ∀ (t : TS) (v1 : Int32) (v2 : Int32) (v3 : Int32) (v4 : Int32) (v5 : Int32) (v6 : Int64) (v8 : Option NV) (v9 : Option NV) (v10 : Option NV) (v11 : Option NV) (v12 : Option NV), wp (B_X13_spans_123 k55 t v1 v2 v3 v4 v5 v6) (fun r => Q (some (eI r.1)) r.2) → nX W (d + 3) tX13_spans Q a0 e0 123 [some (eR (some (13, 0))), some (eI v1), some (eI v2), some (eI v3), some (eI v4), some (eI v5), some (eJ v6), none, v8, v9, v10, v11, v12] [] t bc bs := by
  intro t v1 v2 v3 v4 v5 v6 v8 v9 v10 v11 v12 H
  unfold B_X13_spans_123 at H
  refine nx_int (x := 0) rfl rfl ?_
  exact TB_X13_spans_124 hW   hk55 _ _ _ _ _ _ _ _ _ _ _ _ _ H
def BB_X13_spans_55 (k55 : TS → Int32 → Int32 → Int32 → Int32 → Int32 → Option (Int32 × TS)) (t : TS) (v1 : Int32) (v2 : Int32) (v3 : Int32) (v4 : Int32) (v5 : Int32) : Option (Int32 × TS) := (if v4 ≤ v5 then (B_X13_spans_263  t v1 v4) else (if ¬ (tI t 1316 0) = 600 then (gd v2 (tL t 3393 0) (if (tA t 3393 0 v2.toNatClampNeg) = (-1) then (B_X13_spans_123 k55 t v1 v2 v3 v4 v5 ((v3.toInt64) + ((3 * v5).toInt64))) else (if (lg_cmp ((v3.toInt64) + ((3 * v5).toInt64)) 0) < 0 then (B_X13_spans_123 k55 t v1 v2 v3 v4 v5 ((v3.toInt64) + ((3 * v5).toInt64))) else (gd v2 (tL t 3394 0) (if 0 ≤ (lg_cmp (((v3.toInt64) + ((3 * v5).toInt64)) + 2) ((tA t 3394 0 v2.toNatClampNeg).toInt64)) then (B_X13_spans_123 k55 t v1 v2 v3 v4 v5 ((v3.toInt64) + ((3 * v5).toInt64))) else (B_X13_spans_124 k55 t v1 v2 v3 v4 v5 ((v3.toInt64) + ((3 * v5).toInt64)) 1)))))) else (some (v5, t))))
theorem TBB_X13_spans_55 {W : NW} {d : Nat} {Q : Option NV → TS → Prop} {a0 : Nat → Nat → Nat} {e0 : Nat → Nat → Bool} {k55 : TS → Int32 → Int32 → Int32 → Int32 → Int32 → Option (Int32 × TS)} {bc bs : Nat} (hW : W.2.2.2 = mm_fx) (hk55 : ∀ (t : TS) (v1 : Int32) (v2 : Int32) (v3 : Int32) (v4 : Int32) (v5 : Int32) (v6 : Option NV) (v8 : Option NV) (v9 : Option NV) (v10 : Option NV) (v11 : Option NV) (v12 : Option NV), wp (k55 t v1 v2 v3 v4 v5) (fun r => Q (some (eI r.1)) r.2) → nX W (d + 3) tX13_spans Q a0 e0 55 [some (eR (some (13, 0))), some (eI v1), some (eI v2), some (eI v3), some (eI v4), some (eI v5), v6, none, v8, v9, v10, v11, v12] [] t bc bs) : ∀ (t : TS) (v1 : Int32) (v2 : Int32) (v3 : Int32) (v4 : Int32) (v5 : Int32) (v6 : Option NV) (v8 : Option NV) (v9 : Option NV) (v10 : Option NV) (v11 : Option NV) (v12 : Option NV), wp (BB_X13_spans_55 k55 t v1 v2 v3 v4 v5) (fun r => Q (some (eI r.1)) r.2) → nX W (d + 3) tX13_spans Q a0 e0 55 [some (eR (some (13, 0))), some (eI v1), some (eI v2), some (eI v3), some (eI v4), some (eI v5), v6, none, v8, v9, v10, v11, v12] [] t bc bs := by
  intro t v1 v2 v3 v4 v5 v6 v8 v9 v10 v11 v12 H
  unfold BB_X13_spans_55 at H
  refine nx_ld rfl rfl rfl rfl ?_
  refine nx_ld rfl rfl rfl rfl ?_
  refine nx_icmp rfl rfl (by rfl) H (fun H => ?_) (fun H => ?_)
  · exact TB_X13_spans_263 hW    _ _ _ _ _ _ _ _ _ _ _ _ H
  refine nx_ld rfl rfl rfl rfl ?_
  refine nx_getI rfl rfl rfl (by decide) ?_
  refine nx_int (x := 600) rfl rfl ?_
  refine nx_icmp rfl rfl (by rfl) H (fun H => ?_) (fun H => ?_)
  · refine nx_ld rfl rfl rfl rfl ?_
    refine nx_i2l rfl rfl ?_
    refine nx_int (x := 3) rfl rfl ?_
    refine nx_ld rfl rfl rfl rfl ?_
    refine nx_ii rfl rfl ?_
    refine nx_i2l rfl rfl ?_
    refine nx_jj rfl rfl ?_
    show nX _ _ _ _ _ _ 83 _ _ _ _ _
    refine nx_st2 (ls' := [some (eR (some (13, 0))), some (eI v1), some (eI v2), some (eI v3), some (eI v4), some (eI v5), some (eJ ((v3.toInt64) + ((3 * v5).toInt64))), none, v8, v9, v10, v11, v12]) rfl rfl (Nat.le_of_ble_eq_true rfl) rfl ?_
    refine nx_ld rfl rfl rfl rfl ?_
    refine nx_getFix rfl rfl rfl (by decide) (by rw [hW]; rfl) rfl ?_
    refine nx_ld rfl rfl rfl rfl ?_
    refine nx_iald (p := (3393, 0)) rfl rfl (Nat.le_of_ble_eq_true rfl) (Nat.le_of_ble_eq_true rfl) rfl H (fun H => ?_)
    refine nx_int (x := (-1)) rfl rfl ?_
    refine nx_icmp rfl rfl (by rfl) H (fun H => ?_) (fun H => ?_)
    · exact TB_X13_spans_123 hW   hk55 _ _ _ _ _ _ _ _ _ _ _ _ H
    refine nx_ld rfl rfl rfl rfl ?_
    refine nx_long (x := 0) rfl rfl ?_
    refine nx_lcmp rfl rfl ?_
    refine nx_if rfl rfl (by rfl) H (fun H => ?_) (fun H => ?_)
    · exact TB_X13_spans_123 hW   hk55 _ _ _ _ _ _ _ _ _ _ _ _ H
    refine nx_ld rfl rfl rfl rfl ?_
    refine nx_long (x := 2) rfl rfl ?_
    refine nx_jj rfl rfl ?_
    refine nx_ld rfl rfl rfl rfl ?_
    refine nx_getFix rfl rfl rfl (by decide) (by rw [hW]; rfl) rfl ?_
    refine nx_ld rfl rfl rfl rfl ?_
    refine nx_iald (p := (3394, 0)) rfl rfl (Nat.le_of_ble_eq_true rfl) (Nat.le_of_ble_eq_true rfl) rfl H (fun H => ?_)
    show nX _ _ _ _ _ _ 114 _ _ _ _ _
    refine nx_i2l rfl rfl ?_
    refine nx_lcmp rfl rfl ?_
    refine nx_if rfl rfl (by rfl) H (fun H => ?_) (fun H => ?_)
    · exact TB_X13_spans_123 hW   hk55 _ _ _ _ _ _ _ _ _ _ _ _ H
    refine nx_int (x := 1) rfl rfl ?_
    refine nx_goto rfl rfl ?_
    exact TB_X13_spans_124 hW   hk55 _ _ _ _ _ _ _ _ _ _ _ _ _ H
  refine nx_ld rfl rfl rfl rfl ?_
  exact nx_rit rfl rfl H
def B_X13_spans_55 : Nat → TS → Int32 → Int32 → Int32 → Int32 → Int32 → Option (Int32 × TS)
  | 0 => fun _ _ _ _ _ _ => none
  | n + 1 => fun t v1 v2 v3 v4 v5 => BB_X13_spans_55 (B_X13_spans_55 n) t v1 v2 v3 v4 v5
theorem TB_X13_spans_55 {W : NW} {d : Nat} {Q : Option NV → TS → Prop} {a0 : Nat → Nat → Nat} {e0 : Nat → Nat → Bool} {bc bs : Nat} (hW : W.2.2.2 = mm_fx) : ∀ (n : Nat) (t : TS) (v1 : Int32) (v2 : Int32) (v3 : Int32) (v4 : Int32) (v5 : Int32) (v6 : Option NV) (v8 : Option NV) (v9 : Option NV) (v10 : Option NV) (v11 : Option NV) (v12 : Option NV), wp (B_X13_spans_55 n t v1 v2 v3 v4 v5) (fun r => Q (some (eI r.1)) r.2) → nX W (d + 3) tX13_spans Q a0 e0 55 [some (eR (some (13, 0))), some (eI v1), some (eI v2), some (eI v3), some (eI v4), some (eI v5), v6, none, v8, v9, v10, v11, v12] [] t bc bs := by
  intro n
  induction n with
  | zero => intro t v1 v2 v3 v4 v5 v6 v8 v9 v10 v11 v12 H; exact (wp_none H).elim
  | succ n ih =>
    intro t v1 v2 v3 v4 v5 v6 v8 v9 v10 v11 v12 H
    exact TBB_X13_spans_55 hW    ih t v1 v2 v3 v4 v5 v6 v8 v9 v10 v11 v12 H
def B_X13_spans_52 (t : TS) (v1 : Int32) (v2 : Int32) (v3 : Int32) (v4 : Int32) : Option (Int32 × TS) := (B_X13_spans_55  10000 t v1 v2 v3 v4 0)
theorem TB_X13_spans_52 {W : NW} {d : Nat} {Q : Option NV → TS → Prop} {a0 : Nat → Nat → Nat} {e0 : Nat → Nat → Bool} {bc bs : Nat} (hW : W.2.2.2 = mm_fx) : ∀ (t : TS) (v1 : Int32) (v2 : Int32) (v3 : Int32) (v4 : Int32), wp (B_X13_spans_52 t v1 v2 v3 v4) (fun r => Q (some (eI r.1)) r.2) → nX W (d + 3) tX13_spans Q a0 e0 52 [some (eR (some (13, 0))), some (eI v1), some (eI v2), some (eI v3), some (eI v4), none, none, none, none, none, none, none, none] [] t bc bs := by
  intro t v1 v2 v3 v4 H
  unfold B_X13_spans_52 at H
  refine nx_int (x := 0) rfl rfl ?_
  refine nx_st (ls' := [some (eR (some (13, 0))), some (eI v1), some (eI v2), some (eI v3), some (eI v4), some (eI 0), none, none, none, none, none, none, none]) rfl rfl rfl (Nat.le_of_ble_eq_true rfl) rfl ?_
  exact TB_X13_spans_55 hW    10000 _ _ _ _ _ _ _ _ _ _ _ _ H
def F_X13_spans (t : TS) (x1 : Int32) (x2 : Int32) (x3 : Int32) (x4 : Int32) : Option (Int32 × TS) := (Option.bind (F_X13_isPlayer t x1) (fun r21 => (if r21 = 0 then (some ((-1), t)) else (Option.bind (F_X13_isShelf t x2) (fun r22 => (if r22 = 0 then (some ((-1), t)) else (Option.bind (F_X13_in t x4 1 20) (fun r23 => (if ¬ r23 = 0 then (gd x2 (tL t 3393 0) (if (tA t 3393 0 x2.toNatClampNeg) = (-1) then (B_X13_spans_52  t x1 x2 x3 x4) else (gd x2 (tL t 3393 0) (if (tA t 3393 0 x2.toNatClampNeg) = (-3) then (B_X13_spans_52  t x1 x2 x3 x4) else (some ((-12), t)))))) else (some ((-1), t)))))))))))
theorem TF_X13_spans {W : NW} {d : Nat} {t : TS} {x1 : Int32} {x2 : Int32} {x3 : Int32} {x4 : Int32} {Q : Option NV → TS → Prop} {bc bs : Nat} (hW : W.2.2.2 = mm_fx) (H : wp (F_X13_spans t x1 x2 x3 x4) (fun r => Q (some (eI r.1)) r.2)) : nC W (d + 4) 184 [eR (some (13, 0)), eI x1, eI x2, eI x3, eI x4] t bc bs Q := by
  refine nC_in (d := (d + 3)) (T := tX13_spans) (ls := [some (eR (some (13, 0))), some (eI x1), some (eI x2), some (eI x3), some (eI x4), none, none, none, none, none, none, none, none]) rfl (Nat.le_of_ble_eq_true rfl) rfl (fun a0 e0 => ?_)
  unfold F_X13_spans at H
  refine nx_ld rfl rfl rfl rfl ?_
  refine nx_ld rfl rfl rfl rfl ?_
  refine nx_cVI (as := [eI x1]) (st' := []) rfl rfl (Nat.le_of_ble_eq_true rfl) rfl rfl (Nat.le_of_ble_eq_true rfl) (c0 := 13) rfl (by decide) H (fun Q H => TF_X13_isPlayer hW  H) (fun r21 H => ?_)
  refine nx_if rfl rfl (by rfl) H (fun H => ?_) (fun H => ?_)
  · refine nx_int (x := (-1)) rfl rfl ?_
    exact nx_rit rfl rfl H
  refine nx_ld rfl rfl rfl rfl ?_
  refine nx_cSI (as := [eI x2]) (st' := []) rfl rfl (Nat.le_of_ble_eq_true rfl) rfl rfl (Nat.le_of_ble_eq_true rfl) H (fun Q H => TF_X13_isShelf hW  H) (fun r22 H => ?_)
  refine nx_if rfl rfl (by rfl) H (fun H => ?_) (fun H => ?_)
  · refine nx_int (x := (-1)) rfl rfl ?_
    exact nx_rit rfl rfl H
  refine nx_ld rfl rfl rfl rfl ?_
  refine nx_int (x := 1) rfl rfl ?_
  refine nx_int (x := 20) rfl rfl ?_
  refine nx_cSI (as := [eI x4, eI 1, eI 20]) (st' := []) rfl rfl (Nat.le_of_ble_eq_true rfl) rfl rfl (Nat.le_of_ble_eq_true rfl) H (fun Q H => TF_X13_in hW  H) (fun r23 H => ?_)
  refine nx_if rfl rfl (by rfl) H (fun H => ?_) (fun H => ?_)
  · refine nx_ld rfl rfl rfl rfl ?_
    refine nx_getFix rfl rfl rfl (by decide) (by rw [hW]; rfl) rfl ?_
    refine nx_ld rfl rfl rfl rfl ?_
    refine nx_iald (p := (3393, 0)) rfl rfl (Nat.le_of_ble_eq_true rfl) (Nat.le_of_ble_eq_true rfl) rfl H (fun H => ?_)
    refine nx_int (x := (-1)) rfl rfl ?_
    refine nx_icmp rfl rfl (by rfl) H (fun H => ?_) (fun H => ?_)
    · exact TB_X13_spans_52 hW    _ _ _ _ _ H
    refine nx_ld rfl rfl rfl rfl ?_
    refine nx_getFix rfl rfl rfl (by decide) (by rw [hW]; rfl) rfl ?_
    refine nx_ld rfl rfl rfl rfl ?_
    refine nx_iald (p := (3393, 0)) rfl rfl (Nat.le_of_ble_eq_true rfl) (Nat.le_of_ble_eq_true rfl) rfl H (fun H => ?_)
    refine nx_int (x := (-3)) rfl rfl ?_
    refine nx_icmp rfl rfl (by rfl) H (fun H => ?_) (fun H => ?_)
    · exact TB_X13_spans_52 hW    _ _ _ _ _ H
    refine nx_int (x := (-12)) rfl rfl ?_
    exact nx_rit rfl rfl H
  refine nx_int (x := (-1)) rfl rfl ?_
  exact nx_rit rfl rfl H
def F_X13_sign (t : TS) (x1 : Int32) (x2 : Int32) (x3 : Int32) (x4 : Int32) : Option (Int32 × TS) := (Option.bind (F_X13_isPlayer t x1) (fun r21 => (if r21 = 0 then (some ((-1), t)) else (Option.bind (F_X13_isClub t x2) (fun r22 => (if r22 = 0 then (some ((-1), t)) else (Option.bind (F_X13_in t x3 (tI t 1301 0) 2999) (fun r23 => (if r23 = 0 then (some ((-1), t)) else (Option.bind (F_X13_in t x4 0 99999) (fun r24 => (if ¬ r24 = 0 then (Option.bind (F_X13_ownerOn t x1 (tI t 1301 0)) (fun r25 => (if r25 < 0 then (if ¬ (tI t 1316 0) = 600 then (ob2 (F_X13_addSpan t x1 x2 (tI t 1301 0) x3 1) (fun x27 t28 => (gd x27 (tL t28 3323 0) (nxt (uA t28 3323 0 x27.toNatClampNeg x4) (fun t29 => (some (1, t29))))))) else (some ((-3), t))) else (some ((-2), t))))) else (some ((-1), t))))))))))))))
theorem TF_X13_sign {W : NW} {d : Nat} {t : TS} {x1 : Int32} {x2 : Int32} {x3 : Int32} {x4 : Int32} {Q : Option NV → TS → Prop} {bc bs : Nat} (hW : W.2.2.2 = mm_fx) (H : wp (F_X13_sign t x1 x2 x3 x4) (fun r => Q (some (eI r.1)) r.2)) : nC W (d + 4) 185 [eR (some (13, 0)), eI x1, eI x2, eI x3, eI x4] t bc bs Q := by
  refine nC_in (d := (d + 3)) (T := tX13_sign) (ls := [some (eR (some (13, 0))), some (eI x1), some (eI x2), some (eI x3), some (eI x4), none]) rfl (Nat.le_of_ble_eq_true rfl) rfl (fun a0 e0 => ?_)
  unfold F_X13_sign at H
  refine nx_ld rfl rfl rfl rfl ?_
  refine nx_ld rfl rfl rfl rfl ?_
  refine nx_cVI (as := [eI x1]) (st' := []) rfl rfl (Nat.le_of_ble_eq_true rfl) rfl rfl (Nat.le_of_ble_eq_true rfl) (c0 := 13) rfl (by decide) H (fun Q H => TF_X13_isPlayer hW  H) (fun r21 H => ?_)
  refine nx_if rfl rfl (by rfl) H (fun H => ?_) (fun H => ?_)
  · refine nx_int (x := (-1)) rfl rfl ?_
    exact nx_rit rfl rfl H
  refine nx_ld rfl rfl rfl rfl ?_
  refine nx_ld rfl rfl rfl rfl ?_
  refine nx_cVI (as := [eI x2]) (st' := []) rfl rfl (Nat.le_of_ble_eq_true rfl) rfl rfl (Nat.le_of_ble_eq_true rfl) (c0 := 13) rfl (by decide) H (fun Q H => TF_X13_isClub hW  H) (fun r22 H => ?_)
  refine nx_if rfl rfl (by rfl) H (fun H => ?_) (fun H => ?_)
  · refine nx_int (x := (-1)) rfl rfl ?_
    exact nx_rit rfl rfl H
  refine nx_ld rfl rfl rfl rfl ?_
  refine nx_ld rfl rfl rfl rfl ?_
  refine nx_getI rfl rfl rfl (by decide) ?_
  refine nx_int (x := 2999) rfl rfl ?_
  refine nx_cSI (as := [eI x3, eI (tI t 1301 0), eI 2999]) (st' := []) rfl rfl (Nat.le_of_ble_eq_true rfl) rfl rfl (Nat.le_of_ble_eq_true rfl) H (fun Q H => TF_X13_in hW  H) (fun r23 H => ?_)
  refine nx_if rfl rfl (by rfl) H (fun H => ?_) (fun H => ?_)
  · refine nx_int (x := (-1)) rfl rfl ?_
    exact nx_rit rfl rfl H
  refine nx_ld rfl rfl rfl rfl ?_
  refine nx_int (x := 0) rfl rfl ?_
  refine nx_int (x := 99999) rfl rfl ?_
  refine nx_cSI (as := [eI x4, eI 0, eI 99999]) (st' := []) rfl rfl (Nat.le_of_ble_eq_true rfl) rfl rfl (Nat.le_of_ble_eq_true rfl) H (fun Q H => TF_X13_in hW  H) (fun r24 H => ?_)
  refine nx_if rfl rfl (by rfl) H (fun H => ?_) (fun H => ?_)
  · refine nx_ld rfl rfl rfl rfl ?_
    refine nx_ld rfl rfl rfl rfl ?_
    refine nx_ld rfl rfl rfl rfl ?_
    refine nx_getI rfl rfl rfl (by decide) ?_
    refine nx_cVI (as := [eI x1, eI (tI t 1301 0)]) (st' := []) rfl rfl (Nat.le_of_ble_eq_true rfl) rfl rfl (Nat.le_of_ble_eq_true rfl) (c0 := 13) rfl (by decide) H (fun Q H => TF_X13_ownerOn hW  H) (fun r25 H => ?_)
    refine nx_if rfl rfl (by rfl) H (fun H => ?_) (fun H => ?_)
    · refine nx_ld rfl rfl rfl rfl ?_
      refine nx_getI rfl rfl rfl (by decide) ?_
      refine nx_int (x := 600) rfl rfl ?_
      refine nx_icmp rfl rfl (by rfl) H (fun H => ?_) (fun H => ?_)
      · refine nx_ld rfl rfl rfl rfl ?_
        refine nx_ld rfl rfl rfl rfl ?_
        refine nx_ld rfl rfl rfl rfl ?_
        refine nx_ld rfl rfl rfl rfl ?_
        refine nx_getI rfl rfl rfl (by decide) ?_
        refine nx_ld rfl rfl rfl rfl ?_
        refine nx_int (x := 1) rfl rfl ?_
        show nX _ _ _ _ _ _ 81 _ _ _ _ _
        refine nx_cVI2 (as := [eI x1, eI x2, eI (tI t 1301 0), eI x3, eI 1]) (st' := []) rfl rfl (Nat.le_of_ble_eq_true rfl) rfl rfl (Nat.le_of_ble_eq_true rfl) (c0 := 13) rfl (by decide) H (fun Q H => TF_X13_addSpan hW  H) (fun x27 t28 H => ?_)
        refine nx_st (ls' := [some (eR (some (13, 0))), some (eI x1), some (eI x2), some (eI x3), some (eI x4), some (eI x27)]) rfl rfl rfl (Nat.le_of_ble_eq_true rfl) rfl ?_
        refine nx_ld rfl rfl rfl rfl ?_
        refine nx_getFix rfl rfl rfl (by decide) (by rw [hW]; rfl) rfl ?_
        refine nx_ld rfl rfl rfl rfl ?_
        refine nx_ld rfl rfl rfl rfl ?_
        refine nx_iast (p := (3323, 0)) rfl rfl (Nat.le_of_ble_eq_true rfl) (Nat.le_of_ble_eq_true rfl) rfl H (fun t29 H => ?_)
        refine nx_int (x := 1) rfl rfl ?_
        show nX _ _ _ _ _ _ 96 _ _ _ _ _
        exact nx_rit rfl rfl H
      refine nx_int (x := (-3)) rfl rfl ?_
      exact nx_rit rfl rfl H
    refine nx_int (x := (-2)) rfl rfl ?_
    exact nx_rit rfl rfl H
  refine nx_int (x := (-1)) rfl rfl ?_
  exact nx_rit rfl rfl H
def B_X13_findTaught_268 (k138 : TS → Int32 → Int32 → Int32 → Option TS) (t : TS) (v2 : Int32) (v3 : Int32) (v4 : Int32) : Option TS := (k138 t v2 v3 (v4 + 1))
theorem TB_X13_findTaught_268 {W : NW} {d : Nat} {Q : Option NV → TS → Prop} {a0 : Nat → Nat → Nat} {e0 : Nat → Nat → Bool} {k138 : TS → Int32 → Int32 → Int32 → Option TS} {bc bs : Nat} (hW : W.2.2.2 = mm_fx) (hk138 : ∀ (t : TS) (v1 : Int32) (v2 : Int32) (v3 : Int32) (v4 : Int32) (v5 : Option NV) (v6 : Option NV) (v7 : Option NV) (v8 : Option NV), wp (k138 t v2 v3 v4) (fun r => Q none r) → nX W (d + 1) tX13_findTaught Q a0 e0 138 [some (eR (some (13, 0))), some (eI v1), some (eI v2), some (eI v3), some (eI v4), v5, v6, v7, v8] [] t bc bs) : ∀ (t : TS) (v1 : Int32) (v2 : Int32) (v3 : Int32) (v4 : Int32) (v5 : Int32) (v6 : Int32) (v7 : Int32) (v8 : Option NV), wp (B_X13_findTaught_268 k138 t v2 v3 v4) (fun r => Q none r) → nX W (d + 1) tX13_findTaught Q a0 e0 268 [some (eR (some (13, 0))), some (eI v1), some (eI v2), some (eI v3), some (eI v4), some (eI v5), some (eI v6), some (eI v7), v8] [] t bc bs := by
  intro t v1 v2 v3 v4 v5 v6 v7 v8 H
  unfold B_X13_findTaught_268 at H
  refine nx_iinc2 1 (ls' := [some (eR (some (13, 0))), some (eI v1), some (eI v2), some (eI v3), some (eI (v4 + 1)), some (eI v5), some (eI v6), some (eI v7), v8]) rfl rfl rfl rfl rfl ?_
  refine nx_goto rfl rfl ?_
  exact hk138 _ _ _ _ _ _ _ _ _ H
def B_X13_findTaught_247 (k138 : TS → Int32 → Int32 → Int32 → Option TS) (t : TS) (v2 : Int32) (v3 : Int32) (v4 : Int32) (v6 : Int32) : Option TS := (if v6 < 0 then (B_X13_findTaught_268 k138 t v2 v3 v4) else (gd v6 (tL t 3318 0) (gd (tA t 3318 0 v6.toNatClampNeg) (tL t 3325 0) (gd (tA t 3318 0 v6.toNatClampNeg) (tL t 3325 0) (nxt (uA t 3325 0 (tA t 3318 0 v6.toNatClampNeg).toNatClampNeg ((tA t 3325 0 (tA t 3318 0 v6.toNatClampNeg).toNatClampNeg) + 1)) (fun t21 => (B_X13_findTaught_268 k138 t21 v2 v3 v4)))))))
theorem TB_X13_findTaught_247 {W : NW} {d : Nat} {Q : Option NV → TS → Prop} {a0 : Nat → Nat → Nat} {e0 : Nat → Nat → Bool} {k138 : TS → Int32 → Int32 → Int32 → Option TS} {bc bs : Nat} (hW : W.2.2.2 = mm_fx) (hk138 : ∀ (t : TS) (v1 : Int32) (v2 : Int32) (v3 : Int32) (v4 : Int32) (v5 : Option NV) (v6 : Option NV) (v7 : Option NV) (v8 : Option NV), wp (k138 t v2 v3 v4) (fun r => Q none r) → nX W (d + 1) tX13_findTaught Q a0 e0 138 [some (eR (some (13, 0))), some (eI v1), some (eI v2), some (eI v3), some (eI v4), v5, v6, v7, v8] [] t bc bs) : ∀ (t : TS) (v1 : Int32) (v2 : Int32) (v3 : Int32) (v4 : Int32) (v5 : Int32) (v6 : Int32) (v7 : Int32) (v8 : Option NV), wp (B_X13_findTaught_247 k138 t v2 v3 v4 v6) (fun r => Q none r) → nX W (d + 1) tX13_findTaught Q a0 e0 247 [some (eR (some (13, 0))), some (eI v1), some (eI v2), some (eI v3), some (eI v4), some (eI v5), some (eI v6), some (eI v7), v8] [] t bc bs := by
  intro t v1 v2 v3 v4 v5 v6 v7 v8 H
  unfold B_X13_findTaught_247 at H
  refine nx_ld rfl rfl rfl rfl ?_
  refine nx_if rfl rfl (by rfl) H (fun H => ?_) (fun H => ?_)
  · exact TB_X13_findTaught_268 hW   hk138 _ _ _ _ _ _ _ _ _ H
  refine nx_ld rfl rfl rfl rfl ?_
  refine nx_getFix rfl rfl rfl (by decide) (by rw [hW]; rfl) rfl ?_
  refine nx_ld rfl rfl rfl rfl ?_
  refine nx_getFix rfl rfl rfl (by decide) (by rw [hW]; rfl) rfl ?_
  refine nx_ld rfl rfl rfl rfl ?_
  refine nx_iald (p := (3318, 0)) rfl rfl (Nat.le_of_ble_eq_true rfl) (Nat.le_of_ble_eq_true rfl) rfl H (fun H => ?_)
  refine nx_dup2 rfl rfl (Nat.ne_of_beq_eq_false rfl) (Nat.ne_of_beq_eq_false rfl) ?_
  show nX _ _ _ _ _ _ 264 _ _ _ _ _
  refine nx_iald (p := (3325, 0)) rfl rfl (Nat.le_of_ble_eq_true rfl) (Nat.le_of_ble_eq_true rfl) rfl H (fun H => ?_)
  refine nx_int (x := 1) rfl rfl ?_
  refine nx_ii rfl rfl ?_
  refine nx_iast (p := (3325, 0)) rfl rfl (Nat.le_of_ble_eq_true rfl) (Nat.le_of_ble_eq_true rfl) rfl H (fun t21 H => ?_)
  exact TB_X13_findTaught_268 hW   hk138 _ _ _ _ _ _ _ _ _ H
def B_X13_findTaught_241 (k138 : TS → Int32 → Int32 → Int32 → Option TS) (k153 : TS → Int32 → Int32 → Int32 → Int32 → Int32 → Int32 → Option TS) (t : TS) (v2 : Int32) (v3 : Int32) (v4 : Int32) (v5 : Int32) (v6 : Int32) (v7 : Int32) : Option TS := (k153 t v2 v3 v4 v5 v6 (v7 + 1))
theorem TB_X13_findTaught_241 {W : NW} {d : Nat} {Q : Option NV → TS → Prop} {a0 : Nat → Nat → Nat} {e0 : Nat → Nat → Bool} {k138 : TS → Int32 → Int32 → Int32 → Option TS} {k153 : TS → Int32 → Int32 → Int32 → Int32 → Int32 → Int32 → Option TS} {bc bs : Nat} (hW : W.2.2.2 = mm_fx) (hk138 : ∀ (t : TS) (v1 : Int32) (v2 : Int32) (v3 : Int32) (v4 : Int32) (v5 : Option NV) (v6 : Option NV) (v7 : Option NV) (v8 : Option NV), wp (k138 t v2 v3 v4) (fun r => Q none r) → nX W (d + 1) tX13_findTaught Q a0 e0 138 [some (eR (some (13, 0))), some (eI v1), some (eI v2), some (eI v3), some (eI v4), v5, v6, v7, v8] [] t bc bs) (hk153 : ∀ (t : TS) (v1 : Int32) (v2 : Int32) (v3 : Int32) (v4 : Int32) (v5 : Int32) (v6 : Int32) (v7 : Int32) (v8 : Option NV), wp (k153 t v2 v3 v4 v5 v6 v7) (fun r => Q none r) → nX W (d + 1) tX13_findTaught Q a0 e0 153 [some (eR (some (13, 0))), some (eI v1), some (eI v2), some (eI v3), some (eI v4), some (eI v5), some (eI v6), some (eI v7), v8] [] t bc bs) : ∀ (t : TS) (v1 : Int32) (v2 : Int32) (v3 : Int32) (v4 : Int32) (v5 : Int32) (v6 : Int32) (v7 : Int32) (v8 : Int32), wp (B_X13_findTaught_241 k138 k153 t v2 v3 v4 v5 v6 v7) (fun r => Q none r) → nX W (d + 1) tX13_findTaught Q a0 e0 241 [some (eR (some (13, 0))), some (eI v1), some (eI v2), some (eI v3), some (eI v4), some (eI v5), some (eI v6), some (eI v7), some (eI v8)] [] t bc bs := by
  intro t v1 v2 v3 v4 v5 v6 v7 v8 H
  unfold B_X13_findTaught_241 at H
  refine nx_iinc2 1 (ls' := [some (eR (some (13, 0))), some (eI v1), some (eI v2), some (eI v3), some (eI v4), some (eI v5), some (eI v6), some (eI (v7 + 1)), some (eI v8)]) rfl rfl rfl rfl rfl ?_
  refine nx_goto rfl rfl ?_
  exact hk153 _ _ _ _ _ _ _ _ _ H
def B_X13_findTaught_219 (k138 : TS → Int32 → Int32 → Int32 → Option TS) (k153 : TS → Int32 → Int32 → Int32 → Int32 → Int32 → Int32 → Option TS) (t : TS) (v2 : Int32) (v3 : Int32) (v4 : Int32) (v6 : Int32) (v7 : Int32) : Option TS := (B_X13_findTaught_241 k138 k153 t v2 v3 v4 1 v6 v7)
theorem TB_X13_findTaught_219 {W : NW} {d : Nat} {Q : Option NV → TS → Prop} {a0 : Nat → Nat → Nat} {e0 : Nat → Nat → Bool} {k138 : TS → Int32 → Int32 → Int32 → Option TS} {k153 : TS → Int32 → Int32 → Int32 → Int32 → Int32 → Int32 → Option TS} {bc bs : Nat} (hW : W.2.2.2 = mm_fx) (hk138 : ∀ (t : TS) (v1 : Int32) (v2 : Int32) (v3 : Int32) (v4 : Int32) (v5 : Option NV) (v6 : Option NV) (v7 : Option NV) (v8 : Option NV), wp (k138 t v2 v3 v4) (fun r => Q none r) → nX W (d + 1) tX13_findTaught Q a0 e0 138 [some (eR (some (13, 0))), some (eI v1), some (eI v2), some (eI v3), some (eI v4), v5, v6, v7, v8] [] t bc bs) (hk153 : ∀ (t : TS) (v1 : Int32) (v2 : Int32) (v3 : Int32) (v4 : Int32) (v5 : Int32) (v6 : Int32) (v7 : Int32) (v8 : Option NV), wp (k153 t v2 v3 v4 v5 v6 v7) (fun r => Q none r) → nX W (d + 1) tX13_findTaught Q a0 e0 153 [some (eR (some (13, 0))), some (eI v1), some (eI v2), some (eI v3), some (eI v4), some (eI v5), some (eI v6), some (eI v7), v8] [] t bc bs) : ∀ (t : TS) (v1 : Int32) (v2 : Int32) (v3 : Int32) (v4 : Int32) (v5 : Int32) (v6 : Int32) (v7 : Int32) (v8 : Int32), wp (B_X13_findTaught_219 k138 k153 t v2 v3 v4 v6 v7) (fun r => Q none r) → nX W (d + 1) tX13_findTaught Q a0 e0 219 [some (eR (some (13, 0))), some (eI v1), some (eI v2), some (eI v3), some (eI v4), some (eI v5), some (eI v6), some (eI v7), some (eI v8)] [] t bc bs := by
  intro t v1 v2 v3 v4 v5 v6 v7 v8 H
  unfold B_X13_findTaught_219 at H
  refine nx_int (x := 1) rfl rfl ?_
  refine nx_st (ls' := [some (eR (some (13, 0))), some (eI v1), some (eI v2), some (eI v3), some (eI v4), some (eI 1), some (eI v6), some (eI v7), some (eI v8)]) rfl rfl rfl (Nat.le_of_ble_eq_true rfl) rfl ?_
  refine nx_goto rfl rfl ?_
  exact TB_X13_findTaught_241 hW   hk138 hk153 _ _ _ _ _ _ _ _ _ H
def BB_X13_findTaught_153 (k138 : TS → Int32 → Int32 → Int32 → Option TS) (k153 : TS → Int32 → Int32 → Int32 → Int32 → Int32 → Int32 → Option TS) (t : TS) (v2 : Int32) (v3 : Int32) (v4 : Int32) (v5 : Int32) (v6 : Int32) (v7 : Int32) : Option TS := (if v2 ≤ v7 then (B_X13_findTaught_247 k138 t v2 v3 v4 v6) else (if 0 ≤ v6 then (B_X13_findTaught_247 k138 t v2 v3 v4 v6) else (gd v7 (tL t 3326 0) (Option.bind (F_X13_isSome t (tA t 3326 0 v7.toNatClampNeg) v4) (fun r21 => (if ¬ r21 = 0 then (gd (tA t 3326 0 v7.toNatClampNeg) (tL t 3321 0) (if ¬ (tA t 3321 0 (tA t 3326 0 v7.toNatClampNeg).toNatClampNeg) = 1 then (gd (tA t 3326 0 v7.toNatClampNeg) (tL t 3320 0) (if (tA t 3320 0 (tA t 3326 0 v7.toNatClampNeg).toNatClampNeg) < v4 then (B_X13_findTaught_241 k138 k153 t v2 v3 v4 v5 v6 v7) else (B_X13_findTaught_241 k138 k153 t v2 v3 v4 v5 (tA t 3326 0 v7.toNatClampNeg) v7))) else (if ¬ v5 = 0 then (B_X13_findTaught_219 k138 k153 t v2 v3 v4 v6 v7) else (gd (tA t 3326 0 v7.toNatClampNeg) (tL t 3320 0) (if (tA t 3320 0 (tA t 3326 0 v7.toNatClampNeg).toNatClampNeg) < v4 then (B_X13_findTaught_219 k138 k153 t v2 v3 v4 v6 v7) else (B_X13_findTaught_219 k138 k153 t v2 v3 v4 (tA t 3326 0 v7.toNatClampNeg) v7)))))) else (B_X13_findTaught_241 k138 k153 t v2 v3 v4 v5 v6 v7)))))))
theorem TBB_X13_findTaught_153 {W : NW} {d : Nat} {Q : Option NV → TS → Prop} {a0 : Nat → Nat → Nat} {e0 : Nat → Nat → Bool} {k138 : TS → Int32 → Int32 → Int32 → Option TS} {k153 : TS → Int32 → Int32 → Int32 → Int32 → Int32 → Int32 → Option TS} {bc bs : Nat} (hW : W.2.2.2 = mm_fx) (hk138 : ∀ (t : TS) (v1 : Int32) (v2 : Int32) (v3 : Int32) (v4 : Int32) (v5 : Option NV) (v6 : Option NV) (v7 : Option NV) (v8 : Option NV), wp (k138 t v2 v3 v4) (fun r => Q none r) → nX W (d + 1) tX13_findTaught Q a0 e0 138 [some (eR (some (13, 0))), some (eI v1), some (eI v2), some (eI v3), some (eI v4), v5, v6, v7, v8] [] t bc bs) (hk153 : ∀ (t : TS) (v1 : Int32) (v2 : Int32) (v3 : Int32) (v4 : Int32) (v5 : Int32) (v6 : Int32) (v7 : Int32) (v8 : Option NV), wp (k153 t v2 v3 v4 v5 v6 v7) (fun r => Q none r) → nX W (d + 1) tX13_findTaught Q a0 e0 153 [some (eR (some (13, 0))), some (eI v1), some (eI v2), some (eI v3), some (eI v4), some (eI v5), some (eI v6), some (eI v7), v8] [] t bc bs) : ∀ (t : TS) (v1 : Int32) (v2 : Int32) (v3 : Int32) (v4 : Int32) (v5 : Int32) (v6 : Int32) (v7 : Int32) (v8 : Option NV), wp (BB_X13_findTaught_153 k138 k153 t v2 v3 v4 v5 v6 v7) (fun r => Q none r) → nX W (d + 1) tX13_findTaught Q a0 e0 153 [some (eR (some (13, 0))), some (eI v1), some (eI v2), some (eI v3), some (eI v4), some (eI v5), some (eI v6), some (eI v7), v8] [] t bc bs := by
  intro t v1 v2 v3 v4 v5 v6 v7 v8 H
  unfold BB_X13_findTaught_153 at H
  refine nx_ld rfl rfl rfl rfl ?_
  refine nx_ld rfl rfl rfl rfl ?_
  refine nx_icmp rfl rfl (by rfl) H (fun H => ?_) (fun H => ?_)
  · exact TB_X13_findTaught_247 hW   hk138 _ _ _ _ _ _ _ _ _ H
  refine nx_ld rfl rfl rfl rfl ?_
  refine nx_if rfl rfl (by rfl) H (fun H => ?_) (fun H => ?_)
  · exact TB_X13_findTaught_247 hW   hk138 _ _ _ _ _ _ _ _ _ H
  refine nx_ld rfl rfl rfl rfl ?_
  refine nx_getFix rfl rfl rfl (by decide) (by rw [hW]; rfl) rfl ?_
  refine nx_ld rfl rfl rfl rfl ?_
  refine nx_iald (p := (3326, 0)) rfl rfl (Nat.le_of_ble_eq_true rfl) (Nat.le_of_ble_eq_true rfl) rfl H (fun H => ?_)
  refine nx_st (ls' := [some (eR (some (13, 0))), some (eI v1), some (eI v2), some (eI v3), some (eI v4), some (eI v5), some (eI v6), some (eI v7), some (eI (tA t 3326 0 v7.toNatClampNeg))]) rfl rfl rfl (Nat.le_of_ble_eq_true rfl) rfl ?_
  refine nx_ld rfl rfl rfl rfl ?_
  refine nx_ld rfl rfl rfl rfl ?_
  show nX _ _ _ _ _ _ 176 _ _ _ _ _
  refine nx_ld rfl rfl rfl rfl ?_
  refine nx_cVI (as := [eI (tA t 3326 0 v7.toNatClampNeg), eI v4]) (st' := []) rfl rfl (Nat.le_of_ble_eq_true rfl) rfl rfl (Nat.le_of_ble_eq_true rfl) (c0 := 13) rfl (by decide) H (fun Q H => TF_X13_isSome hW  H) (fun r21 H => ?_)
  refine nx_if rfl rfl (by rfl) H (fun H => ?_) (fun H => ?_)
  · refine nx_ld rfl rfl rfl rfl ?_
    refine nx_getFix rfl rfl rfl (by decide) (by rw [hW]; rfl) rfl ?_
    refine nx_ld rfl rfl rfl rfl ?_
    refine nx_iald (p := (3321, 0)) rfl rfl (Nat.le_of_ble_eq_true rfl) (Nat.le_of_ble_eq_true rfl) rfl H (fun H => ?_)
    refine nx_int (x := 1) rfl rfl ?_
    refine nx_icmp rfl rfl (by rfl) H (fun H => ?_) (fun H => ?_)
    · refine nx_ld rfl rfl rfl rfl ?_
      refine nx_ld rfl rfl rfl rfl ?_
      refine nx_getFix rfl rfl rfl (by decide) (by rw [hW]; rfl) rfl ?_
      refine nx_ld rfl rfl rfl rfl ?_
      refine nx_iald (p := (3320, 0)) rfl rfl (Nat.le_of_ble_eq_true rfl) (Nat.le_of_ble_eq_true rfl) rfl H (fun H => ?_)
      refine nx_icmp rfl rfl (by rfl) H (fun H => ?_) (fun H => ?_)
      · exact TB_X13_findTaught_241 hW   hk138 hk153 _ _ _ _ _ _ _ _ _ H
      refine nx_ld rfl rfl rfl rfl ?_
      refine nx_st (ls' := [some (eR (some (13, 0))), some (eI v1), some (eI v2), some (eI v3), some (eI v4), some (eI v5), some (eI (tA t 3326 0 v7.toNatClampNeg)), some (eI v7), some (eI (tA t 3326 0 v7.toNatClampNeg))]) rfl rfl rfl (Nat.le_of_ble_eq_true rfl) rfl ?_
      exact TB_X13_findTaught_241 hW   hk138 hk153 _ _ _ _ _ _ _ _ _ H
    refine nx_ld rfl rfl rfl rfl ?_
    refine nx_if rfl rfl (by rfl) H (fun H => ?_) (fun H => ?_)
    · exact TB_X13_findTaught_219 hW   hk138 hk153 _ _ _ _ _ _ _ _ _ H
    refine nx_ld rfl rfl rfl rfl ?_
    refine nx_ld rfl rfl rfl rfl ?_
    refine nx_getFix rfl rfl rfl (by decide) (by rw [hW]; rfl) rfl ?_
    refine nx_ld rfl rfl rfl rfl ?_
    refine nx_iald (p := (3320, 0)) rfl rfl (Nat.le_of_ble_eq_true rfl) (Nat.le_of_ble_eq_true rfl) rfl H (fun H => ?_)
    refine nx_icmp rfl rfl (by rfl) H (fun H => ?_) (fun H => ?_)
    · exact TB_X13_findTaught_219 hW   hk138 hk153 _ _ _ _ _ _ _ _ _ H
    refine nx_ld rfl rfl rfl rfl ?_
    refine nx_st (ls' := [some (eR (some (13, 0))), some (eI v1), some (eI v2), some (eI v3), some (eI v4), some (eI v5), some (eI (tA t 3326 0 v7.toNatClampNeg)), some (eI v7), some (eI (tA t 3326 0 v7.toNatClampNeg))]) rfl rfl rfl (Nat.le_of_ble_eq_true rfl) rfl ?_
    exact TB_X13_findTaught_219 hW   hk138 hk153 _ _ _ _ _ _ _ _ _ H
  refine nx_goto rfl rfl ?_
  exact TB_X13_findTaught_241 hW   hk138 hk153 _ _ _ _ _ _ _ _ _ H
def B_X13_findTaught_153 (k138 : TS → Int32 → Int32 → Int32 → Option TS) : Nat → TS → Int32 → Int32 → Int32 → Int32 → Int32 → Int32 → Option TS
  | 0 => fun _ _ _ _ _ _ _ => none
  | n + 1 => fun t v2 v3 v4 v5 v6 v7 => BB_X13_findTaught_153 k138 (B_X13_findTaught_153 k138 n) t v2 v3 v4 v5 v6 v7
theorem TB_X13_findTaught_153 {W : NW} {d : Nat} {Q : Option NV → TS → Prop} {a0 : Nat → Nat → Nat} {e0 : Nat → Nat → Bool} {k138 : TS → Int32 → Int32 → Int32 → Option TS} {bc bs : Nat} (hW : W.2.2.2 = mm_fx) (hk138 : ∀ (t : TS) (v1 : Int32) (v2 : Int32) (v3 : Int32) (v4 : Int32) (v5 : Option NV) (v6 : Option NV) (v7 : Option NV) (v8 : Option NV), wp (k138 t v2 v3 v4) (fun r => Q none r) → nX W (d + 1) tX13_findTaught Q a0 e0 138 [some (eR (some (13, 0))), some (eI v1), some (eI v2), some (eI v3), some (eI v4), v5, v6, v7, v8] [] t bc bs) : ∀ (n : Nat) (t : TS) (v1 : Int32) (v2 : Int32) (v3 : Int32) (v4 : Int32) (v5 : Int32) (v6 : Int32) (v7 : Int32) (v8 : Option NV), wp (B_X13_findTaught_153 k138 n t v2 v3 v4 v5 v6 v7) (fun r => Q none r) → nX W (d + 1) tX13_findTaught Q a0 e0 153 [some (eR (some (13, 0))), some (eI v1), some (eI v2), some (eI v3), some (eI v4), some (eI v5), some (eI v6), some (eI v7), v8] [] t bc bs := by
  intro n
  induction n with
  | zero => intro t v1 v2 v3 v4 v5 v6 v7 v8 H; exact (wp_none H).elim
  | succ n ih =>
    intro t v1 v2 v3 v4 v5 v6 v7 v8 H
    exact TBB_X13_findTaught_153 hW   hk138 ih t v1 v2 v3 v4 v5 v6 v7 v8 H
def BB_X13_findTaught_138 (k138 : TS → Int32 → Int32 → Int32 → Option TS) (t : TS) (v2 : Int32) (v3 : Int32) (v4 : Int32) : Option TS := (if v3 < v4 then (some t) else (B_X13_findTaught_153 k138 10000 t v2 v3 v4 0 (-1) 0))
theorem TBB_X13_findTaught_138 {W : NW} {d : Nat} {Q : Option NV → TS → Prop} {a0 : Nat → Nat → Nat} {e0 : Nat → Nat → Bool} {k138 : TS → Int32 → Int32 → Int32 → Option TS} {bc bs : Nat} (hW : W.2.2.2 = mm_fx) (hk138 : ∀ (t : TS) (v1 : Int32) (v2 : Int32) (v3 : Int32) (v4 : Int32) (v5 : Option NV) (v6 : Option NV) (v7 : Option NV) (v8 : Option NV), wp (k138 t v2 v3 v4) (fun r => Q none r) → nX W (d + 1) tX13_findTaught Q a0 e0 138 [some (eR (some (13, 0))), some (eI v1), some (eI v2), some (eI v3), some (eI v4), v5, v6, v7, v8] [] t bc bs) : ∀ (t : TS) (v1 : Int32) (v2 : Int32) (v3 : Int32) (v4 : Int32) (v5 : Option NV) (v6 : Option NV) (v7 : Option NV) (v8 : Option NV), wp (BB_X13_findTaught_138 k138 t v2 v3 v4) (fun r => Q none r) → nX W (d + 1) tX13_findTaught Q a0 e0 138 [some (eR (some (13, 0))), some (eI v1), some (eI v2), some (eI v3), some (eI v4), v5, v6, v7, v8] [] t bc bs := by
  intro t v1 v2 v3 v4 v5 v6 v7 v8 H
  unfold BB_X13_findTaught_138 at H
  refine nx_ld rfl rfl rfl rfl ?_
  refine nx_ld rfl rfl rfl rfl ?_
  refine nx_icmp rfl rfl (by rfl) H (fun H => ?_) (fun H => ?_)
  · exact nx_rv rfl rfl H
  refine nx_int (x := 0) rfl rfl ?_
  refine nx_st (ls' := [some (eR (some (13, 0))), some (eI v1), some (eI v2), some (eI v3), some (eI v4), some (eI 0), v6, v7, v8]) rfl rfl rfl (Nat.le_of_ble_eq_true rfl) rfl ?_
  refine nx_int (x := (-1)) rfl rfl ?_
  refine nx_st (ls' := [some (eR (some (13, 0))), some (eI v1), some (eI v2), some (eI v3), some (eI v4), some (eI 0), some (eI (-1)), v7, v8]) rfl rfl rfl (Nat.le_of_ble_eq_true rfl) rfl ?_
  refine nx_int (x := 0) rfl rfl ?_
  refine nx_st (ls' := [some (eR (some (13, 0))), some (eI v1), some (eI v2), some (eI v3), some (eI v4), some (eI 0), some (eI (-1)), some (eI 0), v8]) rfl rfl rfl (Nat.le_of_ble_eq_true rfl) rfl ?_
  exact TB_X13_findTaught_153 hW   hk138 10000 _ _ _ _ _ _ _ _ _ H
def B_X13_findTaught_138 : Nat → TS → Int32 → Int32 → Int32 → Option TS
  | 0 => fun _ _ _ _ => none
  | n + 1 => fun t v2 v3 v4 => BB_X13_findTaught_138 (B_X13_findTaught_138 n) t v2 v3 v4
theorem TB_X13_findTaught_138 {W : NW} {d : Nat} {Q : Option NV → TS → Prop} {a0 : Nat → Nat → Nat} {e0 : Nat → Nat → Bool} {bc bs : Nat} (hW : W.2.2.2 = mm_fx) : ∀ (n : Nat) (t : TS) (v1 : Int32) (v2 : Int32) (v3 : Int32) (v4 : Int32) (v5 : Option NV) (v6 : Option NV) (v7 : Option NV) (v8 : Option NV), wp (B_X13_findTaught_138 n t v2 v3 v4) (fun r => Q none r) → nX W (d + 1) tX13_findTaught Q a0 e0 138 [some (eR (some (13, 0))), some (eI v1), some (eI v2), some (eI v3), some (eI v4), v5, v6, v7, v8] [] t bc bs := by
  intro n
  induction n with
  | zero => intro t v1 v2 v3 v4 v5 v6 v7 v8 H; exact (wp_none H).elim
  | succ n ih =>
    intro t v1 v2 v3 v4 v5 v6 v7 v8 H
    exact TBB_X13_findTaught_138 hW    ih t v1 v2 v3 v4 v5 v6 v7 v8 H
def B_X13_findTaught_136 (t : TS) (v2 : Int32) (v3 : Int32) (s0 : Int32) : Option TS := (B_X13_findTaught_138  10000 t v2 v3 s0)
theorem TB_X13_findTaught_136 {W : NW} {d : Nat} {Q : Option NV → TS → Prop} {a0 : Nat → Nat → Nat} {e0 : Nat → Nat → Bool} {bc bs : Nat} (hW : W.2.2.2 = mm_fx) : ∀ (t : TS) (v1 : Int32) (v2 : Int32) (v3 : Int32) (s0 : Int32), wp (B_X13_findTaught_136 t v2 v3 s0) (fun r => Q none r) → nX W (d + 1) tX13_findTaught Q a0 e0 136 [some (eR (some (13, 0))), some (eI v1), some (eI v2), some (eI v3), none, none, none, none, none] [eI s0] t bc bs := by
  intro t v1 v2 v3 s0 H
  unfold B_X13_findTaught_136 at H
  refine nx_st (ls' := [some (eR (some (13, 0))), some (eI v1), some (eI v2), some (eI v3), some (eI s0), none, none, none, none]) rfl rfl rfl (Nat.le_of_ble_eq_true rfl) rfl ?_
  exact TB_X13_findTaught_138 hW    10000 _ _ _ _ _ _ _ _ _ H
def B_X13_findTaught_103 (t : TS) (v1 : Int32) (v2 : Int32) (s0 : Int32) : Option TS := (gd v1 (tL t 3312 0) (if (-9999) ≤ ((tA t 3312 0 v1.toNatClampNeg) + 3600) then (gd v1 (tL t 3312 0) (B_X13_findTaught_136  t v2 s0 ((tA t 3312 0 v1.toNatClampNeg) + 3600))) else (B_X13_findTaught_136  t v2 s0 (-9999))))
theorem TB_X13_findTaught_103 {W : NW} {d : Nat} {Q : Option NV → TS → Prop} {a0 : Nat → Nat → Nat} {e0 : Nat → Nat → Bool} {bc bs : Nat} (hW : W.2.2.2 = mm_fx) : ∀ (t : TS) (v1 : Int32) (v2 : Int32) (v3 : Int32) (s0 : Int32), wp (B_X13_findTaught_103 t v1 v2 s0) (fun r => Q none r) → nX W (d + 1) tX13_findTaught Q a0 e0 103 [some (eR (some (13, 0))), some (eI v1), some (eI v2), some (eI v3), none, none, none, none, none] [eI s0] t bc bs := by
  intro t v1 v2 v3 s0 H
  unfold B_X13_findTaught_103 at H
  refine nx_st (ls' := [some (eR (some (13, 0))), some (eI v1), some (eI v2), some (eI s0), none, none, none, none, none]) rfl rfl rfl (Nat.le_of_ble_eq_true rfl) rfl ?_
  refine nx_ld rfl rfl rfl rfl ?_
  refine nx_getFix rfl rfl rfl (by decide) (by rw [hW]; rfl) rfl ?_
  refine nx_ld rfl rfl rfl rfl ?_
  refine nx_iald (p := (3312, 0)) rfl rfl (Nat.le_of_ble_eq_true rfl) (Nat.le_of_ble_eq_true rfl) rfl H (fun H => ?_)
  refine nx_int (x := 3600) rfl rfl ?_
  refine nx_ii rfl rfl ?_
  show nX _ _ _ _ _ _ 114 _ _ _ _ _
  refine nx_int (x := (-9999)) rfl rfl ?_
  refine nx_icmp rfl rfl (by rfl) H (fun H => ?_) (fun H => ?_)
  · refine nx_ld rfl rfl rfl rfl ?_
    refine nx_getFix rfl rfl rfl (by decide) (by rw [hW]; rfl) rfl ?_
    refine nx_ld rfl rfl rfl rfl ?_
    refine nx_iald (p := (3312, 0)) rfl rfl (Nat.le_of_ble_eq_true rfl) (Nat.le_of_ble_eq_true rfl) rfl H (fun H => ?_)
    refine nx_int (x := 3600) rfl rfl ?_
    refine nx_ii rfl rfl ?_
    exact TB_X13_findTaught_136 hW    _ _ _ _ _ H
  refine nx_int (x := (-9999)) rfl rfl ?_
  refine nx_goto rfl rfl ?_
  exact TB_X13_findTaught_136 hW    _ _ _ _ _ H
def B_X13_findTaught_65 (t : TS) (v1 : Int32) (v2 : Int32) : Option TS := (gd v1 (tL t 3312 0) (if (tI t 1301 0) ≤ (((tA t 3312 0 v1.toNatClampNeg) + 6900) - 1) then (B_X13_findTaught_103  t v1 v2 (tI t 1301 0)) else (gd v1 (tL t 3312 0) (B_X13_findTaught_103  t v1 v2 (((tA t 3312 0 v1.toNatClampNeg) + 6900) - 1)))))
theorem TB_X13_findTaught_65 {W : NW} {d : Nat} {Q : Option NV → TS → Prop} {a0 : Nat → Nat → Nat} {e0 : Nat → Nat → Bool} {bc bs : Nat} (hW : W.2.2.2 = mm_fx) : ∀ (t : TS) (v1 : Int32) (v2 : Int32) (v3 : Int32), wp (B_X13_findTaught_65 t v1 v2) (fun r => Q none r) → nX W (d + 1) tX13_findTaught Q a0 e0 65 [some (eR (some (13, 0))), some (eI v1), some (eI v2), some (eI v3), none, none, none, none, none] [] t bc bs := by
  intro t v1 v2 v3 H
  unfold B_X13_findTaught_65 at H
  refine nx_ld rfl rfl rfl rfl ?_
  refine nx_getFix rfl rfl rfl (by decide) (by rw [hW]; rfl) rfl ?_
  refine nx_ld rfl rfl rfl rfl ?_
  refine nx_iald (p := (3312, 0)) rfl rfl (Nat.le_of_ble_eq_true rfl) (Nat.le_of_ble_eq_true rfl) rfl H (fun H => ?_)
  refine nx_int (x := 6900) rfl rfl ?_
  refine nx_ii rfl rfl ?_
  refine nx_int (x := 1) rfl rfl ?_
  show nX _ _ _ _ _ _ 76 _ _ _ _ _
  refine nx_ii rfl rfl ?_
  refine nx_ld rfl rfl rfl rfl ?_
  refine nx_getI rfl rfl rfl (by decide) ?_
  refine nx_icmp rfl rfl (by rfl) H (fun H => ?_) (fun H => ?_)
  · refine nx_ld rfl rfl rfl rfl ?_
    refine nx_getI rfl rfl rfl (by decide) ?_
    exact TB_X13_findTaught_103 hW    _ _ _ _ _ H
  refine nx_ld rfl rfl rfl rfl ?_
  refine nx_getFix rfl rfl rfl (by decide) (by rw [hW]; rfl) rfl ?_
  refine nx_ld rfl rfl rfl rfl ?_
  refine nx_iald (p := (3312, 0)) rfl rfl (Nat.le_of_ble_eq_true rfl) (Nat.le_of_ble_eq_true rfl) rfl H (fun H => ?_)
  refine nx_int (x := 6900) rfl rfl ?_
  refine nx_ii rfl rfl ?_
  refine nx_int (x := 1) rfl rfl ?_
  show nX _ _ _ _ _ _ 95 _ _ _ _ _
  refine nx_ii rfl rfl ?_
  refine nx_goto rfl rfl ?_
  exact TB_X13_findTaught_103 hW    _ _ _ _ _ H
def B_X13_findTaught_59 (k32 : TS → Int32 → Int32 → Int32 → Option TS) (t : TS) (v1 : Int32) (v2 : Int32) (v3 : Int32) : Option TS := (k32 t v1 v2 (v3 + (-1)))
theorem TB_X13_findTaught_59 {W : NW} {d : Nat} {Q : Option NV → TS → Prop} {a0 : Nat → Nat → Nat} {e0 : Nat → Nat → Bool} {k32 : TS → Int32 → Int32 → Int32 → Option TS} {bc bs : Nat} (hW : W.2.2.2 = mm_fx) (hk32 : ∀ (t : TS) (v1 : Int32) (v2 : Int32) (v3 : Int32), wp (k32 t v1 v2 v3) (fun r => Q none r) → nX W (d + 1) tX13_findTaught Q a0 e0 32 [some (eR (some (13, 0))), some (eI v1), some (eI v2), some (eI v3), none, none, none, none, none] [] t bc bs) : ∀ (t : TS) (v1 : Int32) (v2 : Int32) (v3 : Int32), wp (B_X13_findTaught_59 k32 t v1 v2 v3) (fun r => Q none r) → nX W (d + 1) tX13_findTaught Q a0 e0 59 [some (eR (some (13, 0))), some (eI v1), some (eI v2), some (eI v3), none, none, none, none, none] [] t bc bs := by
  intro t v1 v2 v3 H
  unfold B_X13_findTaught_59 at H
  refine nx_iinc2 (-1) (ls' := [some (eR (some (13, 0))), some (eI v1), some (eI v2), some (eI (v3 + (-1))), none, none, none, none, none]) rfl rfl rfl rfl rfl ?_
  refine nx_goto rfl rfl ?_
  exact hk32 _ _ _ _ H
def BB_X13_findTaught_32 (k32 : TS → Int32 → Int32 → Int32 → Option TS) (t : TS) (v1 : Int32) (v2 : Int32) (v3 : Int32) : Option TS := (if v3 < 0 then (B_X13_findTaught_65  t v1 v2) else (gd v3 (tL t 3317 0) (if (tA t 3317 0 v3.toNatClampNeg) = v1 then (gd v2 (tL t 3326 0) (nxt (uA t 3326 0 v2.toNatClampNeg v3) (fun t21 => (B_X13_findTaught_59 k32 t21 v1 (v2 + 1) v3)))) else (B_X13_findTaught_59 k32 t v1 v2 v3))))
theorem TBB_X13_findTaught_32 {W : NW} {d : Nat} {Q : Option NV → TS → Prop} {a0 : Nat → Nat → Nat} {e0 : Nat → Nat → Bool} {k32 : TS → Int32 → Int32 → Int32 → Option TS} {bc bs : Nat} (hW : W.2.2.2 = mm_fx) (hk32 : ∀ (t : TS) (v1 : Int32) (v2 : Int32) (v3 : Int32), wp (k32 t v1 v2 v3) (fun r => Q none r) → nX W (d + 1) tX13_findTaught Q a0 e0 32 [some (eR (some (13, 0))), some (eI v1), some (eI v2), some (eI v3), none, none, none, none, none] [] t bc bs) : ∀ (t : TS) (v1 : Int32) (v2 : Int32) (v3 : Int32), wp (BB_X13_findTaught_32 k32 t v1 v2 v3) (fun r => Q none r) → nX W (d + 1) tX13_findTaught Q a0 e0 32 [some (eR (some (13, 0))), some (eI v1), some (eI v2), some (eI v3), none, none, none, none, none] [] t bc bs := by
  intro t v1 v2 v3 H
  unfold BB_X13_findTaught_32 at H
  refine nx_ld rfl rfl rfl rfl ?_
  refine nx_if rfl rfl (by rfl) H (fun H => ?_) (fun H => ?_)
  · exact TB_X13_findTaught_65 hW    _ _ _ _ H
  refine nx_ld rfl rfl rfl rfl ?_
  refine nx_getFix rfl rfl rfl (by decide) (by rw [hW]; rfl) rfl ?_
  refine nx_ld rfl rfl rfl rfl ?_
  refine nx_iald (p := (3317, 0)) rfl rfl (Nat.le_of_ble_eq_true rfl) (Nat.le_of_ble_eq_true rfl) rfl H (fun H => ?_)
  refine nx_ld rfl rfl rfl rfl ?_
  refine nx_icmp rfl rfl (by rfl) H (fun H => ?_) (fun H => ?_)
  · refine nx_ld rfl rfl rfl rfl ?_
    refine nx_getFix rfl rfl rfl (by decide) (by rw [hW]; rfl) rfl ?_
    refine nx_ld rfl rfl rfl rfl ?_
    refine nx_ld rfl rfl rfl rfl ?_
    refine nx_iast (p := (3326, 0)) rfl rfl (Nat.le_of_ble_eq_true rfl) (Nat.le_of_ble_eq_true rfl) rfl H (fun t21 H => ?_)
    refine nx_iinc2 1 (ls' := [some (eR (some (13, 0))), some (eI v1), some (eI (v2 + 1)), some (eI v3), none, none, none, none, none]) rfl rfl rfl rfl rfl ?_
    exact TB_X13_findTaught_59 hW   hk32 _ _ _ _ H
  refine nx_goto rfl rfl ?_
  exact TB_X13_findTaught_59 hW   hk32 _ _ _ _ H
def B_X13_findTaught_32 : Nat → TS → Int32 → Int32 → Int32 → Option TS
  | 0 => fun _ _ _ _ => none
  | n + 1 => fun t v1 v2 v3 => BB_X13_findTaught_32 (B_X13_findTaught_32 n) t v1 v2 v3
theorem TB_X13_findTaught_32 {W : NW} {d : Nat} {Q : Option NV → TS → Prop} {a0 : Nat → Nat → Nat} {e0 : Nat → Nat → Bool} {bc bs : Nat} (hW : W.2.2.2 = mm_fx) : ∀ (n : Nat) (t : TS) (v1 : Int32) (v2 : Int32) (v3 : Int32), wp (B_X13_findTaught_32 n t v1 v2 v3) (fun r => Q none r) → nX W (d + 1) tX13_findTaught Q a0 e0 32 [some (eR (some (13, 0))), some (eI v1), some (eI v2), some (eI v3), none, none, none, none, none] [] t bc bs := by
  intro n
  induction n with
  | zero => intro t v1 v2 v3 H; exact (wp_none H).elim
  | succ n ih =>
    intro t v1 v2 v3 H
    exact TBB_X13_findTaught_32 hW    ih t v1 v2 v3 H
def B_X13_findTaught_23 (t : TS) (v1 : Int32) : Option TS := (B_X13_findTaught_32  10000 t v1 0 ((tI t 1316 0) - 1))
theorem TB_X13_findTaught_23 {W : NW} {d : Nat} {Q : Option NV → TS → Prop} {a0 : Nat → Nat → Nat} {e0 : Nat → Nat → Bool} {bc bs : Nat} (hW : W.2.2.2 = mm_fx) : ∀ (t : TS) (v1 : Int32) (v2 : Int32), wp (B_X13_findTaught_23 t v1) (fun r => Q none r) → nX W (d + 1) tX13_findTaught Q a0 e0 23 [some (eR (some (13, 0))), some (eI v1), some (eI v2), none, none, none, none, none, none] [] t bc bs := by
  intro t v1 v2 H
  unfold B_X13_findTaught_23 at H
  refine nx_int (x := 0) rfl rfl ?_
  refine nx_st (ls' := [some (eR (some (13, 0))), some (eI v1), some (eI 0), none, none, none, none, none, none]) rfl rfl rfl (Nat.le_of_ble_eq_true rfl) rfl ?_
  refine nx_ld rfl rfl rfl rfl ?_
  refine nx_getI rfl rfl rfl (by decide) ?_
  refine nx_int (x := 1) rfl rfl ?_
  refine nx_ii rfl rfl ?_
  refine nx_st (ls' := [some (eR (some (13, 0))), some (eI v1), some (eI 0), some (eI ((tI t 1316 0) - 1)), none, none, none, none, none]) rfl rfl rfl (Nat.le_of_ble_eq_true rfl) rfl ?_
  exact TB_X13_findTaught_32 hW    10000 _ _ _ _ H
def BB_X13_findTaught_2 (k2 : TS → Int32 → Int32 → Option TS) (t : TS) (v1 : Int32) (v2 : Int32) : Option TS := (if (tI t 1307 0) ≤ v2 then (B_X13_findTaught_23  t v1) else (gd v2 (tL t 3325 0) (nxt (uA t 3325 0 v2.toNatClampNeg 0) (fun t21 => (k2 t21 v1 (v2 + 1))))))
theorem TBB_X13_findTaught_2 {W : NW} {d : Nat} {Q : Option NV → TS → Prop} {a0 : Nat → Nat → Nat} {e0 : Nat → Nat → Bool} {k2 : TS → Int32 → Int32 → Option TS} {bc bs : Nat} (hW : W.2.2.2 = mm_fx) (hk2 : ∀ (t : TS) (v1 : Int32) (v2 : Int32), wp (k2 t v1 v2) (fun r => Q none r) → nX W (d + 1) tX13_findTaught Q a0 e0 2 [some (eR (some (13, 0))), some (eI v1), some (eI v2), none, none, none, none, none, none] [] t bc bs) : ∀ (t : TS) (v1 : Int32) (v2 : Int32), wp (BB_X13_findTaught_2 k2 t v1 v2) (fun r => Q none r) → nX W (d + 1) tX13_findTaught Q a0 e0 2 [some (eR (some (13, 0))), some (eI v1), some (eI v2), none, none, none, none, none, none] [] t bc bs := by
  intro t v1 v2 H
  unfold BB_X13_findTaught_2 at H
  refine nx_ld rfl rfl rfl rfl ?_
  refine nx_ld rfl rfl rfl rfl ?_
  refine nx_getI rfl rfl rfl (by decide) ?_
  refine nx_icmp rfl rfl (by rfl) H (fun H => ?_) (fun H => ?_)
  · exact TB_X13_findTaught_23 hW    _ _ _ H
  refine nx_ld rfl rfl rfl rfl ?_
  refine nx_getFix rfl rfl rfl (by decide) (by rw [hW]; rfl) rfl ?_
  refine nx_ld rfl rfl rfl rfl ?_
  refine nx_int (x := 0) rfl rfl ?_
  refine nx_iast (p := (3325, 0)) rfl rfl (Nat.le_of_ble_eq_true rfl) (Nat.le_of_ble_eq_true rfl) rfl H (fun t21 H => ?_)
  refine nx_iinc2 1 (ls' := [some (eR (some (13, 0))), some (eI v1), some (eI (v2 + 1)), none, none, none, none, none, none]) rfl rfl rfl rfl rfl ?_
  refine nx_goto rfl rfl ?_
  exact hk2 _ _ _ H
def B_X13_findTaught_2 : Nat → TS → Int32 → Int32 → Option TS
  | 0 => fun _ _ _ => none
  | n + 1 => fun t v1 v2 => BB_X13_findTaught_2 (B_X13_findTaught_2 n) t v1 v2
theorem TB_X13_findTaught_2 {W : NW} {d : Nat} {Q : Option NV → TS → Prop} {a0 : Nat → Nat → Nat} {e0 : Nat → Nat → Bool} {bc bs : Nat} (hW : W.2.2.2 = mm_fx) : ∀ (n : Nat) (t : TS) (v1 : Int32) (v2 : Int32), wp (B_X13_findTaught_2 n t v1 v2) (fun r => Q none r) → nX W (d + 1) tX13_findTaught Q a0 e0 2 [some (eR (some (13, 0))), some (eI v1), some (eI v2), none, none, none, none, none, none] [] t bc bs := by
  intro n
  induction n with
  | zero => intro t v1 v2 H; exact (wp_none H).elim
  | succ n ih =>
    intro t v1 v2 H
    exact TBB_X13_findTaught_2 hW    ih t v1 v2 H
def F_X13_findTaught (t : TS) (x1 : Int32) : Option TS := (B_X13_findTaught_2  10000 t x1 0)
theorem TF_X13_findTaught {W : NW} {d : Nat} {t : TS} {x1 : Int32} {Q : Option NV → TS → Prop} {bc bs : Nat} (hW : W.2.2.2 = mm_fx) (H : wp (F_X13_findTaught t x1) (fun r => Q none r)) : nC W (d + 2) 186 [eR (some (13, 0)), eI x1] t bc bs Q := by
  refine nC_in (d := (d + 1)) (T := tX13_findTaught) (ls := [some (eR (some (13, 0))), some (eI x1), none, none, none, none, none, none, none]) rfl (Nat.le_of_ble_eq_true rfl) rfl (fun a0 e0 => ?_)
  unfold F_X13_findTaught at H
  refine nx_int (x := 0) rfl rfl ?_
  refine nx_st (ls' := [some (eR (some (13, 0))), some (eI x1), some (eI 0), none, none, none, none, none, none]) rfl rfl rfl (Nat.le_of_ble_eq_true rfl) rfl ?_
  exact TB_X13_findTaught_2 hW    10000 _ _ _ H
def F_X13_taught (t : TS) (x1 : Int32) (x2 : Int32) : Option (Int32 × TS) := (Option.bind (F_X13_isPlayer t x1) (fun r21 => (if r21 = 0 then (some ((-1), t)) else (Option.bind (F_X13_isClub t x2) (fun r22 => (if ¬ r22 = 0 then (Option.bind (F_X13_findTaught t x1) (fun r23 => (gd x2 (tL r23 3325 0) (some ((tA r23 3325 0 x2.toNatClampNeg), r23))))) else (some ((-1), t))))))))
theorem TF_X13_taught {W : NW} {d : Nat} {t : TS} {x1 : Int32} {x2 : Int32} {Q : Option NV → TS → Prop} {bc bs : Nat} (hW : W.2.2.2 = mm_fx) (H : wp (F_X13_taught t x1 x2) (fun r => Q (some (eI r.1)) r.2)) : nC W (d + 4) 187 [eR (some (13, 0)), eI x1, eI x2] t bc bs Q := by
  refine nC_in (d := (d + 3)) (T := tX13_taught) (ls := [some (eR (some (13, 0))), some (eI x1), some (eI x2)]) rfl (Nat.le_of_ble_eq_true rfl) rfl (fun a0 e0 => ?_)
  unfold F_X13_taught at H
  refine nx_ld rfl rfl rfl rfl ?_
  refine nx_ld rfl rfl rfl rfl ?_
  refine nx_cVI (as := [eI x1]) (st' := []) rfl rfl (Nat.le_of_ble_eq_true rfl) rfl rfl (Nat.le_of_ble_eq_true rfl) (c0 := 13) rfl (by decide) H (fun Q H => TF_X13_isPlayer hW  H) (fun r21 H => ?_)
  refine nx_if rfl rfl (by rfl) H (fun H => ?_) (fun H => ?_)
  · refine nx_int (x := (-1)) rfl rfl ?_
    exact nx_rit rfl rfl H
  refine nx_ld rfl rfl rfl rfl ?_
  refine nx_ld rfl rfl rfl rfl ?_
  refine nx_cVI (as := [eI x2]) (st' := []) rfl rfl (Nat.le_of_ble_eq_true rfl) rfl rfl (Nat.le_of_ble_eq_true rfl) (c0 := 13) rfl (by decide) H (fun Q H => TF_X13_isClub hW  H) (fun r22 H => ?_)
  refine nx_if rfl rfl (by rfl) H (fun H => ?_) (fun H => ?_)
  · refine nx_ld rfl rfl rfl rfl ?_
    refine nx_ld rfl rfl rfl rfl ?_
    refine nx_cVVt (as := [eI x1]) (st' := []) rfl rfl (Nat.le_of_ble_eq_true rfl) rfl rfl (Nat.le_of_ble_eq_true rfl) (c0 := 13) rfl (by decide) H (fun Q H => TF_X13_findTaught hW  H) (fun r23 H => ?_)
    refine nx_ld rfl rfl rfl rfl ?_
    refine nx_getFix rfl rfl rfl (by decide) (by rw [hW]; rfl) rfl ?_
    refine nx_ld rfl rfl rfl rfl ?_
    refine nx_iald (p := (3325, 0)) rfl rfl (Nat.le_of_ble_eq_true rfl) (Nat.le_of_ble_eq_true rfl) rfl H (fun H => ?_)
    show nX _ _ _ _ _ _ 29 _ _ _ _ _
    exact nx_rit rfl rfl H
  refine nx_int (x := (-1)) rfl rfl ?_
  exact nx_rit rfl rfl H
def B_X13_isHomeGrown_59 (t : TS) (v3 : Int32) : Option (Int32 × TS) := (if v3 < 900 then (some (0, t)) else (some (1, t)))
theorem TB_X13_isHomeGrown_59 {W : NW} {d : Nat} {Q : Option NV → TS → Prop} {a0 : Nat → Nat → Nat} {e0 : Nat → Nat → Bool} {bc bs : Nat} (hW : W.2.2.2 = mm_fx) : ∀ (t : TS) (v1 : Int32) (v2 : Int32) (v3 : Int32) (v4 : Int32), wp (B_X13_isHomeGrown_59 t v3) (fun r => Q (some (eI r.1)) r.2) → nX W (d + 3) tX13_isHomeGrown Q a0 e0 59 [some (eR (some (13, 0))), some (eI v1), some (eI v2), some (eI v3), some (eI v4)] [] t bc bs := by
  intro t v1 v2 v3 v4 H
  unfold B_X13_isHomeGrown_59 at H
  refine nx_ld rfl rfl rfl rfl ?_
  refine nx_int (x := 900) rfl rfl ?_
  refine nx_icmp rfl rfl (by rfl) H (fun H => ?_) (fun H => ?_)
  · refine nx_int (x := 0) rfl rfl ?_
    exact nx_rzlt rfl rfl (by decide) H
  refine nx_int (x := 1) rfl rfl ?_
  refine nx_goto rfl rfl ?_
  exact nx_rzlt rfl rfl (by decide) H
def B_X13_isHomeGrown_51 (k10 : TS → Int32 → Int32 → Int32 → Option (Int32 × TS)) (t : TS) (v2 : Int32) (v4 : Int32) (s0 : Int32) (s1 : Int32) : Option (Int32 × TS) := (k10 t v2 (s1 + s0) (v4 + 1))
theorem TB_X13_isHomeGrown_51 {W : NW} {d : Nat} {Q : Option NV → TS → Prop} {a0 : Nat → Nat → Nat} {e0 : Nat → Nat → Bool} {k10 : TS → Int32 → Int32 → Int32 → Option (Int32 × TS)} {bc bs : Nat} (hW : W.2.2.2 = mm_fx) (hk10 : ∀ (t : TS) (v1 : Int32) (v2 : Int32) (v3 : Int32) (v4 : Int32), wp (k10 t v2 v3 v4) (fun r => Q (some (eI r.1)) r.2) → nX W (d + 3) tX13_isHomeGrown Q a0 e0 10 [some (eR (some (13, 0))), some (eI v1), some (eI v2), some (eI v3), some (eI v4)] [] t bc bs) : ∀ (t : TS) (v1 : Int32) (v2 : Int32) (v3 : Int32) (v4 : Int32) (s0 : Int32) (s1 : Int32), wp (B_X13_isHomeGrown_51 k10 t v2 v4 s0 s1) (fun r => Q (some (eI r.1)) r.2) → nX W (d + 3) tX13_isHomeGrown Q a0 e0 51 [some (eR (some (13, 0))), some (eI v1), some (eI v2), some (eI v3), some (eI v4)] [eI s0, eI s1] t bc bs := by
  intro t v1 v2 v3 v4 s0 s1 H
  unfold B_X13_isHomeGrown_51 at H
  refine nx_ii rfl rfl ?_
  refine nx_st (ls' := [some (eR (some (13, 0))), some (eI v1), some (eI v2), some (eI (s1 + s0)), some (eI v4)]) rfl rfl rfl (Nat.le_of_ble_eq_true rfl) rfl ?_
  refine nx_iinc2 1 (ls' := [some (eR (some (13, 0))), some (eI v1), some (eI v2), some (eI (s1 + s0)), some (eI (v4 + 1))]) rfl rfl rfl rfl rfl ?_
  refine nx_goto rfl rfl ?_
  exact hk10 _ _ _ _ _ H
def B_X13_isHomeGrown_50 (k10 : TS → Int32 → Int32 → Int32 → Option (Int32 × TS)) (t : TS) (v2 : Int32) (v4 : Int32) (s0 : Int32) : Option (Int32 × TS) := (B_X13_isHomeGrown_51 k10 t v2 v4 0 s0)
theorem TB_X13_isHomeGrown_50 {W : NW} {d : Nat} {Q : Option NV → TS → Prop} {a0 : Nat → Nat → Nat} {e0 : Nat → Nat → Bool} {k10 : TS → Int32 → Int32 → Int32 → Option (Int32 × TS)} {bc bs : Nat} (hW : W.2.2.2 = mm_fx) (hk10 : ∀ (t : TS) (v1 : Int32) (v2 : Int32) (v3 : Int32) (v4 : Int32), wp (k10 t v2 v3 v4) (fun r => Q (some (eI r.1)) r.2) → nX W (d + 3) tX13_isHomeGrown Q a0 e0 10 [some (eR (some (13, 0))), some (eI v1), some (eI v2), some (eI v3), some (eI v4)] [] t bc bs) : ∀ (t : TS) (v1 : Int32) (v2 : Int32) (v3 : Int32) (v4 : Int32) (s0 : Int32), wp (B_X13_isHomeGrown_50 k10 t v2 v4 s0) (fun r => Q (some (eI r.1)) r.2) → nX W (d + 3) tX13_isHomeGrown Q a0 e0 50 [some (eR (some (13, 0))), some (eI v1), some (eI v2), some (eI v3), some (eI v4)] [eI s0] t bc bs := by
  intro t v1 v2 v3 v4 s0 H
  unfold B_X13_isHomeGrown_50 at H
  refine nx_int (x := 0) rfl rfl ?_
  exact TB_X13_isHomeGrown_51 hW   hk10 _ _ _ _ _ _ _ H
def BB_X13_isHomeGrown_10 (k10 : TS → Int32 → Int32 → Int32 → Option (Int32 × TS)) (t : TS) (v2 : Int32) (v3 : Int32) (v4 : Int32) : Option (Int32 × TS) := (if (tI t 1307 0) ≤ v4 then (B_X13_isHomeGrown_59  t v3) else (Option.bind (F_X13_isClub t v4) (fun r21 => (if r21 = 0 then (B_X13_isHomeGrown_50 k10 t v2 v4 v3) else (gd v4 (tL t 3309 0) (if ¬ (tA t 3309 0 v4.toNatClampNeg) = v2 then (B_X13_isHomeGrown_50 k10 t v2 v4 v3) else (gd v4 (tL t 3325 0) (B_X13_isHomeGrown_51 k10 t v2 v4 (tA t 3325 0 v4.toNatClampNeg) v3))))))))
theorem TBB_X13_isHomeGrown_10 {W : NW} {d : Nat} {Q : Option NV → TS → Prop} {a0 : Nat → Nat → Nat} {e0 : Nat → Nat → Bool} {k10 : TS → Int32 → Int32 → Int32 → Option (Int32 × TS)} {bc bs : Nat} (hW : W.2.2.2 = mm_fx) (hk10 : ∀ (t : TS) (v1 : Int32) (v2 : Int32) (v3 : Int32) (v4 : Int32), wp (k10 t v2 v3 v4) (fun r => Q (some (eI r.1)) r.2) → nX W (d + 3) tX13_isHomeGrown Q a0 e0 10 [some (eR (some (13, 0))), some (eI v1), some (eI v2), some (eI v3), some (eI v4)] [] t bc bs) : ∀ (t : TS) (v1 : Int32) (v2 : Int32) (v3 : Int32) (v4 : Int32), wp (BB_X13_isHomeGrown_10 k10 t v2 v3 v4) (fun r => Q (some (eI r.1)) r.2) → nX W (d + 3) tX13_isHomeGrown Q a0 e0 10 [some (eR (some (13, 0))), some (eI v1), some (eI v2), some (eI v3), some (eI v4)] [] t bc bs := by
  intro t v1 v2 v3 v4 H
  unfold BB_X13_isHomeGrown_10 at H
  refine nx_ld rfl rfl rfl rfl ?_
  refine nx_ld rfl rfl rfl rfl ?_
  refine nx_getI rfl rfl rfl (by decide) ?_
  refine nx_icmp rfl rfl (by rfl) H (fun H => ?_) (fun H => ?_)
  · exact TB_X13_isHomeGrown_59 hW    _ _ _ _ _ H
  refine nx_ld rfl rfl rfl rfl ?_
  refine nx_ld rfl rfl rfl rfl ?_
  refine nx_ld rfl rfl rfl rfl ?_
  refine nx_cVI (as := [eI v4]) (st' := [eI v3]) rfl rfl (Nat.le_of_ble_eq_true rfl) rfl rfl (Nat.le_of_ble_eq_true rfl) (c0 := 13) rfl (by decide) H (fun Q H => TF_X13_isClub hW  H) (fun r21 H => ?_)
  refine nx_if rfl rfl (by rfl) H (fun H => ?_) (fun H => ?_)
  · exact TB_X13_isHomeGrown_50 hW   hk10 _ _ _ _ _ _ H
  refine nx_ld rfl rfl rfl rfl ?_
  refine nx_getFix rfl rfl rfl (by decide) (by rw [hW]; rfl) rfl ?_
  refine nx_ld rfl rfl rfl rfl ?_
  refine nx_iald (p := (3309, 0)) rfl rfl (Nat.le_of_ble_eq_true rfl) (Nat.le_of_ble_eq_true rfl) rfl H (fun H => ?_)
  refine nx_ld rfl rfl rfl rfl ?_
  refine nx_icmp rfl rfl (by rfl) H (fun H => ?_) (fun H => ?_)
  · exact TB_X13_isHomeGrown_50 hW   hk10 _ _ _ _ _ _ H
  refine nx_ld rfl rfl rfl rfl ?_
  refine nx_getFix rfl rfl rfl (by decide) (by rw [hW]; rfl) rfl ?_
  refine nx_ld rfl rfl rfl rfl ?_
  refine nx_iald (p := (3325, 0)) rfl rfl (Nat.le_of_ble_eq_true rfl) (Nat.le_of_ble_eq_true rfl) rfl H (fun H => ?_)
  refine nx_goto rfl rfl ?_
  exact TB_X13_isHomeGrown_51 hW   hk10 _ _ _ _ _ _ _ H
def B_X13_isHomeGrown_10 : Nat → TS → Int32 → Int32 → Int32 → Option (Int32 × TS)
  | 0 => fun _ _ _ _ => none
  | n + 1 => fun t v2 v3 v4 => BB_X13_isHomeGrown_10 (B_X13_isHomeGrown_10 n) t v2 v3 v4
theorem TB_X13_isHomeGrown_10 {W : NW} {d : Nat} {Q : Option NV → TS → Prop} {a0 : Nat → Nat → Nat} {e0 : Nat → Nat → Bool} {bc bs : Nat} (hW : W.2.2.2 = mm_fx) : ∀ (n : Nat) (t : TS) (v1 : Int32) (v2 : Int32) (v3 : Int32) (v4 : Int32), wp (B_X13_isHomeGrown_10 n t v2 v3 v4) (fun r => Q (some (eI r.1)) r.2) → nX W (d + 3) tX13_isHomeGrown Q a0 e0 10 [some (eR (some (13, 0))), some (eI v1), some (eI v2), some (eI v3), some (eI v4)] [] t bc bs := by
  intro n
  induction n with
  | zero => intro t v1 v2 v3 v4 H; exact (wp_none H).elim
  | succ n ih =>
    intro t v1 v2 v3 v4 H
    exact TBB_X13_isHomeGrown_10 hW    ih t v1 v2 v3 v4 H
def F_X13_isHomeGrown (t : TS) (x1 : Int32) (x2 : Int32) : Option (Int32 × TS) := (Option.bind (F_X13_findTaught t x1) (fun r21 => (B_X13_isHomeGrown_10  10000 r21 x2 0 0)))
theorem TF_X13_isHomeGrown {W : NW} {d : Nat} {t : TS} {x1 : Int32} {x2 : Int32} {Q : Option NV → TS → Prop} {bc bs : Nat} (hW : W.2.2.2 = mm_fx) (H : wp (F_X13_isHomeGrown t x1 x2) (fun r => Q (some (eI r.1)) r.2)) : nC W (d + 4) 188 [eR (some (13, 0)), eI x1, eI x2] t bc bs Q := by
  refine nC_in (d := (d + 3)) (T := tX13_isHomeGrown) (ls := [some (eR (some (13, 0))), some (eI x1), some (eI x2), none, none]) rfl (Nat.le_of_ble_eq_true rfl) rfl (fun a0 e0 => ?_)
  unfold F_X13_isHomeGrown at H
  refine nx_ld rfl rfl rfl rfl ?_
  refine nx_ld rfl rfl rfl rfl ?_
  refine nx_cVVt (as := [eI x1]) (st' := []) rfl rfl (Nat.le_of_ble_eq_true rfl) rfl rfl (Nat.le_of_ble_eq_true rfl) (c0 := 13) rfl (by decide) H (fun Q H => TF_X13_findTaught hW  H) (fun r21 H => ?_)
  refine nx_int (x := 0) rfl rfl ?_
  refine nx_st (ls' := [some (eR (some (13, 0))), some (eI x1), some (eI x2), some (eI 0), none]) rfl rfl rfl (Nat.le_of_ble_eq_true rfl) rfl ?_
  refine nx_int (x := 0) rfl rfl ?_
  refine nx_st (ls' := [some (eR (some (13, 0))), some (eI x1), some (eI x2), some (eI 0), some (eI 0)]) rfl rfl rfl (Nat.le_of_ble_eq_true rfl) rfl ?_
  exact TB_X13_isHomeGrown_10 hW    10000 _ _ _ _ _ H
def B_X13_mostTerm_15 (t : TS) : Option Int32 := (some (999999))
theorem TB_X13_mostTerm_15 {W : NW} {d : Nat} {Q : Option NV → TS → Prop} {a0 : Nat → Nat → Nat} {e0 : Nat → Nat → Bool} {t : TS} {bc bs : Nat} (hW : W.2.2.2 = mm_fx) : ∀ (v0 : Int32), wp (B_X13_mostTerm_15 t) (fun r => Q (some (eI r)) t) → nX W d tX13_mostTerm Q a0 e0 15 [some (eI v0)] [] t bc bs := by
  intro v0 H
  unfold B_X13_mostTerm_15 at H
  refine nx_int (x := 999999) rfl rfl ?_
  refine nx_goto rfl rfl ?_
  exact nx_ri rfl rfl H
def B_X13_mostTerm_32 (t : TS) : Option Int32 := (some (2999))
theorem TB_X13_mostTerm_32 {W : NW} {d : Nat} {Q : Option NV → TS → Prop} {a0 : Nat → Nat → Nat} {e0 : Nat → Nat → Bool} {t : TS} {bc bs : Nat} (hW : W.2.2.2 = mm_fx) : ∀ (v0 : Int32), wp (B_X13_mostTerm_32 t) (fun r => Q (some (eI r)) t) → nX W d tX13_mostTerm Q a0 e0 32 [some (eI v0)] [] t bc bs := by
  intro v0 H
  unfold B_X13_mostTerm_32 at H
  refine nx_int (x := 2999) rfl rfl ?_
  refine nx_goto rfl rfl ?_
  exact nx_ri rfl rfl H
def F_X13_mostTerm (t : TS) (x1 : Int32) : Option Int32 := (if x1 = 0 then (B_X13_mostTerm_15  t) else (if x1 = 5 then (B_X13_mostTerm_15  t) else (if ¬ x1 = 8 then (if x1 = 1 then (B_X13_mostTerm_32  t) else (if ¬ x1 = 7 then (if ¬ x1 = 2 then (if ¬ x1 = 3 then (if ¬ x1 = 4 then (some (999)) else (some (50))) else (some (5))) else (some (99999))) else (B_X13_mostTerm_32  t))) else (B_X13_mostTerm_15  t))))
theorem TF_X13_mostTerm {W : NW} {d : Nat} {t : TS} {x1 : Int32} {Q : Option NV → TS → Prop} {bc bs : Nat} (hW : W.2.2.2 = mm_fx) (H : wp (F_X13_mostTerm t x1) (fun r => Q (some (eI r)) t)) : nC W (d + 1) 189 [eI x1] t bc bs Q := by
  refine nC_in (d := d) (T := tX13_mostTerm) (ls := [some (eI x1)]) rfl (Nat.le_of_ble_eq_true rfl) rfl (fun a0 e0 => ?_)
  unfold F_X13_mostTerm at H
  refine nx_ld rfl rfl rfl rfl ?_
  refine nx_if rfl rfl (by rfl) H (fun H => ?_) (fun H => ?_)
  · exact TB_X13_mostTerm_15 hW    _ H
  refine nx_ld rfl rfl rfl rfl ?_
  refine nx_int (x := 5) rfl rfl ?_
  refine nx_icmp rfl rfl (by rfl) H (fun H => ?_) (fun H => ?_)
  · exact TB_X13_mostTerm_15 hW    _ H
  refine nx_ld rfl rfl rfl rfl ?_
  refine nx_int (x := 8) rfl rfl ?_
  refine nx_icmp rfl rfl (by rfl) H (fun H => ?_) (fun H => ?_)
  · refine nx_ld rfl rfl rfl rfl ?_
    refine nx_int (x := 1) rfl rfl ?_
    refine nx_icmp rfl rfl (by rfl) H (fun H => ?_) (fun H => ?_)
    · exact TB_X13_mostTerm_32 hW    _ H
    refine nx_ld rfl rfl rfl rfl ?_
    refine nx_int (x := 7) rfl rfl ?_
    refine nx_icmp rfl rfl (by rfl) H (fun H => ?_) (fun H => ?_)
    · refine nx_ld rfl rfl rfl rfl ?_
      refine nx_int (x := 2) rfl rfl ?_
      refine nx_icmp rfl rfl (by rfl) H (fun H => ?_) (fun H => ?_)
      · refine nx_ld rfl rfl rfl rfl ?_
        refine nx_int (x := 3) rfl rfl ?_
        refine nx_icmp rfl rfl (by rfl) H (fun H => ?_) (fun H => ?_)
        · refine nx_ld rfl rfl rfl rfl ?_
          refine nx_int (x := 4) rfl rfl ?_
          refine nx_icmp rfl rfl (by rfl) H (fun H => ?_) (fun H => ?_)
          · refine nx_int (x := 999) rfl rfl ?_
            exact nx_ri rfl rfl H
          refine nx_int (x := 50) rfl rfl ?_
          refine nx_goto rfl rfl ?_
          exact nx_ri rfl rfl H
        refine nx_int (x := 5) rfl rfl ?_
        refine nx_goto rfl rfl ?_
        exact nx_ri rfl rfl H
      refine nx_int (x := 99999) rfl rfl ?_
      refine nx_goto rfl rfl ?_
      exact nx_ri rfl rfl H
    exact TB_X13_mostTerm_32 hW    _ H
  exact TB_X13_mostTerm_15 hW    _ H
def B_X13_term_27 (t : TS) (v1 : Int32) (v2 : Int32) (s0 : Int32) (s1 : Int32) : Option (Int32 × TS) := (Option.bind (F_X13_mostTerm t v1) (fun r21 => (Option.bind (F_X13_in t s1 s0 r21) (fun r22 => (if ¬ r22 = 0 then (gd v1 (tL t 3349 0) (gd v1 (tL t 3349 0) (nxt (uA t 3349 0 v1.toNatClampNeg v2) (fun t23 => (some ((tA t 3349 0 v1.toNatClampNeg), t23)))))) else (some ((-1), t)))))))
theorem TB_X13_term_27 {W : NW} {d : Nat} {Q : Option NV → TS → Prop} {a0 : Nat → Nat → Nat} {e0 : Nat → Nat → Bool} {bc bs : Nat} (hW : W.2.2.2 = mm_fx) : ∀ (t : TS) (v1 : Int32) (v2 : Int32) (s0 : Int32) (s1 : Int32), wp (B_X13_term_27 t v1 v2 s0 s1) (fun r => Q (some (eI r.1)) r.2) → nX W (d + 1) tX13_term Q a0 e0 27 [some (eR (some (13, 0))), some (eI v1), some (eI v2), none] [eI s0, eI s1] t bc bs := by
  intro t v1 v2 s0 s1 H
  unfold B_X13_term_27 at H
  refine nx_ld rfl rfl rfl rfl ?_
  refine nx_cSI (as := [eI v1]) (st' := [eI s0, eI s1]) rfl rfl (Nat.le_of_ble_eq_true rfl) rfl rfl (Nat.le_of_ble_eq_true rfl) H (fun Q H => TF_X13_mostTerm hW  H) (fun r21 H => ?_)
  refine nx_cSI (as := [eI s1, eI s0, eI r21]) (st' := []) rfl rfl (Nat.le_of_ble_eq_true rfl) rfl rfl (Nat.le_of_ble_eq_true rfl) H (fun Q H => TF_X13_in hW  H) (fun r22 H => ?_)
  refine nx_if rfl rfl (by rfl) H (fun H => ?_) (fun H => ?_)
  · refine nx_ld rfl rfl rfl rfl ?_
    refine nx_getFix rfl rfl rfl (by decide) (by rw [hW]; rfl) rfl ?_
    refine nx_ld rfl rfl rfl rfl ?_
    refine nx_iald (p := (3349, 0)) rfl rfl (Nat.le_of_ble_eq_true rfl) (Nat.le_of_ble_eq_true rfl) rfl H (fun H => ?_)
    refine nx_st (ls' := [some (eR (some (13, 0))), some (eI v1), some (eI v2), some (eI (tA t 3349 0 v1.toNatClampNeg))]) rfl rfl rfl (Nat.le_of_ble_eq_true rfl) rfl ?_
    refine nx_ld rfl rfl rfl rfl ?_
    refine nx_getFix rfl rfl rfl (by decide) (by rw [hW]; rfl) rfl ?_
    show nX _ _ _ _ _ _ 50 _ _ _ _ _
    refine nx_ld rfl rfl rfl rfl ?_
    refine nx_ld rfl rfl rfl rfl ?_
    refine nx_iast (p := (3349, 0)) rfl rfl (Nat.le_of_ble_eq_true rfl) (Nat.le_of_ble_eq_true rfl) rfl H (fun t23 H => ?_)
    refine nx_ld rfl rfl rfl rfl ?_
    exact nx_rit rfl rfl H
  refine nx_int (x := (-1)) rfl rfl ?_
  exact nx_rit rfl rfl H
def B_X13_term_22 (t : TS) (v1 : Int32) (v2 : Int32) (s0 : Int32) : Option (Int32 × TS) := (B_X13_term_27  t v1 v2 1 s0)
theorem TB_X13_term_22 {W : NW} {d : Nat} {Q : Option NV → TS → Prop} {a0 : Nat → Nat → Nat} {e0 : Nat → Nat → Bool} {bc bs : Nat} (hW : W.2.2.2 = mm_fx) : ∀ (t : TS) (v1 : Int32) (v2 : Int32) (s0 : Int32), wp (B_X13_term_22 t v1 v2 s0) (fun r => Q (some (eI r.1)) r.2) → nX W (d + 1) tX13_term Q a0 e0 22 [some (eR (some (13, 0))), some (eI v1), some (eI v2), none] [eI s0] t bc bs := by
  intro t v1 v2 s0 H
  unfold B_X13_term_22 at H
  refine nx_int (x := 1) rfl rfl ?_
  refine nx_goto rfl rfl ?_
  exact TB_X13_term_27 hW    _ _ _ _ _ H
def F_X13_term (t : TS) (x1 : Int32) (x2 : Int32) : Option (Int32 × TS) := (Option.bind (F_X13_in t x1 0 8) (fun r21 => (if r21 = 0 then (some ((-1), t)) else (if x1 = 3 then (B_X13_term_22  t x1 x2 x2) else (if ¬ x1 = 6 then (B_X13_term_27  t x1 x2 0 x2) else (B_X13_term_22  t x1 x2 x2))))))
theorem TF_X13_term {W : NW} {d : Nat} {t : TS} {x1 : Int32} {x2 : Int32} {Q : Option NV → TS → Prop} {bc bs : Nat} (hW : W.2.2.2 = mm_fx) (H : wp (F_X13_term t x1 x2) (fun r => Q (some (eI r.1)) r.2)) : nC W (d + 2) 190 [eR (some (13, 0)), eI x1, eI x2] t bc bs Q := by
  refine nC_in (d := (d + 1)) (T := tX13_term) (ls := [some (eR (some (13, 0))), some (eI x1), some (eI x2), none]) rfl (Nat.le_of_ble_eq_true rfl) rfl (fun a0 e0 => ?_)
  unfold F_X13_term at H
  refine nx_ld rfl rfl rfl rfl ?_
  refine nx_int (x := 0) rfl rfl ?_
  refine nx_int (x := 8) rfl rfl ?_
  refine nx_cSI (as := [eI x1, eI 0, eI 8]) (st' := []) rfl rfl (Nat.le_of_ble_eq_true rfl) rfl rfl (Nat.le_of_ble_eq_true rfl) H (fun Q H => TF_X13_in hW  H) (fun r21 H => ?_)
  refine nx_if rfl rfl (by rfl) H (fun H => ?_) (fun H => ?_)
  · refine nx_int (x := (-1)) rfl rfl ?_
    exact nx_rit rfl rfl H
  refine nx_ld rfl rfl rfl rfl ?_
  refine nx_ld rfl rfl rfl rfl ?_
  refine nx_int (x := 3) rfl rfl ?_
  refine nx_icmp rfl rfl (by rfl) H (fun H => ?_) (fun H => ?_)
  · exact TB_X13_term_22 hW    _ _ _ _ H
  refine nx_ld rfl rfl rfl rfl ?_
  refine nx_int (x := 6) rfl rfl ?_
  refine nx_icmp rfl rfl (by rfl) H (fun H => ?_) (fun H => ?_)
  · refine nx_int (x := 0) rfl rfl ?_
    exact TB_X13_term_27 hW    _ _ _ _ _ H
  exact TB_X13_term_22 hW    _ _ _ _ H
def B_X13_forceOf_49 (k8 : TS → Int32 → Int32 → Int32 → Int32 → Option Int32) (t : TS) (v1 : Int32) (v2 : Int32) (v3 : Int32) (v4 : Int32) : Option Int32 := (k8 t v1 v2 v3 (v4 + (-1)))
theorem TB_X13_forceOf_49 {W : NW} {d : Nat} {Q : Option NV → TS → Prop} {a0 : Nat → Nat → Nat} {e0 : Nat → Nat → Bool} {t : TS} {k8 : TS → Int32 → Int32 → Int32 → Int32 → Option Int32} {bc bs : Nat} (hW : W.2.2.2 = mm_fx) (hk8 : ∀ (v1 : Int32) (v2 : Int32) (v3 : Int32) (v4 : Int32), wp (k8 t v1 v2 v3 v4) (fun r => Q (some (eI r)) t) → nX W d tX13_forceOf Q a0 e0 8 [some (eR (some (13, 0))), some (eI v1), some (eI v2), some (eI v3), some (eI v4)] [] t bc bs) : ∀ (v1 : Int32) (v2 : Int32) (v3 : Int32) (v4 : Int32), wp (B_X13_forceOf_49 k8 t v1 v2 v3 v4) (fun r => Q (some (eI r)) t) → nX W d tX13_forceOf Q a0 e0 49 [some (eR (some (13, 0))), some (eI v1), some (eI v2), some (eI v3), some (eI v4)] [] t bc bs := by
  intro v1 v2 v3 v4 H
  unfold B_X13_forceOf_49 at H
  refine nx_iinc2 (-1) (ls' := [some (eR (some (13, 0))), some (eI v1), some (eI v2), some (eI v3), some (eI (v4 + (-1)))]) rfl rfl rfl rfl rfl ?_
  refine nx_goto rfl rfl ?_
  exact hk8 _ _ _ _ H
def BB_X13_forceOf_8 (k8 : TS → Int32 → Int32 → Int32 → Int32 → Option Int32) (t : TS) (v1 : Int32) (v2 : Int32) (v3 : Int32) (v4 : Int32) : Option Int32 := (if v4 < 0 then (some ((-2))) else (gd v4 (tL t 3356 0) (if ¬ (tA t 3356 0 v4.toNatClampNeg) = v1 then (B_X13_forceOf_49 k8 t v1 v2 v3 v4) else (gd v4 (tL t 3357 0) (if v3 < (tA t 3357 0 v4.toNatClampNeg) then (B_X13_forceOf_49 k8 t v1 v2 v3 v4) else (gd v4 (tL t 3358 0) (if v2 < (tA t 3358 0 v4.toNatClampNeg) then (B_X13_forceOf_49 k8 t v1 v2 v3 v4) else (some (v4)))))))))
theorem TBB_X13_forceOf_8 {W : NW} {d : Nat} {Q : Option NV → TS → Prop} {a0 : Nat → Nat → Nat} {e0 : Nat → Nat → Bool} {t : TS} {k8 : TS → Int32 → Int32 → Int32 → Int32 → Option Int32} {bc bs : Nat} (hW : W.2.2.2 = mm_fx) (hk8 : ∀ (v1 : Int32) (v2 : Int32) (v3 : Int32) (v4 : Int32), wp (k8 t v1 v2 v3 v4) (fun r => Q (some (eI r)) t) → nX W d tX13_forceOf Q a0 e0 8 [some (eR (some (13, 0))), some (eI v1), some (eI v2), some (eI v3), some (eI v4)] [] t bc bs) : ∀ (v1 : Int32) (v2 : Int32) (v3 : Int32) (v4 : Int32), wp (BB_X13_forceOf_8 k8 t v1 v2 v3 v4) (fun r => Q (some (eI r)) t) → nX W d tX13_forceOf Q a0 e0 8 [some (eR (some (13, 0))), some (eI v1), some (eI v2), some (eI v3), some (eI v4)] [] t bc bs := by
  intro v1 v2 v3 v4 H
  unfold BB_X13_forceOf_8 at H
  refine nx_ld rfl rfl rfl rfl ?_
  refine nx_if rfl rfl (by rfl) H (fun H => ?_) (fun H => ?_)
  · refine nx_int (x := (-2)) rfl rfl ?_
    exact nx_ri rfl rfl H
  refine nx_ld rfl rfl rfl rfl ?_
  refine nx_getFix rfl rfl rfl (by decide) (by rw [hW]; rfl) rfl ?_
  refine nx_ld rfl rfl rfl rfl ?_
  refine nx_iald (p := (3356, 0)) rfl rfl (Nat.le_of_ble_eq_true rfl) (Nat.le_of_ble_eq_true rfl) rfl H (fun H => ?_)
  refine nx_ld rfl rfl rfl rfl ?_
  refine nx_icmp rfl rfl (by rfl) H (fun H => ?_) (fun H => ?_)
  · exact TB_X13_forceOf_49 hW   hk8 _ _ _ _ H
  refine nx_ld rfl rfl rfl rfl ?_
  refine nx_getFix rfl rfl rfl (by decide) (by rw [hW]; rfl) rfl ?_
  refine nx_ld rfl rfl rfl rfl ?_
  refine nx_iald (p := (3357, 0)) rfl rfl (Nat.le_of_ble_eq_true rfl) (Nat.le_of_ble_eq_true rfl) rfl H (fun H => ?_)
  refine nx_ld rfl rfl rfl rfl ?_
  refine nx_icmp rfl rfl (by rfl) H (fun H => ?_) (fun H => ?_)
  · exact TB_X13_forceOf_49 hW   hk8 _ _ _ _ H
  refine nx_ld rfl rfl rfl rfl ?_
  refine nx_getFix rfl rfl rfl (by decide) (by rw [hW]; rfl) rfl ?_
  refine nx_ld rfl rfl rfl rfl ?_
  refine nx_iald (p := (3358, 0)) rfl rfl (Nat.le_of_ble_eq_true rfl) (Nat.le_of_ble_eq_true rfl) rfl H (fun H => ?_)
  refine nx_ld rfl rfl rfl rfl ?_
  refine nx_icmp rfl rfl (by rfl) H (fun H => ?_) (fun H => ?_)
  · exact TB_X13_forceOf_49 hW   hk8 _ _ _ _ H
  refine nx_ld rfl rfl rfl rfl ?_
  exact nx_ri rfl rfl H
def B_X13_forceOf_8 : Nat → TS → Int32 → Int32 → Int32 → Int32 → Option Int32
  | 0 => fun _ _ _ _ _ => none
  | n + 1 => fun t v1 v2 v3 v4 => BB_X13_forceOf_8 (B_X13_forceOf_8 n) t v1 v2 v3 v4
theorem TB_X13_forceOf_8 {W : NW} {d : Nat} {Q : Option NV → TS → Prop} {a0 : Nat → Nat → Nat} {e0 : Nat → Nat → Bool} {t : TS} {bc bs : Nat} (hW : W.2.2.2 = mm_fx) : ∀ (n : Nat) (v1 : Int32) (v2 : Int32) (v3 : Int32) (v4 : Int32), wp (B_X13_forceOf_8 n t v1 v2 v3 v4) (fun r => Q (some (eI r)) t) → nX W d tX13_forceOf Q a0 e0 8 [some (eR (some (13, 0))), some (eI v1), some (eI v2), some (eI v3), some (eI v4)] [] t bc bs := by
  intro n
  induction n with
  | zero => intro v1 v2 v3 v4 H; exact (wp_none H).elim
  | succ n ih =>
    intro v1 v2 v3 v4 H
    exact TBB_X13_forceOf_8 hW    ih v1 v2 v3 v4 H
def F_X13_forceOf (t : TS) (x1 : Int32) (x2 : Int32) (x3 : Int32) : Option Int32 := (B_X13_forceOf_8  10000 t x1 x2 x3 ((tI t 1355 0) - 1))
theorem TF_X13_forceOf {W : NW} {d : Nat} {t : TS} {x1 : Int32} {x2 : Int32} {x3 : Int32} {Q : Option NV → TS → Prop} {bc bs : Nat} (hW : W.2.2.2 = mm_fx) (H : wp (F_X13_forceOf t x1 x2 x3) (fun r => Q (some (eI r)) t)) : nC W (d + 1) 227 [eR (some (13, 0)), eI x1, eI x2, eI x3] t bc bs Q := by
  refine nC_in (d := d) (T := tX13_forceOf) (ls := [some (eR (some (13, 0))), some (eI x1), some (eI x2), some (eI x3), none]) rfl (Nat.le_of_ble_eq_true rfl) rfl (fun a0 e0 => ?_)
  unfold F_X13_forceOf at H
  refine nx_ld rfl rfl rfl rfl ?_
  refine nx_getI rfl rfl rfl (by decide) ?_
  refine nx_int (x := 1) rfl rfl ?_
  refine nx_ii rfl rfl ?_
  refine nx_st (ls' := [some (eR (some (13, 0))), some (eI x1), some (eI x2), some (eI x3), some (eI ((tI t 1355 0) - 1))]) rfl rfl rfl (Nat.le_of_ble_eq_true rfl) rfl ?_
  exact TB_X13_forceOf_8 hW    10000 _ _ _ _ H
