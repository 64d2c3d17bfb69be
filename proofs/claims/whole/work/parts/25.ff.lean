/-! functions of methods over the typed heap, and that the runs follow them (by program: wip/whole/walk.py) -/
def BB_X12_payBack_67 (k67 : TS → Nat → Int32 → Option TS) (t : TS) (v1 : Nat) (v2 : Int32) : Option TS := (if (tI t 1204 0) ≤ v2 then (some t) else (gd v2 (tL t 3203 0) (nxt (tQ t 3203 0 v2.toNatClampNeg) (fun o21 => (oc o21 none (fun j22 => (Option.bind (F_X6_shareOf t v1 v2) (fun r23 => (nxt (uI t 103 j22 ((tI t 103 j22) - r23)) (fun t24 => (k67 t24 v1 (v2 + 1))))))))))))
theorem TBB_X12_payBack_67 {W : NW} {d : Nat} {Q : Option NV → TS → Prop} {a0 : Nat → Nat → Nat} {e0 : Nat → Nat → Bool} {k67 : TS → Nat → Int32 → Option TS} {bc bs : Nat} (hW : W.2.2.2 = mm_fx) (hk67 : ∀ (t : TS) (v1 : Nat) (v2 : Int32), wp (k67 t v1 v2) (fun r => Q none r) → nX W (d + 2) tX12_payBack Q a0 e0 67 [some (eR (some (12, 0))), some (eR (some (6, v1))), some (eI v2)] [] t bc bs) : ∀ (t : TS) (v1 : Nat) (v2 : Int32), wp (BB_X12_payBack_67 k67 t v1 v2) (fun r => Q none r) → nX W (d + 2) tX12_payBack Q a0 e0 67 [some (eR (some (12, 0))), some (eR (some (6, v1))), some (eI v2)] [] t bc bs := by
  intro t v1 v2 H
  unfold BB_X12_payBack_67 at H
  refine nx_ld rfl rfl rfl rfl ?_
  refine nx_ld rfl rfl rfl rfl ?_
  refine nx_getI rfl rfl rfl (by decide) ?_
  refine nx_icmp rfl rfl (by rfl) H (fun H => ?_) (fun H => ?_)
  · exact nx_rv rfl rfl H
  refine nx_ld rfl rfl rfl rfl ?_
  refine nx_getFix rfl rfl rfl (by decide) (by rw [hW]; rfl) rfl ?_
  refine nx_ld rfl rfl rfl rfl ?_
  refine nx_aald (c := 3203) (i := 0) rfl rfl (Nat.le_of_ble_eq_true rfl) (Nat.le_of_ble_eq_true rfl) (Nat.le_of_ble_eq_true rfl) rfl H (fun o21 H => ?_)
  refine nx_dup rfl rfl (Nat.ne_of_beq_eq_false rfl) ?_
  rcases o21 with _ | j22
  · exact (wp_none (oc_no H)).elim
  replace H := oc_so H
  refine nx_getI rfl rfl rfl (by decide) ?_
  refine nx_ld rfl rfl rfl rfl ?_
  show nX _ _ _ _ _ _ 86 _ _ _ _ _
  refine nx_ld rfl rfl rfl rfl ?_
  refine nx_cVI (as := [eI v2]) (st' := [eI (tI t 103 j22), eR (some (1, j22))]) rfl rfl (Nat.le_of_ble_eq_true rfl) rfl rfl (Nat.le_of_ble_eq_true rfl) (c0 := 6) rfl (by decide) H (fun Q H => TF_X6_shareOf hW  H) (fun r23 H => ?_)
  refine nx_ii rfl rfl ?_
  refine nx_putI rfl rfl rfl (by decide) H (fun t24 H => ?_)
  refine nx_iinc2 1 (ls' := [some (eR (some (12, 0))), some (eR (some (6, v1))), some (eI (v2 + 1))]) rfl rfl rfl rfl rfl ?_
  refine nx_goto rfl rfl ?_
  exact hk67 _ _ _ H
def B_X12_payBack_67 : Nat → TS → Nat → Int32 → Option TS
  | 0 => fun _ _ _ => none
  | n + 1 => fun t v1 v2 => BB_X12_payBack_67 (B_X12_payBack_67 n) t v1 v2
theorem TB_X12_payBack_67 {W : NW} {d : Nat} {Q : Option NV → TS → Prop} {a0 : Nat → Nat → Nat} {e0 : Nat → Nat → Bool} {bc bs : Nat} (hW : W.2.2.2 = mm_fx) : ∀ (n : Nat) (t : TS) (v1 : Nat) (v2 : Int32), wp (B_X12_payBack_67 n t v1 v2) (fun r => Q none r) → nX W (d + 2) tX12_payBack Q a0 e0 67 [some (eR (some (12, 0))), some (eR (some (6, v1))), some (eI v2)] [] t bc bs := by
  intro n
  induction n with
  | zero => intro t v1 v2 H; exact (wp_none H).elim
  | succ n ih =>
    intro t v1 v2 H
    exact TBB_X12_payBack_67 hW    ih t v1 v2 H
def B_X12_payBack_65 (t : TS) (v1 : Nat) : Option TS := (B_X12_payBack_67  10000 t v1 0)
theorem TB_X12_payBack_65 {W : NW} {d : Nat} {Q : Option NV → TS → Prop} {a0 : Nat → Nat → Nat} {e0 : Nat → Nat → Bool} {bc bs : Nat} (hW : W.2.2.2 = mm_fx) : ∀ (t : TS) (v1 : Nat), wp (B_X12_payBack_65 t v1) (fun r => Q none r) → nX W (d + 2) tX12_payBack Q a0 e0 65 [some (eR (some (12, 0))), some (eR (some (6, v1))), none] [] t bc bs := by
  intro t v1 H
  unfold B_X12_payBack_65 at H
  refine nx_int (x := 0) rfl rfl ?_
  refine nx_st (ls' := [some (eR (some (12, 0))), some (eR (some (6, v1))), some (eI 0)]) rfl rfl rfl (Nat.le_of_ble_eq_true rfl) rfl ?_
  exact TB_X12_payBack_67 hW    10000 _ _ _ H
def F_X12_payBack (t : TS) (o1 : Option Nat) : Option TS := (oc o1 none (fun j21 => (nxt (tR t 603 j21) (fun o22 => (oc o22 none (fun j23 => (nxt (uI t 103 j23 ((tI t 103 j23) + (tI t 604 j21))) (fun t24 => (nxt (tR t24 602 j21) (fun o25 => (oc o25 none (fun j26 => (nxt (uI t24 103 j26 ((tI t24 103 j26) - (((tI t24 604 j21) - (tI t24 611 j21)) - (tI t24 613 j21)))) (fun t27 => (nxt (tR t27 612 j21) (fun o28 => (oc o28 (B_X12_payBack_65  t27 j21) (fun j29 => (nxt (tR t27 612 j21) (fun o30 => (oc o30 none (fun j31 => (nxt (uI t27 103 j31 ((tI t27 103 j31) - (tI t27 611 j21))) (fun t32 => (B_X12_payBack_65  t32 j21)))))))))))))))))))))))))
theorem TF_X12_payBack {W : NW} {d : Nat} {t : TS} {o1 : Option Nat} {Q : Option NV → TS → Prop} {bc bs : Nat} (hW : W.2.2.2 = mm_fx) (H : wp (F_X12_payBack t o1) (fun r => Q none r)) : nC W (d + 3) 142 [eR (some (12, 0)), eO 6 o1] t bc bs Q := by
  refine nC_in (d := (d + 2)) (T := tX12_payBack) (ls := [some (eR (some (12, 0))), some (eO 6 o1), none]) rfl (Nat.le_of_ble_eq_true rfl) rfl (fun a0 e0 => ?_)
  unfold F_X12_payBack at H
  refine nx_ld rfl rfl rfl rfl ?_
  rcases o1 with _ | j21
  · exact (wp_none (oc_no H)).elim
  replace H := oc_so H
  refine nx_getR rfl rfl rfl (by decide) rfl H (fun o22 H => ?_)
  refine nx_dup rfl rfl (Nat.ne_of_beq_eq_false rfl) ?_
  rcases o22 with _ | j23
  · exact (wp_none (oc_no H)).elim
  replace H := oc_so H
  refine nx_getI rfl rfl rfl (by decide) ?_
  refine nx_ld rfl rfl rfl rfl ?_
  refine nx_getI rfl rfl rfl (by decide) ?_
  refine nx_ii rfl rfl ?_
  show nX _ _ _ _ _ _ 13 _ _ _ _ _
  refine nx_putI rfl rfl rfl (by decide) H (fun t24 H => ?_)
  refine nx_ld rfl rfl rfl rfl ?_
  refine nx_getR rfl rfl rfl (by decide) rfl H (fun o25 H => ?_)
  refine nx_dup rfl rfl (Nat.ne_of_beq_eq_false rfl) ?_
  rcases o25 with _ | j26
  · exact (wp_none (oc_no H)).elim
  replace H := oc_so H
  refine nx_getI rfl rfl rfl (by decide) ?_
  refine nx_ld rfl rfl rfl rfl ?_
  refine nx_getI rfl rfl rfl (by decide) ?_
  refine nx_ld rfl rfl rfl rfl ?_
  show nX _ _ _ _ _ _ 29 _ _ _ _ _
  refine nx_getI rfl rfl rfl (by decide) ?_
  refine nx_ii rfl rfl ?_
  refine nx_ld rfl rfl rfl rfl ?_
  refine nx_getI rfl rfl rfl (by decide) ?_
  refine nx_ii rfl rfl ?_
  refine nx_ii rfl rfl ?_
  refine nx_putI rfl rfl rfl (by decide) H (fun t27 H => ?_)
  refine nx_ld rfl rfl rfl rfl ?_
  show nX _ _ _ _ _ _ 43 _ _ _ _ _
  refine nx_getR rfl rfl rfl (by decide) rfl H (fun o28 H => ?_)
  rcases o28 with _ | j29
  · replace H := oc_no H
    refine nx_null0 (c := 1) rfl rfl ?_
    exact TB_X12_payBack_65 hW    _ _ H
  replace H := oc_so H
  refine nx_null1 rfl rfl ?_
  refine nx_ld rfl rfl rfl rfl ?_
  refine nx_getR rfl rfl rfl (by decide) rfl H (fun o30 H => ?_)
  refine nx_dup rfl rfl (Nat.ne_of_beq_eq_false rfl) ?_
  rcases o30 with _ | j31
  · exact (wp_none (oc_no H)).elim
  replace H := oc_so H
  refine nx_getI rfl rfl rfl (by decide) ?_
  refine nx_ld rfl rfl rfl rfl ?_
  refine nx_getI rfl rfl rfl (by decide) ?_
  refine nx_ii rfl rfl ?_
  show nX _ _ _ _ _ _ 62 _ _ _ _ _
  refine nx_putI rfl rfl rfl (by decide) H (fun t32 H => ?_)
  exact TB_X12_payBack_65 hW    _ _ H
def B_X12_undo_76 (t : TS) (v2 : Nat) : Option (Int32 × TS) := (nxt (uI t 608 v2 1) (fun t21 => (nxt (tR t21 607 v2) (fun o22 => (oc o22 none (fun j23 => (nxt (uI t21 1106 j23 (tI t21 1200 0)) (fun t24 => (Option.bind (F_X12_payBack t24 (some v2)) (fun r25 => (some (1, r25))))))))))))
theorem TB_X12_undo_76 {W : NW} {d : Nat} {Q : Option NV → TS → Prop} {a0 : Nat → Nat → Nat} {e0 : Nat → Nat → Bool} {bc bs : Nat} (hW : W.2.2.2 = mm_fx) : ∀ (t : TS) (v1 : Int32) (v2 : Nat) (v3 : Int32), wp (B_X12_undo_76 t v2) (fun r => Q (some (eI r.1)) r.2) → nX W (d + 3) tX12_undo Q a0 e0 76 [some (eR (some (12, 0))), some (eI v1), some (eR (some (6, v2))), some (eI v3)] [] t bc bs := by
  intro t v1 v2 v3 H
  unfold B_X12_undo_76 at H
  refine nx_ld rfl rfl rfl rfl ?_
  refine nx_int (x := 1) rfl rfl ?_
  refine nx_putZL rfl rfl rfl (by decide) (by decide) H (fun t21 H => ?_)
  refine nx_ld rfl rfl rfl rfl ?_
  refine nx_getR rfl rfl rfl (by decide) rfl H (fun o22 H => ?_)
  refine nx_ld rfl rfl rfl rfl ?_
  refine nx_getI rfl rfl rfl (by decide) ?_
  show nX _ _ _ _ _ _ 89 _ _ _ _ _
  rcases o22 with _ | j23
  · exact (wp_none (oc_no H)).elim
  replace H := oc_so H
  refine nx_putI rfl rfl rfl (by decide) H (fun t24 H => ?_)
  refine nx_ld rfl rfl rfl rfl ?_
  refine nx_ld rfl rfl rfl rfl ?_
  refine nx_cVVt (as := [eO 6 (some v2)]) (st' := []) rfl rfl (Nat.le_of_ble_eq_true rfl) rfl rfl (Nat.le_of_ble_eq_true rfl) (c0 := 12) rfl (by decide) H (fun Q H => TF_X12_payBack hW  H) (fun r25 H => ?_)
  refine nx_int (x := 1) rfl rfl ?_
  exact nx_rit rfl rfl H
def B_X12_undo_70 (k29 : TS → Nat → Int32 → Option (Int32 × TS)) (t : TS) (v2 : Nat) (v3 : Int32) : Option (Int32 × TS) := (k29 t v2 (v3 + 1))
theorem TB_X12_undo_70 {W : NW} {d : Nat} {Q : Option NV → TS → Prop} {a0 : Nat → Nat → Nat} {e0 : Nat → Nat → Bool} {k29 : TS → Nat → Int32 → Option (Int32 × TS)} {bc bs : Nat} (hW : W.2.2.2 = mm_fx) (hk29 : ∀ (t : TS) (v1 : Int32) (v2 : Nat) (v3 : Int32), wp (k29 t v2 v3) (fun r => Q (some (eI r.1)) r.2) → nX W (d + 3) tX12_undo Q a0 e0 29 [some (eR (some (12, 0))), some (eI v1), some (eR (some (6, v2))), some (eI v3)] [] t bc bs) : ∀ (t : TS) (v1 : Int32) (v2 : Nat) (v3 : Int32), wp (B_X12_undo_70 k29 t v2 v3) (fun r => Q (some (eI r.1)) r.2) → nX W (d + 3) tX12_undo Q a0 e0 70 [some (eR (some (12, 0))), some (eI v1), some (eR (some (6, v2))), some (eI v3)] [] t bc bs := by
  intro t v1 v2 v3 H
  unfold B_X12_undo_70 at H
  refine nx_iinc2 1 (ls' := [some (eR (some (12, 0))), some (eI v1), some (eR (some (6, v2))), some (eI (v3 + 1))]) rfl rfl rfl rfl rfl ?_
  refine nx_goto rfl rfl ?_
  exact hk29 _ _ _ _ H
def BB_X12_undo_29 (k29 : TS → Nat → Int32 → Option (Int32 × TS)) (t : TS) (v2 : Nat) (v3 : Int32) : Option (Int32 × TS) := (if (tI t 1207 0) ≤ v3 then (B_X12_undo_76  t v2) else (gd v3 (tL t 3206 0) (nxt (tQ t 3206 0 v3.toNatClampNeg) (fun o21 => (oc o21 none (fun j22 => (nxt (tR t 601 j22) (fun o23 => (nxt (tR t 601 v2) (fun o24 => (if (o23 : Option Nat) = o24 then (gd v3 (tL t 3206 0) (nxt (tQ t 3206 0 v3.toNatClampNeg) (fun o25 => (oc o25 none (fun j26 => (if ¬ (tI t 608 j26) = 0 then (B_X12_undo_70 k29 t v2 v3) else (some (((-100) - v3), t)))))))) else (B_X12_undo_70 k29 t v2 v3))))))))))))
theorem TBB_X12_undo_29 {W : NW} {d : Nat} {Q : Option NV → TS → Prop} {a0 : Nat → Nat → Nat} {e0 : Nat → Nat → Bool} {k29 : TS → Nat → Int32 → Option (Int32 × TS)} {bc bs : Nat} (hW : W.2.2.2 = mm_fx) (hk29 : ∀ (t : TS) (v1 : Int32) (v2 : Nat) (v3 : Int32), wp (k29 t v2 v3) (fun r => Q (some (eI r.1)) r.2) → nX W (d + 3) tX12_undo Q a0 e0 29 [some (eR (some (12, 0))), some (eI v1), some (eR (some (6, v2))), some (eI v3)] [] t bc bs) : ∀ (t : TS) (v1 : Int32) (v2 : Nat) (v3 : Int32), wp (BB_X12_undo_29 k29 t v2 v3) (fun r => Q (some (eI r.1)) r.2) → nX W (d + 3) tX12_undo Q a0 e0 29 [some (eR (some (12, 0))), some (eI v1), some (eR (some (6, v2))), some (eI v3)] [] t bc bs := by
  intro t v1 v2 v3 H
  unfold BB_X12_undo_29 at H
  refine nx_ld rfl rfl rfl rfl ?_
  refine nx_ld rfl rfl rfl rfl ?_
  refine nx_getI rfl rfl rfl (by decide) ?_
  refine nx_icmp rfl rfl (by rfl) H (fun H => ?_) (fun H => ?_)
  · exact TB_X12_undo_76 hW    _ _ _ _ H
  refine nx_ld rfl rfl rfl rfl ?_
  refine nx_getFix rfl rfl rfl (by decide) (by rw [hW]; rfl) rfl ?_
  refine nx_ld rfl rfl rfl rfl ?_
  refine nx_aald (c := 3206) (i := 0) rfl rfl (Nat.le_of_ble_eq_true rfl) (Nat.le_of_ble_eq_true rfl) (Nat.le_of_ble_eq_true rfl) rfl H (fun o21 H => ?_)
  rcases o21 with _ | j22
  · exact (wp_none (oc_no H)).elim
  replace H := oc_so H
  refine nx_getR rfl rfl rfl (by decide) rfl H (fun o23 H => ?_)
  refine nx_ld rfl rfl rfl rfl ?_
  refine nx_getR rfl rfl rfl (by decide) rfl H (fun o24 H => ?_)
  show nX _ _ _ _ _ _ 50 _ _ _ _ _
  refine nx_ane (c := 1) (o1 := o23) (o2 := o24) rfl rfl (by decide) H (fun H => ?_) (fun H => ?_)
  · exact TB_X12_undo_70 hW   hk29 _ _ _ _ H
  refine nx_ld rfl rfl rfl rfl ?_
  refine nx_getFix rfl rfl rfl (by decide) (by rw [hW]; rfl) rfl ?_
  refine nx_ld rfl rfl rfl rfl ?_
  refine nx_aald (c := 3206) (i := 0) rfl rfl (Nat.le_of_ble_eq_true rfl) (Nat.le_of_ble_eq_true rfl) (Nat.le_of_ble_eq_true rfl) rfl H (fun o25 H => ?_)
  rcases o25 with _ | j26
  · exact (wp_none (oc_no H)).elim
  replace H := oc_so H
  refine nx_getI rfl rfl rfl (by decide) ?_
  refine nx_if rfl rfl (by rfl) H (fun H => ?_) (fun H => ?_)
  · exact TB_X12_undo_70 hW   hk29 _ _ _ _ H
  refine nx_int (x := (-100)) rfl rfl ?_
  refine nx_ld rfl rfl rfl rfl ?_
  refine nx_ii rfl rfl ?_
  exact nx_rit rfl rfl H
def B_X12_undo_29 : Nat → TS → Nat → Int32 → Option (Int32 × TS)
  | 0 => fun _ _ _ => none
  | n + 1 => fun t v2 v3 => BB_X12_undo_29 (B_X12_undo_29 n) t v2 v3
theorem TB_X12_undo_29 {W : NW} {d : Nat} {Q : Option NV → TS → Prop} {a0 : Nat → Nat → Nat} {e0 : Nat → Nat → Bool} {bc bs : Nat} (hW : W.2.2.2 = mm_fx) : ∀ (n : Nat) (t : TS) (v1 : Int32) (v2 : Nat) (v3 : Int32), wp (B_X12_undo_29 n t v2 v3) (fun r => Q (some (eI r.1)) r.2) → nX W (d + 3) tX12_undo Q a0 e0 29 [some (eR (some (12, 0))), some (eI v1), some (eR (some (6, v2))), some (eI v3)] [] t bc bs := by
  intro n
  induction n with
  | zero => intro t v1 v2 v3 H; exact (wp_none H).elim
  | succ n ih =>
    intro t v1 v2 v3 H
    exact TBB_X12_undo_29 hW    ih t v1 v2 v3 H
def F_X12_undo (t : TS) (x1 : Int32) : Option (Int32 × TS) := (Option.bind (F_X12_moveAt t x1) (fun r21 => (oc r21 (some ((-1), t)) (fun j22 => (if (tI t 608 j22) = 0 then (B_X12_undo_29  10000 t j22 ((tI t 600 j22) + 1)) else (some ((-2), t)))))))
theorem TF_X12_undo {W : NW} {d : Nat} {t : TS} {x1 : Int32} {Q : Option NV → TS → Prop} {bc bs : Nat} (hW : W.2.2.2 = mm_fx) (H : wp (F_X12_undo t x1) (fun r => Q (some (eI r.1)) r.2)) : nC W (d + 4) 87 [eR (some (12, 0)), eI x1] t bc bs Q := by
  refine nC_in (d := (d + 3)) (T := tX12_undo) (ls := [some (eR (some (12, 0))), some (eI x1), none, none]) rfl (Nat.le_of_ble_eq_true rfl) rfl (fun a0 e0 => ?_)
  unfold F_X12_undo at H
  refine nx_ld rfl rfl rfl rfl ?_
  refine nx_ld rfl rfl rfl rfl ?_
  refine nx_cVO 6 (as := [eI x1]) (st' := []) rfl rfl (Nat.le_of_ble_eq_true rfl) rfl rfl (Nat.le_of_ble_eq_true rfl) (c0 := 12) rfl (by decide) H (fun Q H => TF_X12_moveAt hW  H) (fun r21 H => ?_)
  refine nx_st (ls' := [some (eR (some (12, 0))), some (eI x1), some (eO 6 r21), none]) rfl rfl rfl (Nat.le_of_ble_eq_true rfl) rfl ?_
  refine nx_ld rfl rfl rfl rfl ?_
  rcases r21 with _ | j22
  · replace H := oc_no H
    refine nx_non0 (c := 6) rfl rfl ?_
    refine nx_int (x := (-1)) rfl rfl ?_
    exact nx_rit rfl rfl H
  replace H := oc_so H
  refine nx_non1 rfl rfl ?_
  refine nx_ld rfl rfl rfl rfl ?_
  refine nx_getI rfl rfl rfl (by decide) ?_
  refine nx_if rfl rfl (by rfl) H (fun H => ?_) (fun H => ?_)
  · refine nx_ld rfl rfl rfl rfl ?_
    refine nx_getI rfl rfl rfl (by decide) ?_
    refine nx_int (x := 1) rfl rfl ?_
    refine nx_ii rfl rfl ?_
    refine nx_st (ls' := [some (eR (some (12, 0))), some (eI x1), some (eR (some (6, j22))), some (eI ((tI t 600 j22) + 1))]) rfl rfl rfl (Nat.le_of_ble_eq_true rfl) rfl ?_
    exact TB_X12_undo_29 hW    10000 _ _ _ _ H
  refine nx_int (x := (-2)) rfl rfl ?_
  exact nx_rit rfl rfl H
def F_X12_squad (t : TS) (x1 : Int32) (x2 : Int32) : Option (Int32 × TS) := (Option.bind (F_X12_clubAt t x1) (fun r21 => (oc r21 (some ((-1), t)) (fun j22 => (Option.bind (F_X12_within t x2 0 (7 - 1)) (fun r23 => (if ¬ r23 = 0 then (gd x2 (mm_sv 3).length (ob2 (F_X12_figure t ((mm_sv 3).getD x2.toNatClampNeg 0) (some j22) none none) (fun x25 t26 => (some (x25, t26))))) else (some ((-1), t)))))))))
theorem TF_X12_squad {W : NW} {d : Nat} {t : TS} {x1 : Int32} {x2 : Int32} {Q : Option NV → TS → Prop} {bc bs : Nat} (hW : W.2.2.2 = mm_fx) (H : wp (F_X12_squad t x1 x2) (fun r => Q (some (eI r.1)) r.2)) : nC W (d + 5) 88 [eR (some (12, 0)), eI x1, eI x2] t bc bs Q := by
  refine nC_in (d := (d + 4)) (T := tX12_squad) (ls := [some (eR (some (12, 0))), some (eI x1), some (eI x2), none]) rfl (Nat.le_of_ble_eq_true rfl) rfl (fun a0 e0 => ?_)
  unfold F_X12_squad at H
  refine nx_ld rfl rfl rfl rfl ?_
  refine nx_ld rfl rfl rfl rfl ?_
  refine nx_cVO 1 (as := [eI x1]) (st' := []) rfl rfl (Nat.le_of_ble_eq_true rfl) rfl rfl (Nat.le_of_ble_eq_true rfl) (c0 := 12) rfl (by decide) H (fun Q H => TF_X12_clubAt hW  H) (fun r21 H => ?_)
  refine nx_st (ls' := [some (eR (some (12, 0))), some (eI x1), some (eI x2), some (eO 1 r21)]) rfl rfl rfl (Nat.le_of_ble_eq_true rfl) rfl ?_
  refine nx_ld rfl rfl rfl rfl ?_
  rcases r21 with _ | j22
  · replace H := oc_no H
    refine nx_null0 (c := 1) rfl rfl ?_
    refine nx_int (x := (-1)) rfl rfl ?_
    exact nx_rit rfl rfl H
  replace H := oc_so H
  refine nx_null1 rfl rfl ?_
  refine nx_ld rfl rfl rfl rfl ?_
  refine nx_int (x := 0) rfl rfl ?_
  refine nx_sta 3 rfl rfl ?_
  refine nx_alenZ (s := 3) (n := 7) rfl rfl (by decide) rfl ?_
  refine nx_int (x := 1) rfl rfl ?_
  refine nx_ii rfl rfl ?_
  refine nx_cSI (as := [eI x2, eI 0, eI (7 - 1)]) (st' := []) rfl rfl (Nat.le_of_ble_eq_true rfl) rfl rfl (Nat.le_of_ble_eq_true rfl) H (fun Q H => TF_X12_within hW  H) (fun r23 H => ?_)
  show nX _ _ _ _ _ _ 21 _ _ _ _ _
  refine nx_if rfl rfl (by rfl) H (fun H => ?_) (fun H => ?_)
  · refine nx_ld rfl rfl rfl rfl ?_
    refine nx_sta 3 rfl rfl ?_
    refine nx_ld rfl rfl rfl rfl ?_
    refine nx_ialdZ (s := 3) rfl rfl (by decide) H (fun H => ?_)
    refine nx_ld rfl rfl rfl rfl ?_
    refine nx_nul 1 rfl rfl ?_
    refine nx_nul 1 rfl rfl ?_
    show nX _ _ _ _ _ _ 35 _ _ _ _ _
    refine nx_cVI2 (as := [eI ((mm_sv 3).getD x2.toNatClampNeg 0), eO 1 (some j22), eO 1 none, eO 1 none]) (st' := []) rfl rfl (Nat.le_of_ble_eq_true rfl) rfl rfl (Nat.le_of_ble_eq_true rfl) (c0 := 12) rfl (by decide) H (fun Q H => TF_X12_figure hW  H) (fun x25 t26 H => ?_)
    exact nx_rit rfl rfl H
  refine nx_int (x := (-1)) rfl rfl ?_
  exact nx_rit rfl rfl H
def F_X12_feed (t : TS) (x1 : Int32) (x2 : Int32) : Option (Int32 × TS) := (Option.bind (F_X12_within t x1 1 4) (fun r21 => (if ¬ r21 = 0 then (ob2 (F_X7_take t x1 x2) (fun x23 t24 => (if x23 = 0 then (some ((-3), t24)) else (some ((tI t24 701 0), t24))))) else (some ((-1), t)))))
theorem TF_X12_feed {W : NW} {d : Nat} {t : TS} {x1 : Int32} {x2 : Int32} {Q : Option NV → TS → Prop} {bc bs : Nat} (hW : W.2.2.2 = mm_fx) (H : wp (F_X12_feed t x1 x2) (fun r => Q (some (eI r.1)) r.2)) : nC W (d + 2) 89 [eR (some (12, 0)), eI x1, eI x2] t bc bs Q := by
  refine nC_in (d := (d + 1)) (T := tX12_feed) (ls := [some (eR (some (12, 0))), some (eI x1), some (eI x2)]) rfl (Nat.le_of_ble_eq_true rfl) rfl (fun a0 e0 => ?_)
  unfold F_X12_feed at H
  refine nx_ld rfl rfl rfl rfl ?_
  refine nx_int (x := 1) rfl rfl ?_
  refine nx_int (x := 4) rfl rfl ?_
  refine nx_cSI (as := [eI x1, eI 1, eI 4]) (st' := []) rfl rfl (Nat.le_of_ble_eq_true rfl) rfl rfl (Nat.le_of_ble_eq_true rfl) H (fun Q H => TF_X12_within hW  H) (fun r21 H => ?_)
  refine nx_if rfl rfl (by rfl) H (fun H => ?_) (fun H => ?_)
  · refine nx_ld rfl rfl rfl rfl ?_
    refine nx_getFix rfl rfl rfl (by decide) (by rw [hW]; rfl) rfl ?_
    refine nx_ld rfl rfl rfl rfl ?_
    refine nx_ld rfl rfl rfl rfl ?_
    refine nx_cVI2 (as := [eI x1, eI x2]) (st' := []) rfl rfl (Nat.le_of_ble_eq_true rfl) rfl rfl (Nat.le_of_ble_eq_true rfl) (c0 := 7) rfl (by decide) H (fun Q H => TF_X7_take hW  H) (fun x23 t24 H => ?_)
    refine nx_if rfl rfl (by rfl) H (fun H => ?_) (fun H => ?_)
    · refine nx_int (x := (-3)) rfl rfl ?_
      exact nx_rit rfl rfl H
    refine nx_ld rfl rfl rfl rfl ?_
    refine nx_getFix rfl rfl rfl (by decide) (by rw [hW]; rfl) rfl ?_
    refine nx_getI rfl rfl rfl (by decide) ?_
    refine nx_goto rfl rfl ?_
    exact nx_rit rfl rfl H
  refine nx_int (x := (-1)) rfl rfl ?_
  exact nx_rit rfl rfl H
def F_X12_isLeagueAndUse (t : TS) (x1 : Int32) : Option Int32 := (Option.bind (F_X12_within t x1 0 32) (fun r21 => (if r21 = 0 then (some (0)) else (if 2 < (irm x1 10) then (some (0)) else (some (1))))))
theorem TF_X12_isLeagueAndUse {W : NW} {d : Nat} {t : TS} {x1 : Int32} {Q : Option NV → TS → Prop} {bc bs : Nat} (hW : W.2.2.2 = mm_fx) (H : wp (F_X12_isLeagueAndUse t x1) (fun r => Q (some (eI r)) t)) : nC W (d + 2) 143 [eI x1] t bc bs Q := by
  refine nC_in (d := (d + 1)) (T := tX12_isLeagueAndUse) (ls := [some (eI x1)]) rfl (Nat.le_of_ble_eq_true rfl) rfl (fun a0 e0 => ?_)
  unfold F_X12_isLeagueAndUse at H
  refine nx_ld rfl rfl rfl rfl ?_
  refine nx_int (x := 0) rfl rfl ?_
  refine nx_int (x := 32) rfl rfl ?_
  refine nx_cSI (as := [eI x1, eI 0, eI 32]) (st' := []) rfl rfl (Nat.le_of_ble_eq_true rfl) rfl rfl (Nat.le_of_ble_eq_true rfl) H (fun Q H => TF_X12_within hW  H) (fun r21 H => ?_)
  refine nx_if rfl rfl (by rfl) H (fun H => ?_) (fun H => ?_)
  · refine nx_int (x := 0) rfl rfl ?_
    exact nx_rzl rfl rfl (by decide) H
  refine nx_ld rfl rfl rfl rfl ?_
  refine nx_int (x := 10) rfl rfl ?_
  refine nx_idivL rfl rfl (by decide) ?_
  refine nx_int (x := 2) rfl rfl ?_
  refine nx_icmp rfl rfl (by rfl) H (fun H => ?_) (fun H => ?_)
  · refine nx_int (x := 0) rfl rfl ?_
    exact nx_rzl rfl rfl (by decide) H
  refine nx_int (x := 1) rfl rfl ?_
  refine nx_goto rfl rfl ?_
  exact nx_rzl rfl rfl (by decide) H
def F_X12_rule (t : TS) (x1 : Int32) (x2 : Int32) : Option (Int32 × TS) := (Option.bind (F_X12_isLeagueAndUse t x1) (fun r21 => (if r21 = 0 then (some ((-1), t)) else (Option.bind (F_X12_within t x2 0 2999) (fun r22 => (if ¬ r22 = 0 then (if (tI t 1212 0) < 16 then (ob2 (F_X7_faultOfTape t) (fun x24 t25 => (if x24 < 0 then (gE (tE t25 9 ((tI t25 1212 0).toNatClampNeg)) (nxt (uO t25 9 ((tI t25 1212 0).toNatClampNeg)) (fun t26 => (ob2 (F_X7_tapeText t26) (fun o28 t29 => (Option.bind (F_X9_init t29 ((tI t25 1212 0).toNatClampNeg) x1 (tI t26 1200 0) x2 o28 (tI t29 703 0)) (fun r30 => (gd (tI t25 1212 0) (tL r30 3211 0) (nxt (uQ r30 3211 0 (tI t25 1212 0).toNatClampNeg (some ((tI t25 1212 0).toNatClampNeg))) (fun t31 => (nxt (uI t31 701 0 0) (fun t32 => (nxt (uI t32 1212 0 ((tI t32 1212 0) + 1)) (fun t33 => (some (((tI t33 1212 0) - 1), t33)))))))))))))))) else (nxt (uI t25 701 0 0) (fun t34 => (some (((-100) - x24), t34))))))) else (some ((-3), t))) else (some ((-1), t))))))))
theorem TF_X12_rule {W : NW} {d : Nat} {t : TS} {x1 : Int32} {x2 : Int32} {Q : Option NV → TS → Prop} {bc bs : Nat} (hW : W.2.2.2 = mm_fx) (H : wp (F_X12_rule t x1 x2) (fun r => Q (some (eI r.1)) r.2)) : nC W (d + 208) 90 [eR (some (12, 0)), eI x1, eI x2] t (bc + 2) (bs + 165) Q := by
  refine nC_in (d := (d + 207)) (T := tX12_rule) (ls := [some (eR (some (12, 0))), some (eI x1), some (eI x2), none]) rfl (Nat.le_of_ble_eq_true rfl) rfl (fun a0 e0 => ?_)
  unfold F_X12_rule at H
  refine nx_ld rfl rfl rfl rfl ?_
  refine nx_cSI (as := [eI x1]) (st' := []) rfl rfl (Nat.le_of_ble_eq_true rfl) rfl rfl (Nat.le_of_ble_eq_true rfl) H (fun Q H => TF_X12_isLeagueAndUse hW  H) (fun r21 H => ?_)
  refine nx_if rfl rfl (by rfl) H (fun H => ?_) (fun H => ?_)
  · refine nx_int (x := (-1)) rfl rfl ?_
    exact nx_rit rfl rfl H
  refine nx_ld rfl rfl rfl rfl ?_
  refine nx_int (x := 0) rfl rfl ?_
  refine nx_int (x := 2999) rfl rfl ?_
  refine nx_cSI (as := [eI x2, eI 0, eI 2999]) (st' := []) rfl rfl (Nat.le_of_ble_eq_true rfl) rfl rfl (Nat.le_of_ble_eq_true rfl) H (fun Q H => TF_X12_within hW  H) (fun r22 H => ?_)
  refine nx_if rfl rfl (by rfl) H (fun H => ?_) (fun H => ?_)
  · refine nx_ld rfl rfl rfl rfl ?_
    refine nx_getI rfl rfl rfl (by decide) ?_
    refine nx_int (x := 16) rfl rfl ?_
    refine nx_icmp rfl rfl (by rfl) H (fun H => ?_) (fun H => ?_)
    · refine nx_ld rfl rfl rfl rfl ?_
      refine nx_getFix rfl rfl rfl (by decide) (by rw [hW]; rfl) rfl ?_
      refine nx_cVI2 (as := []) (st' := []) rfl rfl (Nat.le_of_ble_eq_true rfl) rfl rfl (Nat.le_of_ble_eq_true rfl) (c0 := 7) rfl (by decide) H (fun Q H => TF_X7_faultOfTape hW  H) (fun x24 t25 H => ?_)
      refine nx_st (ls' := [some (eR (some (12, 0))), some (eI x1), some (eI x2), some (eI x24)]) rfl rfl rfl (Nat.le_of_ble_eq_true rfl) rfl ?_
      refine nx_ld rfl rfl rfl rfl ?_
      refine nx_if rfl rfl (by rfl) H (fun H => ?_) (fun H => ?_)
      · refine nx_ld rfl rfl rfl rfl ?_
        refine nx_getFix rfl rfl rfl (by decide) (by rw [hW]; rfl) rfl ?_
        refine nx_ld rfl rfl rfl rfl ?_
        refine nx_getI rfl rfl rfl (by decide) ?_
        refine nx_new ((tI t25 1212 0).toNatClampNeg) (n := 5) rfl rfl (by decide) (by rw [hW]; exact mm_fx_no (by decide)) (by omega) (by omega) H (fun t26 H => ?_)
        refine nx_eq (bc' := bc + 1) (bs' := bs + 160) (by omega) (by omega) ?_
        refine nx_dup rfl rfl (Nat.ne_of_beq_eq_false rfl) ?_
        refine nx_ld rfl rfl rfl rfl ?_
        show nX _ _ _ _ _ _ 70 _ _ _ _ _
        refine nx_ld rfl rfl rfl rfl ?_
        refine nx_getI rfl rfl rfl (by decide) ?_
        refine nx_ld rfl rfl rfl rfl ?_
        refine nx_ld rfl rfl rfl rfl ?_
        refine nx_getFix rfl rfl rfl (by decide) (by rw [hW]; rfl) rfl ?_
        refine nx_aVO8 2700 1 160 (as := []) (st' := [eI x2, eI (tI t26 1200 0), eI x1, eR (some (9, ((tI t25 1212 0).toNatClampNeg))), eR (some (9, ((tI t25 1212 0).toNatClampNeg))), eI (tI t25 1212 0), eR (some (3211, 0))]) rfl rfl (Nat.le_of_ble_eq_true rfl) rfl rfl (Or.inr ⟨Nat.le_of_ble_eq_true rfl, by intro v hv x e; subst e; simp at hv⟩) (c0 := 7) rfl (by decide) (by omega) (by omega) H (fun Q H => TF_X7_tapeText hW  H) (fun o28 t29 H => ?_)
        refine nx_eq (bc' := bc) (bs' := bs) (by omega) (by omega) ?_
        refine nx_ld rfl rfl rfl rfl ?_
        refine nx_getFix rfl rfl rfl (by decide) (by rw [hW]; rfl) rfl ?_
        show nX _ _ _ _ _ _ 86 _ _ _ _ _
        refine nx_getI rfl rfl rfl (by decide) ?_
        refine nx_cVVt (as := [eI x1, eI (tI t26 1200 0), eI x2, eO 2700 o28, eI (tI t29 703 0)]) (st' := [eR (some (9, ((tI t25 1212 0).toNatClampNeg))), eI (tI t25 1212 0), eR (some (3211, 0))]) rfl rfl (Nat.le_of_ble_eq_true rfl) rfl rfl (Nat.le_of_ble_eq_true rfl) (c0 := 9) rfl (by decide) H (fun Q H => TF_X9_init hW  H) (fun r30 H => ?_)
        refine nx_aast (c := 3211) (i := 0) (e := 9) (o := (some ((tI t25 1212 0).toNatClampNeg))) rfl rfl (Nat.le_of_ble_eq_true rfl) (Nat.le_of_ble_eq_true rfl) (Nat.le_of_ble_eq_true rfl) rfl (by decide) H (fun t31 H => ?_)
        refine nx_ld rfl rfl rfl rfl ?_
        refine nx_getFix rfl rfl rfl (by decide) (by rw [hW]; rfl) rfl ?_
        refine nx_int (x := 0) rfl rfl ?_
        refine nx_putI rfl rfl rfl (by decide) H (fun t32 H => ?_)
        refine nx_ld rfl rfl rfl rfl ?_
        show nX _ _ _ _ _ _ 102 _ _ _ _ _
        refine nx_dup rfl rfl (Nat.ne_of_beq_eq_false rfl) ?_
        refine nx_getI rfl rfl rfl (by decide) ?_
        refine nx_int (x := 1) rfl rfl ?_
        refine nx_ii rfl rfl ?_
        refine nx_putI rfl rfl rfl (by decide) H (fun t33 H => ?_)
        refine nx_ld rfl rfl rfl rfl ?_
        refine nx_getI rfl rfl rfl (by decide) ?_
        refine nx_int (x := 1) rfl rfl ?_
        show nX _ _ _ _ _ _ 116 _ _ _ _ _
        refine nx_ii rfl rfl ?_
        exact nx_rit rfl rfl H
      refine nx_ld rfl rfl rfl rfl ?_
      refine nx_getFix rfl rfl rfl (by decide) (by rw [hW]; rfl) rfl ?_
      refine nx_int (x := 0) rfl rfl ?_
      refine nx_putI rfl rfl rfl (by decide) H (fun t34 H => ?_)
      refine nx_int (x := (-100)) rfl rfl ?_
      refine nx_ld rfl rfl rfl rfl ?_
      refine nx_ii rfl rfl ?_
      show nX _ _ _ _ _ _ 56 _ _ _ _ _
      exact nx_rit rfl rfl H
    refine nx_int (x := (-3)) rfl rfl ?_
    exact nx_rit rfl rfl H
  refine nx_int (x := (-1)) rfl rfl ?_
  exact nx_rit rfl rfl H
def F_X12_inForce (t : TS) (x1 : Int32) (x2 : Int32) (x3 : Int32) : Option Int32 := (Option.bind (F_X12_isLeagueAndUse t x1) (fun r21 => (if r21 = 0 then (some ((-1))) else (Option.bind (F_X12_within t x2 0 2999) (fun r22 => (if r22 = 0 then (some ((-1))) else (Option.bind (F_X12_within t x3 0 2999) (fun r23 => (if ¬ r23 = 0 then (Option.bind (F_X12_ruleInForce t x1 x2 x3) (fun r24 => (some (r24)))) else (some ((-1))))))))))))
theorem TF_X12_inForce {W : NW} {d : Nat} {t : TS} {x1 : Int32} {x2 : Int32} {x3 : Int32} {Q : Option NV → TS → Prop} {bc bs : Nat} (hW : W.2.2.2 = mm_fx) (H : wp (F_X12_inForce t x1 x2 x3) (fun r => Q (some (eI r)) t)) : nC W (d + 3) 91 [eR (some (12, 0)), eI x1, eI x2, eI x3] t bc bs Q := by
  refine nC_in (d := (d + 2)) (T := tX12_inForce) (ls := [some (eR (some (12, 0))), some (eI x1), some (eI x2), some (eI x3)]) rfl (Nat.le_of_ble_eq_true rfl) rfl (fun a0 e0 => ?_)
  unfold F_X12_inForce at H
  refine nx_ld rfl rfl rfl rfl ?_
  refine nx_cSI (as := [eI x1]) (st' := []) rfl rfl (Nat.le_of_ble_eq_true rfl) rfl rfl (Nat.le_of_ble_eq_true rfl) H (fun Q H => TF_X12_isLeagueAndUse hW  H) (fun r21 H => ?_)
  refine nx_if rfl rfl (by rfl) H (fun H => ?_) (fun H => ?_)
  · refine nx_int (x := (-1)) rfl rfl ?_
    exact nx_ri rfl rfl H
  refine nx_ld rfl rfl rfl rfl ?_
  refine nx_int (x := 0) rfl rfl ?_
  refine nx_int (x := 2999) rfl rfl ?_
  refine nx_cSI (as := [eI x2, eI 0, eI 2999]) (st' := []) rfl rfl (Nat.le_of_ble_eq_true rfl) rfl rfl (Nat.le_of_ble_eq_true rfl) H (fun Q H => TF_X12_within hW  H) (fun r22 H => ?_)
  refine nx_if rfl rfl (by rfl) H (fun H => ?_) (fun H => ?_)
  · refine nx_int (x := (-1)) rfl rfl ?_
    exact nx_ri rfl rfl H
  refine nx_ld rfl rfl rfl rfl ?_
  refine nx_int (x := 0) rfl rfl ?_
  refine nx_int (x := 2999) rfl rfl ?_
  refine nx_cSI (as := [eI x3, eI 0, eI 2999]) (st' := []) rfl rfl (Nat.le_of_ble_eq_true rfl) rfl rfl (Nat.le_of_ble_eq_true rfl) H (fun Q H => TF_X12_within hW  H) (fun r23 H => ?_)
  refine nx_if rfl rfl (by rfl) H (fun H => ?_) (fun H => ?_)
  · refine nx_ld rfl rfl rfl rfl ?_
    refine nx_ld rfl rfl rfl rfl ?_
    refine nx_ld rfl rfl rfl rfl ?_
    refine nx_ld rfl rfl rfl rfl ?_
    refine nx_cVI (as := [eI x1, eI x2, eI x3]) (st' := []) rfl rfl (Nat.le_of_ble_eq_true rfl) rfl rfl (Nat.le_of_ble_eq_true rfl) (c0 := 12) rfl (by decide) H (fun Q H => TF_X12_ruleInForce hW  H) (fun r24 H => ?_)
    exact nx_ri rfl rfl H
  refine nx_int (x := (-1)) rfl rfl ?_
  exact nx_ri rfl rfl H
def B_X12_holds_41 (t : TS) (v1 : Int32) (v4 : Option Nat) (v5 : Option Nat) (s0 : Int32) : Option (Int32 × TS) := (Option.bind (F_X12_within t v1 0 2) (fun r21 => (if r21 = 0 then (some ((-1), t)) else (oc v4 (some ((-1), t)) (fun j22 => (if ¬ s0 = 0 then (Option.bind (F_X12_ruleToday t v1 (some j22)) (fun r23 => (ob2 (F_X12_brokenLine t r23 (some j22) v5 none) (fun x25 t26 => (if 0 ≤ x25 then (some (x25, t26)) else (some ((-2), t26))))))) else (some ((-1), t))))))))
theorem TB_X12_holds_41 {W : NW} {d : Nat} {Q : Option NV → TS → Prop} {a0 : Nat → Nat → Nat} {e0 : Nat → Nat → Bool} {bc bs : Nat} (hW : W.2.2.2 = mm_fx) : ∀ (t : TS) (v1 : Int32) (v2 : Int32) (v3 : Int32) (v4 : Option Nat) (v5 : Option Nat) (s0 : Int32), wp (B_X12_holds_41 t v1 v4 v5 s0) (fun r => Q (some (eI r.1)) r.2) → nX W (d + 208) tX12_holds Q a0 e0 41 [some (eR (some (12, 0))), some (eI v1), some (eI v2), some (eI v3), some (eO 1 v4), some (eO 1 v5), none, none] [eI s0] t bc bs := by
  intro t v1 v2 v3 v4 v5 s0 H
  unfold B_X12_holds_41 at H
  refine nx_st (ls' := [some (eR (some (12, 0))), some (eI v1), some (eI v2), some (eI v3), some (eO 1 v4), some (eO 1 v5), some (eI s0), none]) rfl rfl rfl (Nat.le_of_ble_eq_true rfl) rfl ?_
  refine nx_ld rfl rfl rfl rfl ?_
  refine nx_int (x := 0) rfl rfl ?_
  refine nx_int (x := 2) rfl rfl ?_
  refine nx_cSI (as := [eI v1, eI 0, eI 2]) (st' := []) rfl rfl (Nat.le_of_ble_eq_true rfl) rfl rfl (Nat.le_of_ble_eq_true rfl) H (fun Q H => TF_X12_within hW  H) (fun r21 H => ?_)
  refine nx_if rfl rfl (by rfl) H (fun H => ?_) (fun H => ?_)
  · refine nx_int (x := (-1)) rfl rfl ?_
    exact nx_rit rfl rfl H
  refine nx_ld rfl rfl rfl rfl ?_
  rcases v4 with _ | j22
  · replace H := oc_no H
    refine nx_null0 (c := 1) rfl rfl ?_
    refine nx_int (x := (-1)) rfl rfl ?_
    exact nx_rit rfl rfl H
  replace H := oc_so H
  refine nx_null1 rfl rfl ?_
  refine nx_ld rfl rfl rfl rfl ?_
  refine nx_if rfl rfl (by rfl) H (fun H => ?_) (fun H => ?_)
  · refine nx_ld rfl rfl rfl rfl ?_
    refine nx_ld rfl rfl rfl rfl ?_
    refine nx_ld rfl rfl rfl rfl ?_
    refine nx_ld rfl rfl rfl rfl ?_
    refine nx_cVO 9 (as := [eI v1, eO 1 (some j22)]) (st' := [eR (some (12, 0))]) rfl rfl (Nat.le_of_ble_eq_true rfl) rfl rfl (Nat.le_of_ble_eq_true rfl) (c0 := 12) rfl (by decide) H (fun Q H => TF_X12_ruleToday hW  H) (fun r23 H => ?_)
    refine nx_ld rfl rfl rfl rfl ?_
    refine nx_ld rfl rfl rfl rfl ?_
    show nX _ _ _ _ _ _ 76 _ _ _ _ _
    refine nx_nul 1 rfl rfl ?_
    refine nx_cVI2 (as := [eO 9 r23, eO 1 (some j22), eO 1 v5, eO 1 none]) (st' := []) rfl rfl (Nat.le_of_ble_eq_true rfl) rfl rfl (Nat.le_of_ble_eq_true rfl) (c0 := 12) rfl (by decide) H (fun Q H => TF_X12_brokenLine hW  H) (fun x25 t26 H => ?_)
    refine nx_st (ls' := [some (eR (some (12, 0))), some (eI v1), some (eI v2), some (eI v3), some (eR (some (1, j22))), some (eO 1 v5), some (eI s0), some (eI x25)]) rfl rfl rfl (Nat.le_of_ble_eq_true rfl) rfl ?_
    refine nx_ld rfl rfl rfl rfl ?_
    refine nx_if rfl rfl (by rfl) H (fun H => ?_) (fun H => ?_)
    · refine nx_ld rfl rfl rfl rfl ?_
      exact nx_rit rfl rfl H
    refine nx_int (x := (-2)) rfl rfl ?_
    refine nx_goto rfl rfl ?_
    exact nx_rit rfl rfl H
  refine nx_int (x := (-1)) rfl rfl ?_
  exact nx_rit rfl rfl H
def F_X12_holds (t : TS) (x1 : Int32) (x2 : Int32) (x3 : Int32) : Option (Int32 × TS) := (Option.bind (F_X12_clubAt t x2) (fun r21 => (Option.bind (F_X12_playerAt t x3) (fun r22 => (if ¬ x1 = 0 then (if ¬ x3 = (-1) then (B_X12_holds_41  t x1 r21 r22 0) else (B_X12_holds_41  t x1 r21 r22 1)) else (oc r22 (B_X12_holds_41  t x1 r21 none 0) (fun j23 => (B_X12_holds_41  t x1 r21 (some j23) 1))))))))
theorem TF_X12_holds {W : NW} {d : Nat} {t : TS} {x1 : Int32} {x2 : Int32} {x3 : Int32} {Q : Option NV → TS → Prop} {bc bs : Nat} (hW : W.2.2.2 = mm_fx) (H : wp (F_X12_holds t x1 x2 x3) (fun r => Q (some (eI r.1)) r.2)) : nC W (d + 209) 92 [eR (some (12, 0)), eI x1, eI x2, eI x3] t bc bs Q := by
  refine nC_in (d := (d + 208)) (T := tX12_holds) (ls := [some (eR (some (12, 0))), some (eI x1), some (eI x2), some (eI x3), none, none, none, none]) rfl (Nat.le_of_ble_eq_true rfl) rfl (fun a0 e0 => ?_)
  unfold F_X12_holds at H
  refine nx_ld rfl rfl rfl rfl ?_
  refine nx_ld rfl rfl rfl rfl ?_
  refine nx_cVO 1 (as := [eI x2]) (st' := []) rfl rfl (Nat.le_of_ble_eq_true rfl) rfl rfl (Nat.le_of_ble_eq_true rfl) (c0 := 12) rfl (by decide) H (fun Q H => TF_X12_clubAt hW  H) (fun r21 H => ?_)
  refine nx_st (ls' := [some (eR (some (12, 0))), some (eI x1), some (eI x2), some (eI x3), some (eO 1 r21), none, none, none]) rfl rfl rfl (Nat.le_of_ble_eq_true rfl) rfl ?_
  refine nx_ld rfl rfl rfl rfl ?_
  refine nx_ld rfl rfl rfl rfl ?_
  refine nx_cVO 1 (as := [eI x3]) (st' := []) rfl rfl (Nat.le_of_ble_eq_true rfl) rfl rfl (Nat.le_of_ble_eq_true rfl) (c0 := 12) rfl (by decide) H (fun Q H => TF_X12_playerAt hW  H) (fun r22 H => ?_)
  show nX _ _ _ _ _ _ 12 _ _ _ _ _
  refine nx_st (ls' := [some (eR (some (12, 0))), some (eI x1), some (eI x2), some (eI x3), some (eO 1 r21), some (eO 1 r22), none, none]) rfl rfl rfl (Nat.le_of_ble_eq_true rfl) rfl ?_
  refine nx_ld rfl rfl rfl rfl ?_
  refine nx_if rfl rfl (by rfl) H (fun H => ?_) (fun H => ?_)
  · refine nx_ld rfl rfl rfl rfl ?_
    refine nx_int (x := (-1)) rfl rfl ?_
    refine nx_icmp rfl rfl (by rfl) H (fun H => ?_) (fun H => ?_)
    · refine nx_int (x := 0) rfl rfl ?_
      exact TB_X12_holds_41 hW    _ _ _ _ _ _ _ H
    refine nx_int (x := 1) rfl rfl ?_
    refine nx_goto rfl rfl ?_
    exact TB_X12_holds_41 hW    _ _ _ _ _ _ _ H
  refine nx_ld rfl rfl rfl rfl ?_
  rcases r22 with _ | j23
  · replace H := oc_no H
    refine nx_null0 (c := 1) rfl rfl ?_
    refine nx_int (x := 0) rfl rfl ?_
    refine nx_goto rfl rfl ?_
    exact TB_X12_holds_41 hW    _ _ _ _ _ _ _ H
  replace H := oc_so H
  refine nx_null1 rfl rfl ?_
  refine nx_int (x := 1) rfl rfl ?_
  refine nx_goto rfl rfl ?_
  exact TB_X12_holds_41 hW    _ _ _ _ _ ((some j23)) _ H
def B_X12_tryCap_103 (k42 : TS → Int32 → Int32 → Int32 → Int32 → Option (Int32 × TS)) (t : TS) (v1 : Int32) (v2 : Int32) (v3 : Int32) (v4 : Int32) : Option (Int32 × TS) := (k42 t v1 v2 v3 (v4 + 1))
theorem TB_X12_tryCap_103 {W : NW} {d : Nat} {Q : Option NV → TS → Prop} {a0 : Nat → Nat → Nat} {e0 : Nat → Nat → Bool} {k42 : TS → Int32 → Int32 → Int32 → Int32 → Option (Int32 × TS)} {bc bs : Nat} (hW : W.2.2.2 = mm_fx) (hk42 : ∀ (t : TS) (v1 : Int32) (v2 : Int32) (v3 : Int32) (v4 : Int32), wp (k42 t v1 v2 v3 v4) (fun r => Q (some (eI r.1)) r.2) → nX W (d + 208) tX12_tryCap Q a0 e0 42 [some (eR (some (12, 0))), some (eI v1), some (eI v2), some (eI v3), some (eI v4)] [] t bc bs) : ∀ (t : TS) (v1 : Int32) (v2 : Int32) (v3 : Int32) (v4 : Int32), wp (B_X12_tryCap_103 k42 t v1 v2 v3 v4) (fun r => Q (some (eI r.1)) r.2) → nX W (d + 208) tX12_tryCap Q a0 e0 103 [some (eR (some (12, 0))), some (eI v1), some (eI v2), some (eI v3), some (eI v4)] [] t bc bs := by
  intro t v1 v2 v3 v4 H
  unfold B_X12_tryCap_103 at H
  refine nx_iinc2 1 (ls' := [some (eR (some (12, 0))), some (eI v1), some (eI v2), some (eI v3), some (eI (v4 + 1))]) rfl rfl rfl rfl rfl ?_
  refine nx_goto rfl rfl ?_
  exact hk42 _ _ _ _ _ H
def BB_X12_tryCap_42 (k42 : TS → Int32 → Int32 → Int32 → Int32 → Option (Int32 × TS)) (t : TS) (v1 : Int32) (v2 : Int32) (v3 : Int32) (v4 : Int32) : Option (Int32 × TS) := (if (tI t 1204 0) ≤ v4 then (some (v3, t)) else (gd v4 (tL t 3203 0) (nxt (tQ t 3203 0 v4.toNatClampNeg) (fun o21 => (oc o21 none (fun j22 => (Option.bind (F_X1_isClub t j22) (fun r23 => (if r23 = 0 then (B_X12_tryCap_103 k42 t v1 v2 v3 v4) else (gd v4 (tL t 3203 0) (nxt (tQ t 3203 0 v4.toNatClampNeg) (fun o24 => (oc o24 none (fun j25 => (if ¬ (tI t 102 j25) = v2 then (B_X12_tryCap_103 k42 t v1 v2 v3 v4) else (gd v1 (tL t 3211 0) (nxt (tQ t 3211 0 v1.toNatClampNeg) (fun o26 => (gd v4 (tL t 3203 0) (nxt (tQ t 3203 0 v4.toNatClampNeg) (fun o27 => (ob2 (F_X12_brokenLine t o26 o27 none none) (fun x29 t30 => (if x29 < 0 then (B_X12_tryCap_103 k42 t30 v1 v2 v3 v4) else (B_X12_tryCap_103 k42 t30 v1 v2 (v3 + 1) v4)))))))))))))))))))))))))
theorem TBB_X12_tryCap_42 {W : NW} {d : Nat} {Q : Option NV → TS → Prop} {a0 : Nat → Nat → Nat} {e0 : Nat → Nat → Bool} {k42 : TS → Int32 → Int32 → Int32 → Int32 → Option (Int32 × TS)} {bc bs : Nat} (hW : W.2.2.2 = mm_fx) (hk42 : ∀ (t : TS) (v1 : Int32) (v2 : Int32) (v3 : Int32) (v4 : Int32), wp (k42 t v1 v2 v3 v4) (fun r => Q (some (eI r.1)) r.2) → nX W (d + 208) tX12_tryCap Q a0 e0 42 [some (eR (some (12, 0))), some (eI v1), some (eI v2), some (eI v3), some (eI v4)] [] t bc bs) : ∀ (t : TS) (v1 : Int32) (v2 : Int32) (v3 : Int32) (v4 : Int32), wp (BB_X12_tryCap_42 k42 t v1 v2 v3 v4) (fun r => Q (some (eI r.1)) r.2) → nX W (d + 208) tX12_tryCap Q a0 e0 42 [some (eR (some (12, 0))), some (eI v1), some (eI v2), some (eI v3), some (eI v4)] [] t bc bs := by
  intro t v1 v2 v3 v4 H
  unfold BB_X12_tryCap_42 at H
  refine nx_ld rfl rfl rfl rfl ?_
  refine nx_ld rfl rfl rfl rfl ?_
  refine nx_getI rfl rfl rfl (by decide) ?_
  refine nx_icmp rfl rfl (by rfl) H (fun H => ?_) (fun H => ?_)
  · refine nx_ld rfl rfl rfl rfl ?_
    exact nx_rit rfl rfl H
  refine nx_ld rfl rfl rfl rfl ?_
  refine nx_getFix rfl rfl rfl (by decide) (by rw [hW]; rfl) rfl ?_
  refine nx_ld rfl rfl rfl rfl ?_
  refine nx_aald (c := 3203) (i := 0) rfl rfl (Nat.le_of_ble_eq_true rfl) (Nat.le_of_ble_eq_true rfl) (Nat.le_of_ble_eq_true rfl) rfl H (fun o21 H => ?_)
  rcases o21 with _ | j22
  · exact (wp_none (oc_no H)).elim
  replace H := oc_so H
  refine nx_cVI (as := []) (st' := []) rfl rfl (Nat.le_of_ble_eq_true rfl) rfl rfl (Nat.le_of_ble_eq_true rfl) (c0 := 1) rfl (by decide) H (fun Q H => TF_X1_isClub hW  H) (fun r23 H => ?_)
  refine nx_if rfl rfl (by rfl) H (fun H => ?_) (fun H => ?_)
  · exact TB_X12_tryCap_103 hW   hk42 _ _ _ _ _ H
  refine nx_ld rfl rfl rfl rfl ?_
  refine nx_getFix rfl rfl rfl (by decide) (by rw [hW]; rfl) rfl ?_
  refine nx_ld rfl rfl rfl rfl ?_
  refine nx_aald (c := 3203) (i := 0) rfl rfl (Nat.le_of_ble_eq_true rfl) (Nat.le_of_ble_eq_true rfl) (Nat.le_of_ble_eq_true rfl) rfl H (fun o24 H => ?_)
  rcases o24 with _ | j25
  · exact (wp_none (oc_no H)).elim
  replace H := oc_so H
  refine nx_getI rfl rfl rfl (by decide) ?_
  refine nx_ld rfl rfl rfl rfl ?_
  refine nx_icmp rfl rfl (by rfl) H (fun H => ?_) (fun H => ?_)
  · exact TB_X12_tryCap_103 hW   hk42 _ _ _ _ _ H
  refine nx_ld rfl rfl rfl rfl ?_
  refine nx_ld rfl rfl rfl rfl ?_
  refine nx_getFix rfl rfl rfl (by decide) (by rw [hW]; rfl) rfl ?_
  refine nx_ld rfl rfl rfl rfl ?_
  refine nx_aald (c := 3211) (i := 0) rfl rfl (Nat.le_of_ble_eq_true rfl) (Nat.le_of_ble_eq_true rfl) (Nat.le_of_ble_eq_true rfl) rfl H (fun o26 H => ?_)
  refine nx_ld rfl rfl rfl rfl ?_
  refine nx_getFix rfl rfl rfl (by decide) (by rw [hW]; rfl) rfl ?_
  show nX _ _ _ _ _ _ 89 _ _ _ _ _
  refine nx_ld rfl rfl rfl rfl ?_
  refine nx_aald (c := 3203) (i := 0) rfl rfl (Nat.le_of_ble_eq_true rfl) (Nat.le_of_ble_eq_true rfl) (Nat.le_of_ble_eq_true rfl) rfl H (fun o27 H => ?_)
  refine nx_nul 1 rfl rfl ?_
  refine nx_nul 1 rfl rfl ?_
  refine nx_cVI2 (as := [eO 9 o26, eO 1 o27, eO 1 none, eO 1 none]) (st' := []) rfl rfl (Nat.le_of_ble_eq_true rfl) rfl rfl (Nat.le_of_ble_eq_true rfl) (c0 := 12) rfl (by decide) H (fun Q H => TF_X12_brokenLine hW  H) (fun x29 t30 H => ?_)
  refine nx_if rfl rfl (by rfl) H (fun H => ?_) (fun H => ?_)
  · exact TB_X12_tryCap_103 hW   hk42 _ _ _ _ _ H
  refine nx_iinc2 1 (ls' := [some (eR (some (12, 0))), some (eI v1), some (eI v2), some (eI (v3 + 1)), some (eI v4)]) rfl rfl rfl rfl rfl ?_
  exact TB_X12_tryCap_103 hW   hk42 _ _ _ _ _ H
def B_X12_tryCap_42 : Nat → TS → Int32 → Int32 → Int32 → Int32 → Option (Int32 × TS)
  | 0 => fun _ _ _ _ _ => none
  | n + 1 => fun t v1 v2 v3 v4 => BB_X12_tryCap_42 (B_X12_tryCap_42 n) t v1 v2 v3 v4
theorem TB_X12_tryCap_42 {W : NW} {d : Nat} {Q : Option NV → TS → Prop} {a0 : Nat → Nat → Nat} {e0 : Nat → Nat → Bool} {bc bs : Nat} (hW : W.2.2.2 = mm_fx) : ∀ (n : Nat) (t : TS) (v1 : Int32) (v2 : Int32) (v3 : Int32) (v4 : Int32), wp (B_X12_tryCap_42 n t v1 v2 v3 v4) (fun r => Q (some (eI r.1)) r.2) → nX W (d + 208) tX12_tryCap Q a0 e0 42 [some (eR (some (12, 0))), some (eI v1), some (eI v2), some (eI v3), some (eI v4)] [] t bc bs := by
  intro n
  induction n with
  | zero => intro t v1 v2 v3 v4 H; exact (wp_none H).elim
  | succ n ih =>
    intro t v1 v2 v3 v4 H
    exact TBB_X12_tryCap_42 hW    ih t v1 v2 v3 v4 H
def F_X12_tryCap (t : TS) (x1 : Int32) (x2 : Int32) : Option (Int32 × TS) := (Option.bind (F_X12_within t x1 0 ((tI t 1212 0) - 1)) (fun r21 => (if r21 = 0 then (some ((-1), t)) else (Option.bind (F_X12_leagueAt t x2) (fun r22 => (oc r22 (some ((-1), t)) (fun j23 => (gd x1 (tL t 3211 0) (nxt (tQ t 3211 0 x1.toNatClampNeg) (fun o24 => (oc o24 none (fun j25 => (Option.bind (F_X9_use t j25) (fun r26 => (if r26 = 2 then (B_X12_tryCap_42  10000 t x1 x2 0 0) else (some ((-1), t)))))))))))))))))
theorem TF_X12_tryCap {W : NW} {d : Nat} {t : TS} {x1 : Int32} {x2 : Int32} {Q : Option NV → TS → Prop} {bc bs : Nat} (hW : W.2.2.2 = mm_fx) (H : wp (F_X12_tryCap t x1 x2) (fun r => Q (some (eI r.1)) r.2)) : nC W (d + 209) 93 [eR (some (12, 0)), eI x1, eI x2] t bc bs Q := by
  refine nC_in (d := (d + 208)) (T := tX12_tryCap) (ls := [some (eR (some (12, 0))), some (eI x1), some (eI x2), none, none]) rfl (Nat.le_of_ble_eq_true rfl) rfl (fun a0 e0 => ?_)
  unfold F_X12_tryCap at H
  refine nx_ld rfl rfl rfl rfl ?_
  refine nx_int (x := 0) rfl rfl ?_
  refine nx_ld rfl rfl rfl rfl ?_
  refine nx_getI rfl rfl rfl (by decide) ?_
  refine nx_int (x := 1) rfl rfl ?_
  refine nx_ii rfl rfl ?_
  refine nx_cSI (as := [eI x1, eI 0, eI ((tI t 1212 0) - 1)]) (st' := []) rfl rfl (Nat.le_of_ble_eq_true rfl) rfl rfl (Nat.le_of_ble_eq_true rfl) H (fun Q H => TF_X12_within hW  H) (fun r21 H => ?_)
  show nX _ _ _ _ _ _ 11 _ _ _ _ _
  refine nx_if rfl rfl (by rfl) H (fun H => ?_) (fun H => ?_)
  · refine nx_int (x := (-1)) rfl rfl ?_
    exact nx_rit rfl rfl H
  refine nx_ld rfl rfl rfl rfl ?_
  refine nx_ld rfl rfl rfl rfl ?_
  refine nx_cVO 5 (as := [eI x2]) (st' := []) rfl rfl (Nat.le_of_ble_eq_true rfl) rfl rfl (Nat.le_of_ble_eq_true rfl) (c0 := 12) rfl (by decide) H (fun Q H => TF_X12_leagueAt hW  H) (fun r22 H => ?_)
  rcases r22 with _ | j23
  · replace H := oc_no H
    refine nx_null0 (c := 5) rfl rfl ?_
    refine nx_int (x := (-1)) rfl rfl ?_
    exact nx_rit rfl rfl H
  replace H := oc_so H
  refine nx_null1 rfl rfl ?_
  refine nx_ld rfl rfl rfl rfl ?_
  refine nx_getFix rfl rfl rfl (by decide) (by rw [hW]; rfl) rfl ?_
  refine nx_ld rfl rfl rfl rfl ?_
  refine nx_aald (c := 3211) (i := 0) rfl rfl (Nat.le_of_ble_eq_true rfl) (Nat.le_of_ble_eq_true rfl) (Nat.le_of_ble_eq_true rfl) rfl H (fun o24 H => ?_)
  rcases o24 with _ | j25
  · exact (wp_none (oc_no H)).elim
  replace H := oc_so H
  refine nx_cVI (as := []) (st' := []) rfl rfl (Nat.le_of_ble_eq_true rfl) rfl rfl (Nat.le_of_ble_eq_true rfl) (c0 := 9) rfl (by decide) H (fun Q H => TF_X9_use hW  H) (fun r26 H => ?_)
  refine nx_int (x := 2) rfl rfl ?_
  refine nx_icmp rfl rfl (by rfl) H (fun H => ?_) (fun H => ?_)
  · refine nx_int (x := 0) rfl rfl ?_
    refine nx_st (ls' := [some (eR (some (12, 0))), some (eI x1), some (eI x2), some (eI 0), none]) rfl rfl rfl (Nat.le_of_ble_eq_true rfl) rfl ?_
    refine nx_int (x := 0) rfl rfl ?_
    refine nx_st (ls' := [some (eR (some (12, 0))), some (eI x1), some (eI x2), some (eI 0), some (eI 0)]) rfl rfl rfl (Nat.le_of_ble_eq_true rfl) rfl ?_
    exact TB_X12_tryCap_42 hW    10000 _ _ _ _ _ H
  refine nx_int (x := (-1)) rfl rfl ?_
  exact nx_rit rfl rfl H
def F_X12_deal (t : TS) (x1 : Int32) (x2 : Int32) (x3 : Int32) (x4 : Int32) : Option (Int32 × TS) := (Option.bind (F_X12_playerAt t x1) (fun r21 => (Option.bind (F_X12_clubAt t x2) (fun r22 => (oc r21 (some ((-1), t)) (fun j23 => (oc r22 (some ((-1), t)) (fun j24 => (Option.bind (F_X12_within t x3 0 999999) (fun r25 => (if ¬ r25 = 0 then (Option.bind (F_X1_owning t j23 (tI t 1200 0)) (fun r26 => (oc r26 (some ((-1), t)) (fun j27 => (nxt (tR t 1101 j27) (fun o28 => (if (o28 : Option Nat) = (some j24) then (some ((-1), t)) else (Option.bind (F_X12_within t x4 (-1) 5) (fun r29 => (if r29 = 0 then (some ((-1), t)) else (if ¬ x4 = (tI t 405 0) then (ob2 (F_X4_add t (some j23) (some j24) x3 x4) (fun x31 t32 => (if x31 = 0 then (some ((-3), t32)) else (some ((tI t32 405 0), t32))))) else (some ((-1), t))))))))))))) else (some ((-1), t)))))))))))))
theorem TF_X12_deal {W : NW} {d : Nat} {t : TS} {x1 : Int32} {x2 : Int32} {x3 : Int32} {x4 : Int32} {Q : Option NV → TS → Prop} {bc bs : Nat} (hW : W.2.2.2 = mm_fx) (H : wp (F_X12_deal t x1 x2 x3 x4) (fun r => Q (some (eI r.1)) r.2)) : nC W (d + 4) 94 [eR (some (12, 0)), eI x1, eI x2, eI x3, eI x4] t bc bs Q := by
  refine nC_in (d := (d + 3)) (T := tX12_deal) (ls := [some (eR (some (12, 0))), some (eI x1), some (eI x2), some (eI x3), some (eI x4), none, none, none]) rfl (Nat.le_of_ble_eq_true rfl) rfl (fun a0 e0 => ?_)
  unfold F_X12_deal at H
  refine nx_ld rfl rfl rfl rfl ?_
  refine nx_ld rfl rfl rfl rfl ?_
  refine nx_cVO 1 (as := [eI x1]) (st' := []) rfl rfl (Nat.le_of_ble_eq_true rfl) rfl rfl (Nat.le_of_ble_eq_true rfl) (c0 := 12) rfl (by decide) H (fun Q H => TF_X12_playerAt hW  H) (fun r21 H => ?_)
  refine nx_st (ls' := [some (eR (some (12, 0))), some (eI x1), some (eI x2), some (eI x3), some (eI x4), some (eO 1 r21), none, none]) rfl rfl rfl (Nat.le_of_ble_eq_true rfl) rfl ?_
  refine nx_ld rfl rfl rfl rfl ?_
  refine nx_ld rfl rfl rfl rfl ?_
  refine nx_cVO 1 (as := [eI x2]) (st' := []) rfl rfl (Nat.le_of_ble_eq_true rfl) rfl rfl (Nat.le_of_ble_eq_true rfl) (c0 := 12) rfl (by decide) H (fun Q H => TF_X12_clubAt hW  H) (fun r22 H => ?_)
  show nX _ _ _ _ _ _ 12 _ _ _ _ _
  refine nx_st (ls' := [some (eR (some (12, 0))), some (eI x1), some (eI x2), some (eI x3), some (eI x4), some (eO 1 r21), some (eO 1 r22), none]) rfl rfl rfl (Nat.le_of_ble_eq_true rfl) rfl ?_
  refine nx_ld rfl rfl rfl rfl ?_
  rcases r21 with _ | j23
  · replace H := oc_no H
    refine nx_null0 (c := 1) rfl rfl ?_
    refine nx_int (x := (-1)) rfl rfl ?_
    exact nx_rit rfl rfl H
  replace H := oc_so H
  refine nx_null1 rfl rfl ?_
  refine nx_ld rfl rfl rfl rfl ?_
  rcases r22 with _ | j24
  · replace H := oc_no H
    refine nx_null0 (c := 1) rfl rfl ?_
    refine nx_int (x := (-1)) rfl rfl ?_
    exact nx_rit rfl rfl H
  replace H := oc_so H
  refine nx_null1 rfl rfl ?_
  refine nx_ld rfl rfl rfl rfl ?_
  refine nx_int (x := 0) rfl rfl ?_
  refine nx_int (x := 999999) rfl rfl ?_
  refine nx_cSI (as := [eI x3, eI 0, eI 999999]) (st' := []) rfl rfl (Nat.le_of_ble_eq_true rfl) rfl rfl (Nat.le_of_ble_eq_true rfl) H (fun Q H => TF_X12_within hW  H) (fun r25 H => ?_)
  refine nx_if rfl rfl (by rfl) H (fun H => ?_) (fun H => ?_)
  · refine nx_ld rfl rfl rfl rfl ?_
    refine nx_ld rfl rfl rfl rfl ?_
    refine nx_getI rfl rfl rfl (by decide) ?_
    refine nx_cVO 11 (as := [eI (tI t 1200 0)]) (st' := []) rfl rfl (Nat.le_of_ble_eq_true rfl) rfl rfl (Nat.le_of_ble_eq_true rfl) (c0 := 1) rfl (by decide) H (fun Q H => TF_X1_owning hW  H) (fun r26 H => ?_)
    refine nx_st (ls' := [some (eR (some (12, 0))), some (eI x1), some (eI x2), some (eI x3), some (eI x4), some (eR (some (1, j23))), some (eR (some (1, j24))), some (eO 11 r26)]) rfl rfl rfl (Nat.le_of_ble_eq_true rfl) rfl ?_
    refine nx_ld rfl rfl rfl rfl ?_
    rcases r26 with _ | j27
    · replace H := oc_no H
      refine nx_null0 (c := 11) rfl rfl ?_
      refine nx_int (x := (-1)) rfl rfl ?_
      exact nx_rit rfl rfl H
    replace H := oc_so H
    refine nx_null1 rfl rfl ?_
    refine nx_ld rfl rfl rfl rfl ?_
    refine nx_getR rfl rfl rfl (by decide) rfl H (fun o28 H => ?_)
    refine nx_ld rfl rfl rfl rfl ?_
    refine nx_aeq (c := 1) (o1 := o28) (o2 := (some j24)) rfl rfl (by decide) H (fun H => ?_) (fun H => ?_)
    · refine nx_int (x := (-1)) rfl rfl ?_
      exact nx_rit rfl rfl H
    refine nx_ld rfl rfl rfl rfl ?_
    refine nx_int (x := (-1)) rfl rfl ?_
    refine nx_int (x := 5) rfl rfl ?_
    refine nx_cSI (as := [eI x4, eI (-1), eI 5]) (st' := []) rfl rfl (Nat.le_of_ble_eq_true rfl) rfl rfl (Nat.le_of_ble_eq_true rfl) H (fun Q H => TF_X12_within hW  H) (fun r29 H => ?_)
    refine nx_if rfl rfl (by rfl) H (fun H => ?_) (fun H => ?_)
    · refine nx_int (x := (-1)) rfl rfl ?_
      exact nx_rit rfl rfl H
    refine nx_ld rfl rfl rfl rfl ?_
    refine nx_ld rfl rfl rfl rfl ?_
    refine nx_getFix rfl rfl rfl (by decide) (by rw [hW]; rfl) rfl ?_
    refine nx_getI rfl rfl rfl (by decide) ?_
    refine nx_icmp rfl rfl (by rfl) H (fun H => ?_) (fun H => ?_)
    · refine nx_ld rfl rfl rfl rfl ?_
      refine nx_getFix rfl rfl rfl (by decide) (by rw [hW]; rfl) rfl ?_
      refine nx_ld rfl rfl rfl rfl ?_
      refine nx_ld rfl rfl rfl rfl ?_
      refine nx_ld rfl rfl rfl rfl ?_
      refine nx_ld rfl rfl rfl rfl ?_
      refine nx_cVI2 (as := [eO 1 (some j23), eO 1 (some j24), eI x3, eI x4]) (st' := []) rfl rfl (Nat.le_of_ble_eq_true rfl) rfl rfl (Nat.le_of_ble_eq_true rfl) (c0 := 4) rfl (by decide) H (fun Q H => TF_X4_add hW  H) (fun x31 t32 H => ?_)
      show nX _ _ _ _ _ _ 101 _ _ _ _ _
      refine nx_if rfl rfl (by rfl) H (fun H => ?_) (fun H => ?_)
      · refine nx_int (x := (-3)) rfl rfl ?_
        exact nx_rit rfl rfl H
      refine nx_ld rfl rfl rfl rfl ?_
      refine nx_getFix rfl rfl rfl (by decide) (by rw [hW]; rfl) rfl ?_
      refine nx_getI rfl rfl rfl (by decide) ?_
      refine nx_goto rfl rfl ?_
      exact nx_rit rfl rfl H
    refine nx_int (x := (-1)) rfl rfl ?_
    exact nx_rit rfl rfl H
  refine nx_int (x := (-1)) rfl rfl ?_
  exact nx_rit rfl rfl H
def F_X12_chain (t : TS) : Option (Int32 × TS) := (if ¬ (tI t 405 0) = 0 then (ob2 (F_X4_takeGreatest t (tI t 1200 0)) (fun x22 t23 => (some (x22, t23)))) else (some ((-1), t)))
theorem TF_X12_chain {W : NW} {d : Nat} {t : TS} {Q : Option NV → TS → Prop} {bc bs : Nat} (hW : W.2.2.2 = mm_fx) (H : wp (F_X12_chain t) (fun r => Q (some (eI r.1)) r.2)) : nC W (d + 4) 95 [eR (some (12, 0))] t bc bs Q := by
  refine nC_in (d := (d + 3)) (T := tX12_chain) (ls := [some (eR (some (12, 0)))]) rfl (Nat.le_of_ble_eq_true rfl) rfl (fun a0 e0 => ?_)
  unfold F_X12_chain at H
  refine nx_ld rfl rfl rfl rfl ?_
  refine nx_getFix rfl rfl rfl (by decide) (by rw [hW]; rfl) rfl ?_
  refine nx_getI rfl rfl rfl (by decide) ?_
  refine nx_if rfl rfl (by rfl) H (fun H => ?_) (fun H => ?_)
  · refine nx_ld rfl rfl rfl rfl ?_
    refine nx_getFix rfl rfl rfl (by decide) (by rw [hW]; rfl) rfl ?_
    refine nx_ld rfl rfl rfl rfl ?_
    refine nx_getI rfl rfl rfl (by decide) ?_
    refine nx_cVI2 (as := [eI (tI t 1200 0)]) (st' := []) rfl rfl (Nat.le_of_ble_eq_true rfl) rfl rfl (Nat.le_of_ble_eq_true rfl) (c0 := 4) rfl (by decide) H (fun Q H => TF_X4_takeGreatest hW  H) (fun x22 t23 H => ?_)
    exact nx_rit rfl rfl H
  refine nx_int (x := (-1)) rfl rfl ?_
  refine nx_goto rfl rfl ?_
  exact nx_rit rfl rfl H
def F_X12_wish (t : TS) (x1 : Int32) : Option (Int32 × TS) := (Option.bind (F_X12_within t x1 0 255) (fun r21 => (if r21 = 0 then (some ((-1), t)) else (if ((x1 >>> ((tI t 801 0) &&& 31)) &&& 1) = 0 then (ob2 (F_X8_add t x1) (fun x23 t24 => (if x23 = 0 then (some ((-3), t24)) else (some ((tI t24 801 0), t24))))) else (some ((-1), t))))))
theorem TF_X12_wish {W : NW} {d : Nat} {t : TS} {x1 : Int32} {Q : Option NV → TS → Prop} {bc bs : Nat} (hW : W.2.2.2 = mm_fx) (H : wp (F_X12_wish t x1) (fun r => Q (some (eI r.1)) r.2)) : nC W (d + 2) 96 [eR (some (12, 0)), eI x1] t bc bs Q := by
  refine nC_in (d := (d + 1)) (T := tX12_wish) (ls := [some (eR (some (12, 0))), some (eI x1)]) rfl (Nat.le_of_ble_eq_true rfl) rfl (fun a0 e0 => ?_)
  unfold F_X12_wish at H
  refine nx_ld rfl rfl rfl rfl ?_
  refine nx_int (x := 0) rfl rfl ?_
  refine nx_int (x := 255) rfl rfl ?_
  refine nx_cSI (as := [eI x1, eI 0, eI 255]) (st' := []) rfl rfl (Nat.le_of_ble_eq_true rfl) rfl rfl (Nat.le_of_ble_eq_true rfl) H (fun Q H => TF_X12_within hW  H) (fun r21 H => ?_)
  refine nx_if rfl rfl (by rfl) H (fun H => ?_) (fun H => ?_)
  · refine nx_int (x := (-1)) rfl rfl ?_
    exact nx_rit rfl rfl H
  refine nx_ld rfl rfl rfl rfl ?_
  refine nx_ld rfl rfl rfl rfl ?_
  refine nx_getFix rfl rfl rfl (by decide) (by rw [hW]; rfl) rfl ?_
  refine nx_getI rfl rfl rfl (by decide) ?_
  refine nx_ii rfl rfl ?_
  refine nx_int (x := 1) rfl rfl ?_
  refine nx_ii rfl rfl ?_
  show nX _ _ _ _ _ _ 22 _ _ _ _ _
  refine nx_if rfl rfl (by rfl) H (fun H => ?_) (fun H => ?_)
  · refine nx_ld rfl rfl rfl rfl ?_
    refine nx_getFix rfl rfl rfl (by decide) (by rw [hW]; rfl) rfl ?_
    refine nx_ld rfl rfl rfl rfl ?_
    refine nx_cVI2 (as := [eI x1]) (st' := []) rfl rfl (Nat.le_of_ble_eq_true rfl) rfl rfl (Nat.le_of_ble_eq_true rfl) (c0 := 8) rfl (by decide) H (fun Q H => TF_X8_add hW  H) (fun x23 t24 H => ?_)
    refine nx_if rfl rfl (by rfl) H (fun H => ?_) (fun H => ?_)
    · refine nx_int (x := (-3)) rfl rfl ?_
      exact nx_rit rfl rfl H
    refine nx_ld rfl rfl rfl rfl ?_
    refine nx_getFix rfl rfl rfl (by decide) (by rw [hW]; rfl) rfl ?_
    refine nx_getI rfl rfl rfl (by decide) ?_
    refine nx_goto rfl rfl ?_
    exact nx_rit rfl rfl H
  refine nx_int (x := (-1)) rfl rfl ?_
  exact nx_rit rfl rfl H
def F_X12_rings (t : TS) : Option (Int32 × TS) := (if ¬ (tI t 801 0) = 0 then (ob2 (F_X8_takeMost t) (fun x22 t23 => (some (x22, t23)))) else (some ((-1), t)))
theorem TF_X12_rings {W : NW} {d : Nat} {t : TS} {Q : Option NV → TS → Prop} {bc bs : Nat} (hW : W.2.2.2 = mm_fx) (H : wp (F_X12_rings t) (fun r => Q (some (eI r.1)) r.2)) : nC W (d + 4) 97 [eR (some (12, 0))] t bc bs Q := by
  refine nC_in (d := (d + 3)) (T := tX12_rings) (ls := [some (eR (some (12, 0)))]) rfl (Nat.le_of_ble_eq_true rfl) rfl (fun a0 e0 => ?_)
  unfold F_X12_rings at H
  refine nx_ld rfl rfl rfl rfl ?_
  refine nx_getFix rfl rfl rfl (by decide) (by rw [hW]; rfl) rfl ?_
  refine nx_getI rfl rfl rfl (by decide) ?_
  refine nx_if rfl rfl (by rfl) H (fun H => ?_) (fun H => ?_)
  · refine nx_ld rfl rfl rfl rfl ?_
    refine nx_getFix rfl rfl rfl (by decide) (by rw [hW]; rfl) rfl ?_
    refine nx_cVI2 (as := []) (st' := []) rfl rfl (Nat.le_of_ble_eq_true rfl) rfl rfl (Nat.le_of_ble_eq_true rfl) (c0 := 8) rfl (by decide) H (fun Q H => TF_X8_takeMost hW  H) (fun x22 t23 H => ?_)
    exact nx_rit rfl rfl H
  refine nx_int (x := (-1)) rfl rfl ?_
  refine nx_goto rfl rfl ?_
  exact nx_rit rfl rfl H
def F_X12_gets (t : TS) (x1 : Int32) : Option Int32 := (Option.bind (F_X12_within t x1 0 ((tI t 803 0) - 1)) (fun r21 => (if ¬ r21 = 0 then (gd x1 (tL t 2802 0) (if ¬ (tA t 2802 0 x1.toNatClampNeg) = x1 then (gd x1 (tL t 2802 0) (some ((tA t 2802 0 x1.toNatClampNeg)))) else (some ((-2))))) else (some ((-1))))))
theorem TF_X12_gets {W : NW} {d : Nat} {t : TS} {x1 : Int32} {Q : Option NV → TS → Prop} {bc bs : Nat} (hW : W.2.2.2 = mm_fx) (H : wp (F_X12_gets t x1) (fun r => Q (some (eI r)) t)) : nC W (d + 2) 98 [eR (some (12, 0)), eI x1] t bc bs Q := by
  refine nC_in (d := (d + 1)) (T := tX12_gets) (ls := [some (eR (some (12, 0))), some (eI x1)]) rfl (Nat.le_of_ble_eq_true rfl) rfl (fun a0 e0 => ?_)
  unfold F_X12_gets at H
  refine nx_ld rfl rfl rfl rfl ?_
  refine nx_int (x := 0) rfl rfl ?_
  refine nx_ld rfl rfl rfl rfl ?_
  refine nx_getFix rfl rfl rfl (by decide) (by rw [hW]; rfl) rfl ?_
  refine nx_getI rfl rfl rfl (by decide) ?_
  refine nx_int (x := 1) rfl rfl ?_
  refine nx_ii rfl rfl ?_
  show nX _ _ _ _ _ _ 11 _ _ _ _ _
  refine nx_cSI (as := [eI x1, eI 0, eI ((tI t 803 0) - 1)]) (st' := []) rfl rfl (Nat.le_of_ble_eq_true rfl) rfl rfl (Nat.le_of_ble_eq_true rfl) H (fun Q H => TF_X12_within hW  H) (fun r21 H => ?_)
  refine nx_if rfl rfl (by rfl) H (fun H => ?_) (fun H => ?_)
  · refine nx_ld rfl rfl rfl rfl ?_
    refine nx_getFix rfl rfl rfl (by decide) (by rw [hW]; rfl) rfl ?_
    refine nx_getFix rfl rfl rfl (by decide) (by rw [hW]; rfl) rfl ?_
    refine nx_ld rfl rfl rfl rfl ?_
    refine nx_iald (p := (2802, 0)) rfl rfl (Nat.le_of_ble_eq_true rfl) (Nat.le_of_ble_eq_true rfl) rfl H (fun H => ?_)
    refine nx_ld rfl rfl rfl rfl ?_
    refine nx_icmp rfl rfl (by rfl) H (fun H => ?_) (fun H => ?_)
    · refine nx_ld rfl rfl rfl rfl ?_
      refine nx_getFix rfl rfl rfl (by decide) (by rw [hW]; rfl) rfl ?_
      refine nx_getFix rfl rfl rfl (by decide) (by rw [hW]; rfl) rfl ?_
      refine nx_ld rfl rfl rfl rfl ?_
      refine nx_iald (p := (2802, 0)) rfl rfl (Nat.le_of_ble_eq_true rfl) (Nat.le_of_ble_eq_true rfl) rfl H (fun H => ?_)
      exact nx_ri rfl rfl H
    refine nx_int (x := (-2)) rfl rfl ?_
    refine nx_goto rfl rfl ?_
    exact nx_ri rfl rfl H
  refine nx_int (x := (-1)) rfl rfl ?_
  exact nx_ri rfl rfl H
def B_X12_candidate_35 (t : TS) (v1 : Int32) (v2 : Int32) (s0 : Int32) : Option (Int32 × TS) := (if s0 = 0 then (some ((-1), t)) else (Option.bind (F_X12_within t v2 0 99999) (fun r21 => (if ¬ r21 = 0 then (ob2 (F_X2_add t v1 v2) (fun x23 t24 => (if x23 = 0 then (some ((-3), t24)) else (some ((tI t24 204 0), t24))))) else (some ((-1), t))))))
theorem TB_X12_candidate_35 {W : NW} {d : Nat} {Q : Option NV → TS → Prop} {a0 : Nat → Nat → Nat} {e0 : Nat → Nat → Bool} {bc bs : Nat} (hW : W.2.2.2 = mm_fx) : ∀ (t : TS) (v1 : Int32) (v2 : Int32) (s0 : Int32), wp (B_X12_candidate_35 t v1 v2 s0) (fun r => Q (some (eI r.1)) r.2) → nX W (d + 1) tX12_candidate Q a0 e0 35 [some (eR (some (12, 0))), some (eI v1), some (eI v2), none] [eI s0] t bc bs := by
  intro t v1 v2 s0 H
  unfold B_X12_candidate_35 at H
  refine nx_st (ls' := [some (eR (some (12, 0))), some (eI v1), some (eI v2), some (eI s0)]) rfl rfl rfl (Nat.le_of_ble_eq_true rfl) rfl ?_
  refine nx_ld rfl rfl rfl rfl ?_
  refine nx_if rfl rfl (by rfl) H (fun H => ?_) (fun H => ?_)
  · refine nx_int (x := (-1)) rfl rfl ?_
    exact nx_rit rfl rfl H
  refine nx_ld rfl rfl rfl rfl ?_
  refine nx_int (x := 0) rfl rfl ?_
  refine nx_int (x := 99999) rfl rfl ?_
  refine nx_cSI (as := [eI v2, eI 0, eI 99999]) (st' := []) rfl rfl (Nat.le_of_ble_eq_true rfl) rfl rfl (Nat.le_of_ble_eq_true rfl) H (fun Q H => TF_X12_within hW  H) (fun r21 H => ?_)
  refine nx_if rfl rfl (by rfl) H (fun H => ?_) (fun H => ?_)
  · refine nx_ld rfl rfl rfl rfl ?_
    refine nx_getFix rfl rfl rfl (by decide) (by rw [hW]; rfl) rfl ?_
    refine nx_ld rfl rfl rfl rfl ?_
    refine nx_ld rfl rfl rfl rfl ?_
    refine nx_cVI2 (as := [eI v1, eI v2]) (st' := []) rfl rfl (Nat.le_of_ble_eq_true rfl) rfl rfl (Nat.le_of_ble_eq_true rfl) (c0 := 2) rfl (by decide) H (fun Q H => TF_X2_add hW  H) (fun x23 t24 H => ?_)
    refine nx_if rfl rfl (by rfl) H (fun H => ?_) (fun H => ?_)
    · refine nx_int (x := (-3)) rfl rfl ?_
      exact nx_rit rfl rfl H
    refine nx_ld rfl rfl rfl rfl ?_
    refine nx_getFix rfl rfl rfl (by decide) (by rw [hW]; rfl) rfl ?_
    refine nx_getI rfl rfl rfl (by decide) ?_
    refine nx_goto rfl rfl ?_
    exact nx_rit rfl rfl H
  refine nx_int (x := (-1)) rfl rfl ?_
  exact nx_rit rfl rfl H
def B_X12_candidate_34 (t : TS) (v1 : Int32) (v2 : Int32) : Option (Int32 × TS) := (B_X12_candidate_35  t v1 v2 0)
theorem TB_X12_candidate_34 {W : NW} {d : Nat} {Q : Option NV → TS → Prop} {a0 : Nat → Nat → Nat} {e0 : Nat → Nat → Bool} {bc bs : Nat} (hW : W.2.2.2 = mm_fx) : ∀ (t : TS) (v1 : Int32) (v2 : Int32), wp (B_X12_candidate_34 t v1 v2) (fun r => Q (some (eI r.1)) r.2) → nX W (d + 1) tX12_candidate Q a0 e0 34 [some (eR (some (12, 0))), some (eI v1), some (eI v2), none] [] t bc bs := by
  intro t v1 v2 H
  unfold B_X12_candidate_34 at H
  refine nx_int (x := 0) rfl rfl ?_
  exact TB_X12_candidate_35 hW    _ _ _ _ H
def F_X12_candidate (t : TS) (x1 : Int32) (x2 : Int32) : Option (Int32 × TS) := (Option.bind (F_X12_within t x1 0 999913) (fun r21 => (if r21 = 0 then (B_X12_candidate_34  t x1 x2) else (if 1 < (irm (x1 / 10) 10) then (B_X12_candidate_34  t x1 x2) else (if 3 < (irm x1 10) then (B_X12_candidate_34  t x1 x2) else (B_X12_candidate_35  t x1 x2 1))))))
theorem TF_X12_candidate {W : NW} {d : Nat} {t : TS} {x1 : Int32} {x2 : Int32} {Q : Option NV → TS → Prop} {bc bs : Nat} (hW : W.2.2.2 = mm_fx) (H : wp (F_X12_candidate t x1 x2) (fun r => Q (some (eI r.1)) r.2)) : nC W (d + 2) 99 [eR (some (12, 0)), eI x1, eI x2] t bc bs Q := by
  refine nC_in (d := (d + 1)) (T := tX12_candidate) (ls := [some (eR (some (12, 0))), some (eI x1), some (eI x2), none]) rfl (Nat.le_of_ble_eq_true rfl) rfl (fun a0 e0 => ?_)
  unfold F_X12_candidate at H
  refine nx_ld rfl rfl rfl rfl ?_
  refine nx_int (x := 0) rfl rfl ?_
  refine nx_int (x := 999913) rfl rfl ?_
  refine nx_cSI (as := [eI x1, eI 0, eI 999913]) (st' := []) rfl rfl (Nat.le_of_ble_eq_true rfl) rfl rfl (Nat.le_of_ble_eq_true rfl) H (fun Q H => TF_X12_within hW  H) (fun r21 H => ?_)
  refine nx_if rfl rfl (by rfl) H (fun H => ?_) (fun H => ?_)
  · exact TB_X12_candidate_34 hW    _ _ _ H
  refine nx_ld rfl rfl rfl rfl ?_
  refine nx_int (x := 10) rfl rfl ?_
  refine nx_idivL rfl rfl (by decide) ?_
  refine nx_int (x := 10) rfl rfl ?_
  refine nx_idivL rfl rfl (by decide) ?_
  refine nx_int (x := 1) rfl rfl ?_
  refine nx_icmp rfl rfl (by rfl) H (fun H => ?_) (fun H => ?_)
  · exact TB_X12_candidate_34 hW    _ _ _ H
  refine nx_ld rfl rfl rfl rfl ?_
  refine nx_int (x := 10) rfl rfl ?_
  refine nx_idivL rfl rfl (by decide) ?_
  refine nx_int (x := 3) rfl rfl ?_
  refine nx_icmp rfl rfl (by rfl) H (fun H => ?_) (fun H => ?_)
  · exact TB_X12_candidate_34 hW    _ _ _ H
  refine nx_int (x := 1) rfl rfl ?_
  refine nx_goto rfl rfl ?_
  exact TB_X12_candidate_35 hW    _ _ _ _ H
def F_X12_buys (t : TS) (x1 : Int32) (x2 : Int32) (x3 : Int32) : Option (Int32 × TS) := (Option.bind (F_X12_within t x1 0 9999999) (fun r21 => (if r21 = 0 then (some ((-1), t)) else (Option.bind (F_X12_within t x2 0 109) (fun r22 => (if r22 = 0 then (some ((-1), t)) else (Option.bind (F_X12_within t x3 0 9999) (fun r23 => (if r23 = 0 then (some ((-1), t)) else (if ¬ (tI t 204 0) = 0 then (ob2 (F_X2_takeBest t x1 x2 x3) (fun x25 t26 => (some (x25, t26)))) else (some ((-1), t))))))))))))
theorem TF_X12_buys {W : NW} {d : Nat} {t : TS} {x1 : Int32} {x2 : Int32} {x3 : Int32} {Q : Option NV → TS → Prop} {bc bs : Nat} (hW : W.2.2.2 = mm_fx) (H : wp (F_X12_buys t x1 x2 x3) (fun r => Q (some (eI r.1)) r.2)) : nC W (d + 3) 100 [eR (some (12, 0)), eI x1, eI x2, eI x3] t bc bs Q := by
  refine nC_in (d := (d + 2)) (T := tX12_buys) (ls := [some (eR (some (12, 0))), some (eI x1), some (eI x2), some (eI x3)]) rfl (Nat.le_of_ble_eq_true rfl) rfl (fun a0 e0 => ?_)
  unfold F_X12_buys at H
  refine nx_ld rfl rfl rfl rfl ?_
  refine nx_int (x := 0) rfl rfl ?_
  refine nx_int (x := 9999999) rfl rfl ?_
  refine nx_cSI (as := [eI x1, eI 0, eI 9999999]) (st' := []) rfl rfl (Nat.le_of_ble_eq_true rfl) rfl rfl (Nat.le_of_ble_eq_true rfl) H (fun Q H => TF_X12_within hW  H) (fun r21 H => ?_)
  refine nx_if rfl rfl (by rfl) H (fun H => ?_) (fun H => ?_)
  · refine nx_int (x := (-1)) rfl rfl ?_
    exact nx_rit rfl rfl H
  refine nx_ld rfl rfl rfl rfl ?_
  refine nx_int (x := 0) rfl rfl ?_
  refine nx_int (x := 109) rfl rfl ?_
  refine nx_cSI (as := [eI x2, eI 0, eI 109]) (st' := []) rfl rfl (Nat.le_of_ble_eq_true rfl) rfl rfl (Nat.le_of_ble_eq_true rfl) H (fun Q H => TF_X12_within hW  H) (fun r22 H => ?_)
  refine nx_if rfl rfl (by rfl) H (fun H => ?_) (fun H => ?_)
  · refine nx_int (x := (-1)) rfl rfl ?_
    exact nx_rit rfl rfl H
  refine nx_ld rfl rfl rfl rfl ?_
  refine nx_int (x := 0) rfl rfl ?_
  refine nx_int (x := 9999) rfl rfl ?_
  refine nx_cSI (as := [eI x3, eI 0, eI 9999]) (st' := []) rfl rfl (Nat.le_of_ble_eq_true rfl) rfl rfl (Nat.le_of_ble_eq_true rfl) H (fun Q H => TF_X12_within hW  H) (fun r23 H => ?_)
  refine nx_if rfl rfl (by rfl) H (fun H => ?_) (fun H => ?_)
  · refine nx_int (x := (-1)) rfl rfl ?_
    exact nx_rit rfl rfl H
  refine nx_ld rfl rfl rfl rfl ?_
  refine nx_getFix rfl rfl rfl (by decide) (by rw [hW]; rfl) rfl ?_
  refine nx_getI rfl rfl rfl (by decide) ?_
  refine nx_if rfl rfl (by rfl) H (fun H => ?_) (fun H => ?_)
  · refine nx_ld rfl rfl rfl rfl ?_
    refine nx_getFix rfl rfl rfl (by decide) (by rw [hW]; rfl) rfl ?_
    refine nx_ld rfl rfl rfl rfl ?_
    refine nx_ld rfl rfl rfl rfl ?_
    refine nx_ld rfl rfl rfl rfl ?_
    refine nx_cVI2 (as := [eI x1, eI x2, eI x3]) (st' := []) rfl rfl (Nat.le_of_ble_eq_true rfl) rfl rfl (Nat.le_of_ble_eq_true rfl) (c0 := 2) rfl (by decide) H (fun Q H => TF_X2_takeBest hW  H) (fun x25 t26 H => ?_)
    exact nx_rit rfl rfl H
  refine nx_int (x := (-1)) rfl rfl ?_
  exact nx_rit rfl rfl H
def F_X12_claim (t : TS) (x1 : Int32) (x2 : Int32) : Option (Int32 × TS) := (Option.bind (F_X12_within t x1 0 3) (fun r21 => (if r21 = 0 then (some ((-1), t)) else (Option.bind (F_X12_within t x2 1 999999) (fun r22 => (if ¬ r22 = 0 then (ob2 (F_X3_add t x1 x2) (fun x24 t25 => (if x24 = 0 then (some ((-3), t25)) else (some ((tI t25 302 0), t25))))) else (some ((-1), t))))))))
theorem TF_X12_claim {W : NW} {d : Nat} {t : TS} {x1 : Int32} {x2 : Int32} {Q : Option NV → TS → Prop} {bc bs : Nat} (hW : W.2.2.2 = mm_fx) (H : wp (F_X12_claim t x1 x2) (fun r => Q (some (eI r.1)) r.2)) : nC W (d + 2) 101 [eR (some (12, 0)), eI x1, eI x2] t bc bs Q := by
  refine nC_in (d := (d + 1)) (T := tX12_claim) (ls := [some (eR (some (12, 0))), some (eI x1), some (eI x2)]) rfl (Nat.le_of_ble_eq_true rfl) rfl (fun a0 e0 => ?_)
  unfold F_X12_claim at H
  refine nx_ld rfl rfl rfl rfl ?_
  refine nx_int (x := 0) rfl rfl ?_
  refine nx_int (x := 3) rfl rfl ?_
  refine nx_cSI (as := [eI x1, eI 0, eI 3]) (st' := []) rfl rfl (Nat.le_of_ble_eq_true rfl) rfl rfl (Nat.le_of_ble_eq_true rfl) H (fun Q H => TF_X12_within hW  H) (fun r21 H => ?_)
  refine nx_if rfl rfl (by rfl) H (fun H => ?_) (fun H => ?_)
  · refine nx_int (x := (-1)) rfl rfl ?_
    exact nx_rit rfl rfl H
  refine nx_ld rfl rfl rfl rfl ?_
  refine nx_int (x := 1) rfl rfl ?_
  refine nx_int (x := 999999) rfl rfl ?_
  refine nx_cSI (as := [eI x2, eI 1, eI 999999]) (st' := []) rfl rfl (Nat.le_of_ble_eq_true rfl) rfl rfl (Nat.le_of_ble_eq_true rfl) H (fun Q H => TF_X12_within hW  H) (fun r22 H => ?_)
  refine nx_if rfl rfl (by rfl) H (fun H => ?_) (fun H => ?_)
  · refine nx_ld rfl rfl rfl rfl ?_
    refine nx_getFix rfl rfl rfl (by decide) (by rw [hW]; rfl) rfl ?_
    refine nx_ld rfl rfl rfl rfl ?_
    refine nx_ld rfl rfl rfl rfl ?_
    refine nx_cVI2 (as := [eI x1, eI x2]) (st' := []) rfl rfl (Nat.le_of_ble_eq_true rfl) rfl rfl (Nat.le_of_ble_eq_true rfl) (c0 := 3) rfl (by decide) H (fun Q H => TF_X3_add hW  H) (fun x24 t25 H => ?_)
    refine nx_if rfl rfl (by rfl) H (fun H => ?_) (fun H => ?_)
    · refine nx_int (x := (-3)) rfl rfl ?_
      exact nx_rit rfl rfl H
    refine nx_ld rfl rfl rfl rfl ?_
    refine nx_getFix rfl rfl rfl (by decide) (by rw [hW]; rfl) rfl ?_
    refine nx_getI rfl rfl rfl (by decide) ?_
    refine nx_goto rfl rfl ?_
    exact nx_rit rfl rfl H
  refine nx_int (x := (-1)) rfl rfl ?_
  exact nx_rit rfl rfl H
def F_X12_part (t : TS) (x1 : Int32) : Option (Int32 × TS) := (Option.bind (F_X12_within t x1 0 9999999) (fun r21 => (if r21 = 0 then (some ((-1), t)) else (if ¬ (tI t 302 0) = 0 then (ob2 (F_X3_pay t x1) (fun x23 t24 => (some (x23, t24)))) else (some ((-1), t))))))
theorem TF_X12_part {W : NW} {d : Nat} {t : TS} {x1 : Int32} {Q : Option NV → TS → Prop} {bc bs : Nat} (hW : W.2.2.2 = mm_fx) (H : wp (F_X12_part t x1) (fun r => Q (some (eI r.1)) r.2)) : nC W (d + 3) 102 [eR (some (12, 0)), eI x1] t bc bs Q := by
  refine nC_in (d := (d + 2)) (T := tX12_part) (ls := [some (eR (some (12, 0))), some (eI x1)]) rfl (Nat.le_of_ble_eq_true rfl) rfl (fun a0 e0 => ?_)
  unfold F_X12_part at H
  refine nx_ld rfl rfl rfl rfl ?_
  refine nx_int (x := 0) rfl rfl ?_
  refine nx_int (x := 9999999) rfl rfl ?_
  refine nx_cSI (as := [eI x1, eI 0, eI 9999999]) (st' := []) rfl rfl (Nat.le_of_ble_eq_true rfl) rfl rfl (Nat.le_of_ble_eq_true rfl) H (fun Q H => TF_X12_within hW  H) (fun r21 H => ?_)
  refine nx_if rfl rfl (by rfl) H (fun H => ?_) (fun H => ?_)
  · refine nx_int (x := (-1)) rfl rfl ?_
    exact nx_rit rfl rfl H
  refine nx_ld rfl rfl rfl rfl ?_
  refine nx_getFix rfl rfl rfl (by decide) (by rw [hW]; rfl) rfl ?_
  refine nx_getI rfl rfl rfl (by decide) ?_
  refine nx_if rfl rfl (by rfl) H (fun H => ?_) (fun H => ?_)
  · refine nx_ld rfl rfl rfl rfl ?_
    refine nx_getFix rfl rfl rfl (by decide) (by rw [hW]; rfl) rfl ?_
    refine nx_ld rfl rfl rfl rfl ?_
    refine nx_cVI2 (as := [eI x1]) (st' := []) rfl rfl (Nat.le_of_ble_eq_true rfl) rfl rfl (Nat.le_of_ble_eq_true rfl) (c0 := 3) rfl (by decide) H (fun Q H => TF_X3_pay hW  H) (fun x23 t24 H => ?_)
    exact nx_rit rfl rfl H
  refine nx_int (x := (-1)) rfl rfl ?_
  exact nx_rit rfl rfl H
def F_X12_got (t : TS) (x1 : Int32) : Option Int32 := (Option.bind (F_X12_within t x1 0 ((tI t 304 0) - 1)) (fun r21 => (if r21 = 0 then (some ((-1))) else (gd x1 (tL t 2303 0) (some ((tA t 2303 0 x1.toNatClampNeg)))))))
theorem TF_X12_got {W : NW} {d : Nat} {t : TS} {x1 : Int32} {Q : Option NV → TS → Prop} {bc bs : Nat} (hW : W.2.2.2 = mm_fx) (H : wp (F_X12_got t x1) (fun r => Q (some (eI r)) t)) : nC W (d + 2) 103 [eR (some (12, 0)), eI x1] t bc bs Q := by
  refine nC_in (d := (d + 1)) (T := tX12_got) (ls := [some (eR (some (12, 0))), some (eI x1)]) rfl (Nat.le_of_ble_eq_true rfl) rfl (fun a0 e0 => ?_)
  unfold F_X12_got at H
  refine nx_ld rfl rfl rfl rfl ?_
  refine nx_int (x := 0) rfl rfl ?_
  refine nx_ld rfl rfl rfl rfl ?_
  refine nx_getFix rfl rfl rfl (by decide) (by rw [hW]; rfl) rfl ?_
  refine nx_getI rfl rfl rfl (by decide) ?_
  refine nx_int (x := 1) rfl rfl ?_
  refine nx_ii rfl rfl ?_
  show nX _ _ _ _ _ _ 11 _ _ _ _ _
  refine nx_cSI (as := [eI x1, eI 0, eI ((tI t 304 0) - 1)]) (st' := []) rfl rfl (Nat.le_of_ble_eq_true rfl) rfl rfl (Nat.le_of_ble_eq_true rfl) H (fun Q H => TF_X12_within hW  H) (fun r21 H => ?_)
  refine nx_if rfl rfl (by rfl) H (fun H => ?_) (fun H => ?_)
  · refine nx_int (x := (-1)) rfl rfl ?_
    exact nx_ri rfl rfl H
  refine nx_ld rfl rfl rfl rfl ?_
  refine nx_getFix rfl rfl rfl (by decide) (by rw [hW]; rfl) rfl ?_
  refine nx_getFix rfl rfl rfl (by decide) (by rw [hW]; rfl) rfl ?_
  refine nx_ld rfl rfl rfl rfl ?_
  refine nx_iald (p := (2303, 0)) rfl rfl (Nat.le_of_ble_eq_true rfl) (Nat.le_of_ble_eq_true rfl) rfl H (fun H => ?_)
  refine nx_goto rfl rfl ?_
  exact nx_ri rfl rfl H
def F_X12_act (t : TS) (x1 : Int32) (x2 : Int32) (x3 : Int32) : Option (Int32 × TS) := (Option.bind (F_X12_bodyAt t x1) (fun r21 => (nxt (uI t 1 0 0) (fun t22 => (oc r21 (some (0, t22)) (fun j23 => (Option.bind (F_X12_within t22 x2 0 3) (fun r24 => (if ¬ r24 = 0 then (ob2 (F_X0_perform t22 (some j23) (tI t22 101 j23) x2 x3 0) (fun x26 t27 => (some (x26, t27)))) else (some (0, t22)))))))))))
theorem TF_X12_act {W : NW} {d : Nat} {t : TS} {x1 : Int32} {x2 : Int32} {x3 : Int32} {Q : Option NV → TS → Prop} {bc bs : Nat} (hW : W.2.2.2 = mm_fx) (H : wp (F_X12_act t x1 x2 x3) (fun r => Q (some (eI r.1)) r.2)) : nC W (d + 102) 104 [eR (some (12, 0)), eI x1, eI x2, eI x3] t bc bs Q := by
  refine nC_in (d := (d + 101)) (T := tX12_act) (ls := [some (eR (some (12, 0))), some (eI x1), some (eI x2), some (eI x3), none]) rfl (Nat.le_of_ble_eq_true rfl) rfl (fun a0 e0 => ?_)
  unfold F_X12_act at H
  refine nx_ld rfl rfl rfl rfl ?_
  refine nx_ld rfl rfl rfl rfl ?_
  refine nx_cVO 1 (as := [eI x1]) (st' := []) rfl rfl (Nat.le_of_ble_eq_true rfl) rfl rfl (Nat.le_of_ble_eq_true rfl) (c0 := 12) rfl (by decide) H (fun Q H => TF_X12_bodyAt hW  H) (fun r21 H => ?_)
  refine nx_st (ls' := [some (eR (some (12, 0))), some (eI x1), some (eI x2), some (eI x3), some (eO 1 r21)]) rfl rfl rfl (Nat.le_of_ble_eq_true rfl) rfl ?_
  refine nx_ld rfl rfl rfl rfl ?_
  refine nx_getFix rfl rfl rfl (by decide) (by rw [hW]; rfl) rfl ?_
  refine nx_int (x := 0) rfl rfl ?_
  show nX _ _ _ _ _ _ 12 _ _ _ _ _
  refine nx_putI rfl rfl rfl (by decide) H (fun t22 H => ?_)
  refine nx_ld rfl rfl rfl rfl ?_
  rcases r21 with _ | j23
  · replace H := oc_no H
    refine nx_null0 (c := 1) rfl rfl ?_
    refine nx_int (x := 0) rfl rfl ?_
    exact nx_rit rfl rfl H
  replace H := oc_so H
  refine nx_null1 rfl rfl ?_
  refine nx_ld rfl rfl rfl rfl ?_
  refine nx_int (x := 0) rfl rfl ?_
  refine nx_int (x := 3) rfl rfl ?_
  refine nx_cSI (as := [eI x2, eI 0, eI 3]) (st' := []) rfl rfl (Nat.le_of_ble_eq_true rfl) rfl rfl (Nat.le_of_ble_eq_true rfl) H (fun Q H => TF_X12_within hW  H) (fun r24 H => ?_)
  refine nx_if rfl rfl (by rfl) H (fun H => ?_) (fun H => ?_)
  · refine nx_ld rfl rfl rfl rfl ?_
    refine nx_getFix rfl rfl rfl (by decide) (by rw [hW]; rfl) rfl ?_
    refine nx_ld rfl rfl rfl rfl ?_
    refine nx_ld rfl rfl rfl rfl ?_
    refine nx_getI rfl rfl rfl (by decide) ?_
    refine nx_ld rfl rfl rfl rfl ?_
    refine nx_ld rfl rfl rfl rfl ?_
    show nX _ _ _ _ _ _ 44 _ _ _ _ _
    refine nx_int (x := 0) rfl rfl ?_
    refine nx_cVI2 (as := [eO 1 (some j23), eI (tI t22 101 j23), eI x2, eI x3, eI 0]) (st' := []) rfl rfl (Nat.le_of_ble_eq_true rfl) rfl rfl (Nat.le_of_ble_eq_true rfl) (c0 := 0) rfl (by decide) H (fun Q H => TF_X0_perform hW  H) (fun x26 t27 H => ?_)
    exact nx_rit rfl rfl H
  refine nx_int (x := 0) rfl rfl ?_
  exact nx_rit rfl rfl H
def F_X12_trace (t : TS) (x1 : Int32) : Option Int32 := (Option.bind (F_X12_within t x1 0 ((if (Int32.ofNat (tL t 2000 0)) < (tI t 1 0) then (Int32.ofNat (tL t 2000 0)) else (tI t 1 0)) - 1)) (fun r21 => (if ¬ r21 = 0 then (gd x1 (tL t 2000 0) (some ((tA t 2000 0 x1.toNatClampNeg)))) else (some ((-1))))))
theorem TF_X12_trace {W : NW} {d : Nat} {t : TS} {x1 : Int32} {Q : Option NV → TS → Prop} {bc bs : Nat} (hW : W.2.2.2 = mm_fx) (H : wp (F_X12_trace t x1) (fun r => Q (some (eI r)) t)) : nC W (d + 2) 105 [eR (some (12, 0)), eI x1] t bc bs Q := by
  refine nC_in (d := (d + 1)) (T := tX12_trace) (ls := [some (eR (some (12, 0))), some (eI x1)]) rfl (Nat.le_of_ble_eq_true rfl) rfl (fun a0 e0 => ?_)
  unfold F_X12_trace at H
  refine nx_ld rfl rfl rfl rfl ?_
  refine nx_int (x := 0) rfl rfl ?_
  refine nx_ld rfl rfl rfl rfl ?_
  refine nx_getFix rfl rfl rfl (by decide) (by rw [hW]; rfl) rfl ?_
  refine nx_getI rfl rfl rfl (by decide) ?_
  refine nx_ld rfl rfl rfl rfl ?_
  refine nx_getFix rfl rfl rfl (by decide) (by rw [hW]; rfl) rfl ?_
  show nX _ _ _ _ _ _ 13 _ _ _ _ _
  refine nx_getFix rfl rfl rfl (by decide) (by rw [hW]; rfl) rfl ?_
  refine nx_alen (p := (2000, 0)) rfl rfl (Nat.le_of_ble_eq_true rfl) (Nat.le_of_ble_eq_true rfl) (Nat.le_of_ble_eq_true rfl) ?_
  refine nx_ext2 rfl rfl (Nat.le_of_ble_eq_true rfl) ?_
  refine nx_int (x := 1) rfl rfl ?_
  refine nx_ii rfl rfl ?_
  refine nx_cSI (as := [eI x1, eI 0, eI ((if (Int32.ofNat (tL t 2000 0)) < (tI t 1 0) then (Int32.ofNat (tL t 2000 0)) else (tI t 1 0)) - 1)]) (st' := []) rfl rfl (Nat.le_of_ble_eq_true rfl) rfl rfl (Nat.le_of_ble_eq_true rfl) H (fun Q H => TF_X12_within hW  H) (fun r21 H => ?_)
  refine nx_if rfl rfl (by rfl) H (fun H => ?_) (fun H => ?_)
  · refine nx_ld rfl rfl rfl rfl ?_
    refine nx_getFix rfl rfl rfl (by decide) (by rw [hW]; rfl) rfl ?_
    refine nx_getFix rfl rfl rfl (by decide) (by rw [hW]; rfl) rfl ?_
    refine nx_ld rfl rfl rfl rfl ?_
    refine nx_iald (p := (2000, 0)) rfl rfl (Nat.le_of_ble_eq_true rfl) (Nat.le_of_ble_eq_true rfl) rfl H (fun H => ?_)
    exact nx_ri rfl rfl H
  refine nx_int (x := (-1)) rfl rfl ?_
  exact nx_ri rfl rfl H
def B_X12_keep_29 (t : TS) (v3 : Nat) (v4 : Option Nat) : Option (Int32 × TS) := (Option.bind (F_X10_hold t v3 v4) (fun r21 => (some (1, r21))))
theorem TB_X12_keep_29 {W : NW} {d : Nat} {Q : Option NV → TS → Prop} {a0 : Nat → Nat → Nat} {e0 : Nat → Nat → Bool} {bc bs : Nat} (hW : W.2.2.2 = mm_fx) : ∀ (t : TS) (v1 : Int32) (v2 : Int32) (v3 : Nat) (v4 : Option Nat), wp (B_X12_keep_29 t v3 v4) (fun r => Q (some (eI r.1)) r.2) → nX W (d + 2) tX12_keep Q a0 e0 29 [some (eR (some (12, 0))), some (eI v1), some (eI v2), some (eR (some (10, v3))), some (eO 1 v4)] [] t bc bs := by
  intro t v1 v2 v3 v4 H
  unfold B_X12_keep_29 at H
  refine nx_ld rfl rfl rfl rfl ?_
  refine nx_ld rfl rfl rfl rfl ?_
  refine nx_cVVt (as := [eO 1 v4]) (st' := []) rfl rfl (Nat.le_of_ble_eq_true rfl) rfl rfl (Nat.le_of_ble_eq_true rfl) (c0 := 10) rfl (by decide) H (fun Q H => TF_X10_hold hW  H) (fun r21 H => ?_)
  refine nx_int (x := 1) rfl rfl ?_
  exact nx_rit rfl rfl H
def F_X12_keep (t : TS) (x1 : Int32) (x2 : Int32) : Option (Int32 × TS) := (Option.bind (F_X12_shelfAt t x1) (fun r21 => (Option.bind (F_X12_bodyAt t x2) (fun r22 => (oc r21 (some ((-1), t)) (fun j23 => (if x2 = (-1) then (B_X12_keep_29  t j23 r22) else (oc r22 (some ((-1), t)) (fun j24 => (B_X12_keep_29  t j23 (some j24)))))))))))
theorem TF_X12_keep {W : NW} {d : Nat} {t : TS} {x1 : Int32} {x2 : Int32} {Q : Option NV → TS → Prop} {bc bs : Nat} (hW : W.2.2.2 = mm_fx) (H : wp (F_X12_keep t x1 x2) (fun r => Q (some (eI r.1)) r.2)) : nC W (d + 3) 106 [eR (some (12, 0)), eI x1, eI x2] t bc bs Q := by
  refine nC_in (d := (d + 2)) (T := tX12_keep) (ls := [some (eR (some (12, 0))), some (eI x1), some (eI x2), none, none]) rfl (Nat.le_of_ble_eq_true rfl) rfl (fun a0 e0 => ?_)
  unfold F_X12_keep at H
  refine nx_ld rfl rfl rfl rfl ?_
  refine nx_ld rfl rfl rfl rfl ?_
  refine nx_cVO 10 (as := [eI x1]) (st' := []) rfl rfl (Nat.le_of_ble_eq_true rfl) rfl rfl (Nat.le_of_ble_eq_true rfl) (c0 := 12) rfl (by decide) H (fun Q H => TF_X12_shelfAt hW  H) (fun r21 H => ?_)
  refine nx_st (ls' := [some (eR (some (12, 0))), some (eI x1), some (eI x2), some (eO 10 r21), none]) rfl rfl rfl (Nat.le_of_ble_eq_true rfl) rfl ?_
  refine nx_ld rfl rfl rfl rfl ?_
  refine nx_ld rfl rfl rfl rfl ?_
  refine nx_cVO 1 (as := [eI x2]) (st' := []) rfl rfl (Nat.le_of_ble_eq_true rfl) rfl rfl (Nat.le_of_ble_eq_true rfl) (c0 := 12) rfl (by decide) H (fun Q H => TF_X12_bodyAt hW  H) (fun r22 H => ?_)
  show nX _ _ _ _ _ _ 11 _ _ _ _ _
  refine nx_st (ls' := [some (eR (some (12, 0))), some (eI x1), some (eI x2), some (eO 10 r21), some (eO 1 r22)]) rfl rfl rfl (Nat.le_of_ble_eq_true rfl) rfl ?_
  refine nx_ld rfl rfl rfl rfl ?_
  rcases r21 with _ | j23
  · replace H := oc_no H
    refine nx_null0 (c := 10) rfl rfl ?_
    refine nx_int (x := (-1)) rfl rfl ?_
    exact nx_rit rfl rfl H
  replace H := oc_so H
  refine nx_null1 rfl rfl ?_
  refine nx_ld rfl rfl rfl rfl ?_
  refine nx_int (x := (-1)) rfl rfl ?_
  refine nx_icmp rfl rfl (by rfl) H (fun H => ?_) (fun H => ?_)
  · exact TB_X12_keep_29 hW    _ _ _ _ _ H
  refine nx_ld rfl rfl rfl rfl ?_
  rcases r22 with _ | j24
  · replace H := oc_no H
    refine nx_non0 (c := 1) rfl rfl ?_
    refine nx_int (x := (-1)) rfl rfl ?_
    exact nx_rit rfl rfl H
  replace H := oc_so H
  refine nx_non1 rfl rfl ?_
  exact TB_X12_keep_29 hW    _ _ _ _ ((some j24)) H
def F_X12_row (t : TS) (x1 : Int32) (x2 : Int32) (x3 : Int32) : Option (Int32 × TS) := (Option.bind (F_X12_shelfAt t x1) (fun r21 => (oc r21 (some ((-1), t)) (fun j22 => (Option.bind (F_X12_within t x2 0 4) (fun r23 => (if r23 = 0 then (some ((-1), t)) else (if x3 ≤ 60 then (if 0 ≤ x3 then (Option.bind (F_X10_holdRow t j22 x2 x3) (fun r24 => (some (1, r24)))) else (some ((-14), t))) else (some ((-1), t))))))))))
theorem TF_X12_row {W : NW} {d : Nat} {t : TS} {x1 : Int32} {x2 : Int32} {x3 : Int32} {Q : Option NV → TS → Prop} {bc bs : Nat} (hW : W.2.2.2 = mm_fx) (H : wp (F_X12_row t x1 x2 x3) (fun r => Q (some (eI r.1)) r.2)) : nC W (d + 3) 107 [eR (some (12, 0)), eI x1, eI x2, eI x3] t bc bs Q := by
  refine nC_in (d := (d + 2)) (T := tX12_row) (ls := [some (eR (some (12, 0))), some (eI x1), some (eI x2), some (eI x3), none]) rfl (Nat.le_of_ble_eq_true rfl) rfl (fun a0 e0 => ?_)
  unfold F_X12_row at H
  refine nx_ld rfl rfl rfl rfl ?_
  refine nx_ld rfl rfl rfl rfl ?_
  refine nx_cVO 10 (as := [eI x1]) (st' := []) rfl rfl (Nat.le_of_ble_eq_true rfl) rfl rfl (Nat.le_of_ble_eq_true rfl) (c0 := 12) rfl (by decide) H (fun Q H => TF_X12_shelfAt hW  H) (fun r21 H => ?_)
  refine nx_st (ls' := [some (eR (some (12, 0))), some (eI x1), some (eI x2), some (eI x3), some (eO 10 r21)]) rfl rfl rfl (Nat.le_of_ble_eq_true rfl) rfl ?_
  refine nx_ld rfl rfl rfl rfl ?_
  rcases r21 with _ | j22
  · replace H := oc_no H
    refine nx_null0 (c := 10) rfl rfl ?_
    refine nx_int (x := (-1)) rfl rfl ?_
    exact nx_rit rfl rfl H
  replace H := oc_so H
  refine nx_null1 rfl rfl ?_
  refine nx_ld rfl rfl rfl rfl ?_
  refine nx_int (x := 0) rfl rfl ?_
  refine nx_int (x := 4) rfl rfl ?_
  refine nx_cSI (as := [eI x2, eI 0, eI 4]) (st' := []) rfl rfl (Nat.le_of_ble_eq_true rfl) rfl rfl (Nat.le_of_ble_eq_true rfl) H (fun Q H => TF_X12_within hW  H) (fun r23 H => ?_)
  refine nx_if rfl rfl (by rfl) H (fun H => ?_) (fun H => ?_)
  · refine nx_int (x := (-1)) rfl rfl ?_
    exact nx_rit rfl rfl H
  refine nx_ld rfl rfl rfl rfl ?_
  refine nx_int (x := 60) rfl rfl ?_
  refine nx_icmp rfl rfl (by rfl) H (fun H => ?_) (fun H => ?_)
  · refine nx_ld rfl rfl rfl rfl ?_
    refine nx_if rfl rfl (by rfl) H (fun H => ?_) (fun H => ?_)
    · refine nx_ld rfl rfl rfl rfl ?_
      refine nx_ld rfl rfl rfl rfl ?_
      refine nx_ld rfl rfl rfl rfl ?_
      refine nx_cVVt (as := [eI x2, eI x3]) (st' := []) rfl rfl (Nat.le_of_ble_eq_true rfl) rfl rfl (Nat.le_of_ble_eq_true rfl) (c0 := 10) rfl (by decide) H (fun Q H => TF_X10_holdRow hW  H) (fun r24 H => ?_)
      refine nx_int (x := 1) rfl rfl ?_
      exact nx_rit rfl rfl H
    refine nx_int (x := (-14)) rfl rfl ?_
    exact nx_rit rfl rfl H
  refine nx_int (x := (-1)) rfl rfl ?_
  exact nx_rit rfl rfl H
def F_X12_elementRefusal (t : TS) (x1 : Int32) (x2 : Int32) : Option Int32 := (Option.bind (F_X12_shelfAt t x1) (fun r21 => (oc r21 (some ((-1))) (fun j22 => (if ¬ (tI t 1000 j22) = 0 then (if (tI t 1000 j22) = 2 then (Option.bind (F_X10_has t j22 x2 1) (fun r23 => (if r23 = 0 then (some ((-13))) else (some (0))))) else (some ((-12)))) else (some ((-11))))))))
theorem TF_X12_elementRefusal {W : NW} {d : Nat} {t : TS} {x1 : Int32} {x2 : Int32} {Q : Option NV → TS → Prop} {bc bs : Nat} (hW : W.2.2.2 = mm_fx) (H : wp (F_X12_elementRefusal t x1 x2) (fun r => Q (some (eI r)) t)) : nC W (d + 3) 121 [eR (some (12, 0)), eI x1, eI x2] t bc bs Q := by
  refine nC_in (d := (d + 2)) (T := tX12_elementRefusal) (ls := [some (eR (some (12, 0))), some (eI x1), some (eI x2), none]) rfl (Nat.le_of_ble_eq_true rfl) rfl (fun a0 e0 => ?_)
  unfold F_X12_elementRefusal at H
  refine nx_ld rfl rfl rfl rfl ?_
  refine nx_ld rfl rfl rfl rfl ?_
  refine nx_cVO 10 (as := [eI x1]) (st' := []) rfl rfl (Nat.le_of_ble_eq_true rfl) rfl rfl (Nat.le_of_ble_eq_true rfl) (c0 := 12) rfl (by decide) H (fun Q H => TF_X12_shelfAt hW  H) (fun r21 H => ?_)
  refine nx_st (ls' := [some (eR (some (12, 0))), some (eI x1), some (eI x2), some (eO 10 r21)]) rfl rfl rfl (Nat.le_of_ble_eq_true rfl) rfl ?_
  refine nx_ld rfl rfl rfl rfl ?_
  rcases r21 with _ | j22
  · replace H := oc_no H
    refine nx_non0 (c := 10) rfl rfl ?_
    refine nx_int (x := (-1)) rfl rfl ?_
    exact nx_ri rfl rfl H
  replace H := oc_so H
  refine nx_non1 rfl rfl ?_
  refine nx_ld rfl rfl rfl rfl ?_
  refine nx_getI rfl rfl rfl (by decide) ?_
  refine nx_if rfl rfl (by rfl) H (fun H => ?_) (fun H => ?_)
  · refine nx_ld rfl rfl rfl rfl ?_
    refine nx_getI rfl rfl rfl (by decide) ?_
    refine nx_int (x := 2) rfl rfl ?_
    refine nx_icmp rfl rfl (by rfl) H (fun H => ?_) (fun H => ?_)
    · refine nx_ld rfl rfl rfl rfl ?_
      refine nx_ld rfl rfl rfl rfl ?_
      refine nx_int (x := 1) rfl rfl ?_
      refine nx_cVI (as := [eI x2, eI 1]) (st' := []) rfl rfl (Nat.le_of_ble_eq_true rfl) rfl rfl (Nat.le_of_ble_eq_true rfl) (c0 := 10) rfl (by decide) H (fun Q H => TF_X10_has hW  H) (fun r23 H => ?_)
      refine nx_if rfl rfl (by rfl) H (fun H => ?_) (fun H => ?_)
      · refine nx_int (x := (-13)) rfl rfl ?_
        exact nx_ri rfl rfl H
      refine nx_int (x := 0) rfl rfl ?_
      refine nx_goto rfl rfl ?_
      exact nx_ri rfl rfl H
    refine nx_int (x := (-12)) rfl rfl ?_
    exact nx_ri rfl rfl H
  refine nx_int (x := (-11)) rfl rfl ?_
  exact nx_ri rfl rfl H
def F_X12_put (t : TS) (x1 : Int32) (x2 : Int32) (x3 : Int64) : Option (Int32 × TS) := (Option.bind (F_X12_elementRefusal t x1 x2) (fun r21 => (if r21 = 0 then (gd x1 (tL t 3219 0) (nxt (tQ t 3219 0 x1.toNatClampNeg) (fun o22 => (oc o22 none (fun j23 => (gd x1 (tL t 3219 0) (nxt (tQ t 3219 0 x1.toNatClampNeg) (fun o24 => (oc o24 none (fun j25 => (Option.bind (F_X10_fitted t j25 x3) (fun r26 => (gd x2 (tL t 3004 j23) (nxt (uJ t 3004 j23 x2.toNatClampNeg r26) (fun t27 => (some (1, t27))))))))))))))))) else (some (r21, t)))))
theorem TF_X12_put {W : NW} {d : Nat} {t : TS} {x1 : Int32} {x2 : Int32} {x3 : Int64} {Q : Option NV → TS → Prop} {bc bs : Nat} (hW : W.2.2.2 = mm_fx) (H : wp (F_X12_put t x1 x2 x3) (fun r => Q (some (eI r.1)) r.2)) : nC W (d + 4) 108 [eR (some (12, 0)), eI x1, eI x2, eJ x3] t bc bs Q := by
  refine nC_in (d := (d + 3)) (T := tX12_put) (ls := [some (eR (some (12, 0))), some (eI x1), some (eI x2), some (eJ x3), none, none]) rfl (Nat.le_of_ble_eq_true rfl) rfl (fun a0 e0 => ?_)
  unfold F_X12_put at H
  refine nx_ld rfl rfl rfl rfl ?_
  refine nx_ld rfl rfl rfl rfl ?_
  refine nx_ld rfl rfl rfl rfl ?_
  refine nx_cVI (as := [eI x1, eI x2]) (st' := []) rfl rfl (Nat.le_of_ble_eq_true rfl) rfl rfl (Nat.le_of_ble_eq_true rfl) (c0 := 12) rfl (by decide) H (fun Q H => TF_X12_elementRefusal hW  H) (fun r21 H => ?_)
  refine nx_st (ls' := [some (eR (some (12, 0))), some (eI x1), some (eI x2), some (eJ x3), none, some (eI r21)]) rfl rfl rfl (Nat.le_of_ble_eq_true rfl) rfl ?_
  refine nx_ld rfl rfl rfl rfl ?_
  refine nx_if rfl rfl (by rfl) H (fun H => ?_) (fun H => ?_)
  · refine nx_ld rfl rfl rfl rfl ?_
    refine nx_getFix rfl rfl rfl (by decide) (by rw [hW]; rfl) rfl ?_
    refine nx_ld rfl rfl rfl rfl ?_
    refine nx_aald (c := 3219) (i := 0) rfl rfl (Nat.le_of_ble_eq_true rfl) (Nat.le_of_ble_eq_true rfl) (Nat.le_of_ble_eq_true rfl) rfl H (fun o22 H => ?_)
    rcases o22 with _ | j23
    · exact (wp_none (oc_no H)).elim
    replace H := oc_so H
    refine nx_getFix rfl rfl rfl (by decide) (by rw [hW]; rfl) rfl ?_
    refine nx_ld rfl rfl rfl rfl ?_
    refine nx_ld rfl rfl rfl rfl ?_
    show nX _ _ _ _ _ _ 27 _ _ _ _ _
    refine nx_getFix rfl rfl rfl (by decide) (by rw [hW]; rfl) rfl ?_
    refine nx_ld rfl rfl rfl rfl ?_
    refine nx_aald (c := 3219) (i := 0) rfl rfl (Nat.le_of_ble_eq_true rfl) (Nat.le_of_ble_eq_true rfl) (Nat.le_of_ble_eq_true rfl) rfl H (fun o24 H => ?_)
    refine nx_ld rfl rfl rfl rfl ?_
    rcases o24 with _ | j25
    · exact (wp_none (oc_no H)).elim
    replace H := oc_so H
    refine nx_cVJ (as := [eJ x3]) (st' := [eI x2, eR (some (3004, j23))]) rfl rfl (Nat.le_of_ble_eq_true rfl) rfl rfl (Nat.le_of_ble_eq_true rfl) (c0 := 10) rfl (by decide) H (fun Q H => TF_X10_fitted hW  H) (fun r26 H => ?_)
    refine nx_last (c := 3004) (i := j23) rfl rfl (Nat.le_of_ble_eq_true rfl) (Nat.le_of_ble_eq_true rfl) rfl H (fun t27 H => ?_)
    refine nx_int (x := 1) rfl rfl ?_
    exact nx_rit rfl rfl H
  refine nx_ld rfl rfl rfl rfl ?_
  exact nx_rit rfl rfl H
def F_X12_element (t : TS) (x1 : Int32) (x2 : Int32) : Option Int64 := (Option.bind (F_X12_elementRefusal t x1 x2) (fun r21 => (if ¬ r21 = 0 then (some (-9223372036854775808)) else (gd x1 (tL t 3219 0) (nxt (tQ t 3219 0 x1.toNatClampNeg) (fun o22 => (oc o22 none (fun j23 => (gd x2 (tL t 3004 j23) (some (tJ t 3004 j23 x2.toNatClampNeg)))))))))))
theorem TF_X12_element {W : NW} {d : Nat} {t : TS} {x1 : Int32} {x2 : Int32} {Q : Option NV → TS → Prop} {bc bs : Nat} (hW : W.2.2.2 = mm_fx) (H : wp (F_X12_element t x1 x2) (fun r => Q (some (eJ r)) t)) : nC W (d + 4) 109 [eR (some (12, 0)), eI x1, eI x2] t bc bs Q := by
  refine nC_in (d := (d + 3)) (T := tX12_element) (ls := [some (eR (some (12, 0))), some (eI x1), some (eI x2)]) rfl (Nat.le_of_ble_eq_true rfl) rfl (fun a0 e0 => ?_)
  unfold F_X12_element at H
  refine nx_ld rfl rfl rfl rfl ?_
  refine nx_ld rfl rfl rfl rfl ?_
  refine nx_ld rfl rfl rfl rfl ?_
  refine nx_cVI (as := [eI x1, eI x2]) (st' := []) rfl rfl (Nat.le_of_ble_eq_true rfl) rfl rfl (Nat.le_of_ble_eq_true rfl) (c0 := 12) rfl (by decide) H (fun Q H => TF_X12_elementRefusal hW  H) (fun r21 H => ?_)
  refine nx_if rfl rfl (by rfl) H (fun H => ?_) (fun H => ?_)
  · refine nx_long (x := (-9223372036854775808)) rfl rfl ?_
    exact nx_rj rfl rfl H
  refine nx_ld rfl rfl rfl rfl ?_
  refine nx_getFix rfl rfl rfl (by decide) (by rw [hW]; rfl) rfl ?_
  refine nx_ld rfl rfl rfl rfl ?_
  refine nx_aald (c := 3219) (i := 0) rfl rfl (Nat.le_of_ble_eq_true rfl) (Nat.le_of_ble_eq_true rfl) (Nat.le_of_ble_eq_true rfl) rfl H (fun o22 H => ?_)
  rcases o22 with _ | j23
  · exact (wp_none (oc_no H)).elim
  replace H := oc_so H
  refine nx_getFix rfl rfl rfl (by decide) (by rw [hW]; rfl) rfl ?_
  refine nx_ld rfl rfl rfl rfl ?_
  refine nx_lald (c := 3004) (i := j23) rfl rfl (Nat.le_of_ble_eq_true rfl) (Nat.le_of_ble_eq_true rfl) rfl H (fun H => ?_)
  show nX _ _ _ _ _ _ 20 _ _ _ _ _
  refine nx_goto rfl rfl ?_
  exact nx_rj rfl rfl H
def F_X12_shift (t : TS) (x1 : Int32) (x2 : Int32) (x3 : Int32) (x4 : Int32) (x5 : Int32) : Option (Int32 × TS) := (Option.bind (F_X12_shelfAt t x1) (fun r21 => (Option.bind (F_X12_shelfAt t x3) (fun r22 => (oc r21 (some ((-1), t)) (fun j23 => (oc r22 (some ((-1), t)) (fun j24 => (if (tI t 1000 j23) = 0 then (some ((-11), t)) else (if ¬ (tI t 1000 j24) = 0 then (if ¬ (tI t 1000 j23) = 2 then (some ((-12), t)) else (Option.bind (F_X10_isRowOf t j24 (tI t 1002 j23)) (fun r25 => (if ¬ r25 = 0 then (Option.bind (F_X10_has t j23 x2 x5) (fun r26 => (if r26 = 0 then (some ((-13), t)) else (Option.bind (F_X10_has t j24 x4 x5) (fun r27 => (if ¬ r27 = 0 then (gc x5 x2 x4 (tL t 3004 j23) (tL t 3004 j24) (nxt (uCJ t 3004 j23 x2.toNatClampNeg 3004 j24 x4.toNatClampNeg x5.toNatClampNeg) (fun t28 => (some (x5, t28))))) else (some ((-13), t)))))))) else (some ((-12), t)))))) else (some ((-11), t))))))))))))
theorem TF_X12_shift {W : NW} {d : Nat} {t : TS} {x1 : Int32} {x2 : Int32} {x3 : Int32} {x4 : Int32} {x5 : Int32} {Q : Option NV → TS → Prop} {bc bs : Nat} (hW : W.2.2.2 = mm_fx) (H : wp (F_X12_shift t x1 x2 x3 x4 x5) (fun r => Q (some (eI r.1)) r.2)) : nC W (d + 3) 110 [eR (some (12, 0)), eI x1, eI x2, eI x3, eI x4, eI x5] t bc bs Q := by
  refine nC_in (d := (d + 2)) (T := tX12_shift) (ls := [some (eR (some (12, 0))), some (eI x1), some (eI x2), some (eI x3), some (eI x4), some (eI x5), none, none]) rfl (Nat.le_of_ble_eq_true rfl) rfl (fun a0 e0 => ?_)
  unfold F_X12_shift at H
  refine nx_ld rfl rfl rfl rfl ?_
  refine nx_ld rfl rfl rfl rfl ?_
  refine nx_cVO 10 (as := [eI x1]) (st' := []) rfl rfl (Nat.le_of_ble_eq_true rfl) rfl rfl (Nat.le_of_ble_eq_true rfl) (c0 := 12) rfl (by decide) H (fun Q H => TF_X12_shelfAt hW  H) (fun r21 H => ?_)
  refine nx_st (ls' := [some (eR (some (12, 0))), some (eI x1), some (eI x2), some (eI x3), some (eI x4), some (eI x5), some (eO 10 r21), none]) rfl rfl rfl (Nat.le_of_ble_eq_true rfl) rfl ?_
  refine nx_ld rfl rfl rfl rfl ?_
  refine nx_ld rfl rfl rfl rfl ?_
  refine nx_cVO 10 (as := [eI x3]) (st' := []) rfl rfl (Nat.le_of_ble_eq_true rfl) rfl rfl (Nat.le_of_ble_eq_true rfl) (c0 := 12) rfl (by decide) H (fun Q H => TF_X12_shelfAt hW  H) (fun r22 H => ?_)
  show nX _ _ _ _ _ _ 12 _ _ _ _ _
  refine nx_st (ls' := [some (eR (some (12, 0))), some (eI x1), some (eI x2), some (eI x3), some (eI x4), some (eI x5), some (eO 10 r21), some (eO 10 r22)]) rfl rfl rfl (Nat.le_of_ble_eq_true rfl) rfl ?_
  refine nx_ld rfl rfl rfl rfl ?_
  rcases r21 with _ | j23
  · replace H := oc_no H
    refine nx_null0 (c := 10) rfl rfl ?_
    refine nx_int (x := (-1)) rfl rfl ?_
    exact nx_rit rfl rfl H
  replace H := oc_so H
  refine nx_null1 rfl rfl ?_
  refine nx_ld rfl rfl rfl rfl ?_
  rcases r22 with _ | j24
  · replace H := oc_no H
    refine nx_non0 (c := 10) rfl rfl ?_
    refine nx_int (x := (-1)) rfl rfl ?_
    exact nx_rit rfl rfl H
  replace H := oc_so H
  refine nx_non1 rfl rfl ?_
  refine nx_ld rfl rfl rfl rfl ?_
  refine nx_getI rfl rfl rfl (by decide) ?_
  refine nx_if rfl rfl (by rfl) H (fun H => ?_) (fun H => ?_)
  · refine nx_int (x := (-11)) rfl rfl ?_
    exact nx_rit rfl rfl H
  refine nx_ld rfl rfl rfl rfl ?_
  refine nx_getI rfl rfl rfl (by decide) ?_
  refine nx_if rfl rfl (by rfl) H (fun H => ?_) (fun H => ?_)
  · refine nx_ld rfl rfl rfl rfl ?_
    refine nx_getI rfl rfl rfl (by decide) ?_
    refine nx_int (x := 2) rfl rfl ?_
    refine nx_icmp rfl rfl (by rfl) H (fun H => ?_) (fun H => ?_)
    · refine nx_int (x := (-12)) rfl rfl ?_
      exact nx_rit rfl rfl H
    refine nx_ld rfl rfl rfl rfl ?_
    refine nx_ld rfl rfl rfl rfl ?_
    refine nx_getI rfl rfl rfl (by decide) ?_
    refine nx_cVI (as := [eI (tI t 1002 j23)]) (st' := []) rfl rfl (Nat.le_of_ble_eq_true rfl) rfl rfl (Nat.le_of_ble_eq_true rfl) (c0 := 10) rfl (by decide) H (fun Q H => TF_X10_isRowOf hW  H) (fun r25 H => ?_)
    refine nx_if rfl rfl (by rfl) H (fun H => ?_) (fun H => ?_)
    · refine nx_ld rfl rfl rfl rfl ?_
      refine nx_ld rfl rfl rfl rfl ?_
      refine nx_ld rfl rfl rfl rfl ?_
      refine nx_cVI (as := [eI x2, eI x5]) (st' := []) rfl rfl (Nat.le_of_ble_eq_true rfl) rfl rfl (Nat.le_of_ble_eq_true rfl) (c0 := 10) rfl (by decide) H (fun Q H => TF_X10_has hW  H) (fun r26 H => ?_)
      refine nx_if rfl rfl (by rfl) H (fun H => ?_) (fun H => ?_)
      · refine nx_int (x := (-13)) rfl rfl ?_
        exact nx_rit rfl rfl H
      refine nx_ld rfl rfl rfl rfl ?_
      refine nx_ld rfl rfl rfl rfl ?_
      refine nx_ld rfl rfl rfl rfl ?_
      refine nx_cVI (as := [eI x4, eI x5]) (st' := []) rfl rfl (Nat.le_of_ble_eq_true rfl) rfl rfl (Nat.le_of_ble_eq_true rfl) (c0 := 10) rfl (by decide) H (fun Q H => TF_X10_has hW  H) (fun r27 H => ?_)
      refine nx_if rfl rfl (by rfl) H (fun H => ?_) (fun H => ?_)
      · refine nx_ld rfl rfl rfl rfl ?_
        refine nx_getFix rfl rfl rfl (by decide) (by rw [hW]; rfl) rfl ?_
        refine nx_ld rfl rfl rfl rfl ?_
        refine nx_ld rfl rfl rfl rfl ?_
        refine nx_getFix rfl rfl rfl (by decide) (by rw [hW]; rfl) rfl ?_
        refine nx_ld rfl rfl rfl rfl ?_
        refine nx_ld rfl rfl rfl rfl ?_
        show nX _ _ _ _ _ _ 111 _ _ _ _ _
        refine nx_copJ (c1 := 3004) (i1 := j23) (c2 := 3004) (i2 := j24) rfl rfl (Nat.le_of_ble_eq_true rfl) (Nat.le_of_ble_eq_true rfl) (Nat.le_of_ble_eq_true rfl) rfl (Nat.le_of_ble_eq_true rfl) (Nat.le_of_ble_eq_true rfl) rfl H (fun t28 H => ?_)
        refine nx_ld rfl rfl rfl rfl ?_
        exact nx_rit rfl rfl H
      refine nx_int (x := (-13)) rfl rfl ?_
      exact nx_rit rfl rfl H
    refine nx_int (x := (-12)) rfl rfl ?_
    exact nx_rit rfl rfl H
  refine nx_int (x := (-11)) rfl rfl ?_
  exact nx_rit rfl rfl H
def F_X12_taken (t : TS) (x1 : Int32) (x2 : Int32) : Option Int32 := (Option.bind (F_X12_shelfAt t x1) (fun r21 => (oc r21 (some ((-1))) (fun j22 => (Option.bind (F_X12_within t x2 0 7) (fun r23 => (if ¬ r23 = 0 then (if ¬ (tI t 1000 j22) = 0 then (nxt (tR t 1001 j22) (fun o24 => (oc o24 (some ((-12))) (fun j25 => (nxt (tR t 1001 j22) (fun o26 => (oc o26 none (fun j27 => (Option.bind (F_X1_isUnder t j27 x2) (fun r28 => (if r28 = 0 then (some ((-12))) else (nxt (tR t 1001 j22) (fun o29 => (oc o29 none (fun j30 => (some ((tI t 101 j30)))))))))))))))))) else (some ((-11)))) else (some ((-1))))))))))
theorem TF_X12_taken {W : NW} {d : Nat} {t : TS} {x1 : Int32} {x2 : Int32} {Q : Option NV → TS → Prop} {bc bs : Nat} (hW : W.2.2.2 = mm_fx) (H : wp (F_X12_taken t x1 x2) (fun r => Q (some (eI r)) t)) : nC W (d + 3) 111 [eR (some (12, 0)), eI x1, eI x2] t bc bs Q := by
  refine nC_in (d := (d + 2)) (T := tX12_taken) (ls := [some (eR (some (12, 0))), some (eI x1), some (eI x2), none]) rfl (Nat.le_of_ble_eq_true rfl) rfl (fun a0 e0 => ?_)
  unfold F_X12_taken at H
  refine nx_ld rfl rfl rfl rfl ?_
  refine nx_ld rfl rfl rfl rfl ?_
  refine nx_cVO 10 (as := [eI x1]) (st' := []) rfl rfl (Nat.le_of_ble_eq_true rfl) rfl rfl (Nat.le_of_ble_eq_true rfl) (c0 := 12) rfl (by decide) H (fun Q H => TF_X12_shelfAt hW  H) (fun r21 H => ?_)
  refine nx_st (ls' := [some (eR (some (12, 0))), some (eI x1), some (eI x2), some (eO 10 r21)]) rfl rfl rfl (Nat.le_of_ble_eq_true rfl) rfl ?_
  refine nx_ld rfl rfl rfl rfl ?_
  rcases r21 with _ | j22
  · replace H := oc_no H
    refine nx_null0 (c := 10) rfl rfl ?_
    refine nx_int (x := (-1)) rfl rfl ?_
    exact nx_ri rfl rfl H
  replace H := oc_so H
  refine nx_null1 rfl rfl ?_
  refine nx_ld rfl rfl rfl rfl ?_
  refine nx_int (x := 0) rfl rfl ?_
  refine nx_int (x := 7) rfl rfl ?_
  refine nx_cSI (as := [eI x2, eI 0, eI 7]) (st' := []) rfl rfl (Nat.le_of_ble_eq_true rfl) rfl rfl (Nat.le_of_ble_eq_true rfl) H (fun Q H => TF_X12_within hW  H) (fun r23 H => ?_)
  refine nx_if rfl rfl (by rfl) H (fun H => ?_) (fun H => ?_)
  · refine nx_ld rfl rfl rfl rfl ?_
    refine nx_getI rfl rfl rfl (by decide) ?_
    refine nx_if rfl rfl (by rfl) H (fun H => ?_) (fun H => ?_)
    · refine nx_ld rfl rfl rfl rfl ?_
      refine nx_getR rfl rfl rfl (by decide) rfl H (fun o24 H => ?_)
      rcases o24 with _ | j25
      · replace H := oc_no H
        refine nx_null0 (c := 1) rfl rfl ?_
        refine nx_int (x := (-12)) rfl rfl ?_
        exact nx_ri rfl rfl H
      replace H := oc_so H
      refine nx_null1 rfl rfl ?_
      refine nx_ld rfl rfl rfl rfl ?_
      refine nx_getR rfl rfl rfl (by decide) rfl H (fun o26 H => ?_)
      refine nx_ld rfl rfl rfl rfl ?_
      rcases o26 with _ | j27
      · exact (wp_none (oc_no H)).elim
      replace H := oc_so H
      refine nx_cVI (as := [eI x2]) (st' := []) rfl rfl (Nat.le_of_ble_eq_true rfl) rfl rfl (Nat.le_of_ble_eq_true rfl) (c0 := 1) rfl (by decide) H (fun Q H => TF_X1_isUnder hW  H) (fun r28 H => ?_)
      refine nx_if rfl rfl (by rfl) H (fun H => ?_) (fun H => ?_)
      · refine nx_int (x := (-12)) rfl rfl ?_
        exact nx_ri rfl rfl H
      refine nx_ld rfl rfl rfl rfl ?_
      refine nx_getR rfl rfl rfl (by decide) rfl H (fun o29 H => ?_)
      rcases o29 with _ | j30
      · exact (wp_none (oc_no H)).elim
      replace H := oc_so H
      refine nx_getI rfl rfl rfl (by decide) ?_
      refine nx_goto rfl rfl ?_
      exact nx_ri rfl rfl H
    refine nx_int (x := (-11)) rfl rfl ?_
    exact nx_ri rfl rfl H
  refine nx_int (x := (-1)) rfl rfl ?_
  exact nx_ri rfl rfl H
def BB_X12_countClubs_4 (k4 : TS → Int32 → Int32 → Option Int32) (t : TS) (v1 : Int32) (v2 : Int32) : Option Int32 := (if (tI t 1204 0) ≤ v2 then (some (v1)) else (gd v2 (tL t 3203 0) (nxt (tQ t 3203 0 v2.toNatClampNeg) (fun o21 => (oc o21 none (fun j22 => (Option.bind (F_X1_isClub t j22) (fun r23 => (Option.bind (F_X12_bit t r23) (fun r24 => (k4 t (v1 + r24) (v2 + 1))))))))))))
theorem TBB_X12_countClubs_4 {W : NW} {d : Nat} {Q : Option NV → TS → Prop} {a0 : Nat → Nat → Nat} {e0 : Nat → Nat → Bool} {t : TS} {k4 : TS → Int32 → Int32 → Option Int32} {bc bs : Nat} (hW : W.2.2.2 = mm_fx) (hk4 : ∀ (v1 : Int32) (v2 : Int32), wp (k4 t v1 v2) (fun r => Q (some (eI r)) t) → nX W (d + 1) tX12_countClubs Q a0 e0 4 [some (eR (some (12, 0))), some (eI v1), some (eI v2)] [] t bc bs) : ∀ (v1 : Int32) (v2 : Int32), wp (BB_X12_countClubs_4 k4 t v1 v2) (fun r => Q (some (eI r)) t) → nX W (d + 1) tX12_countClubs Q a0 e0 4 [some (eR (some (12, 0))), some (eI v1), some (eI v2)] [] t bc bs := by
  intro v1 v2 H
  unfold BB_X12_countClubs_4 at H
  refine nx_ld rfl rfl rfl rfl ?_
  refine nx_ld rfl rfl rfl rfl ?_
  refine nx_getI rfl rfl rfl (by decide) ?_
  refine nx_icmp rfl rfl (by rfl) H (fun H => ?_) (fun H => ?_)
  · refine nx_ld rfl rfl rfl rfl ?_
    exact nx_ri rfl rfl H
  refine nx_ld rfl rfl rfl rfl ?_
  refine nx_ld rfl rfl rfl rfl ?_
  refine nx_getFix rfl rfl rfl (by decide) (by rw [hW]; rfl) rfl ?_
  refine nx_ld rfl rfl rfl rfl ?_
  refine nx_aald (c := 3203) (i := 0) rfl rfl (Nat.le_of_ble_eq_true rfl) (Nat.le_of_ble_eq_true rfl) (Nat.le_of_ble_eq_true rfl) rfl H (fun o21 H => ?_)
  rcases o21 with _ | j22
  · exact (wp_none (oc_no H)).elim
  replace H := oc_so H
  refine nx_cVI (as := []) (st' := [eI v1]) rfl rfl (Nat.le_of_ble_eq_true rfl) rfl rfl (Nat.le_of_ble_eq_true rfl) (c0 := 1) rfl (by decide) H (fun Q H => TF_X1_isClub hW  H) (fun r23 H => ?_)
  refine nx_cSI (as := [eI r23]) (st' := [eI v1]) rfl rfl (Nat.le_of_ble_eq_true rfl) rfl rfl (Nat.le_of_ble_eq_true rfl) H (fun Q H => TF_X12_bit hW  H) (fun r24 H => ?_)
  show nX _ _ _ _ _ _ 25 _ _ _ _ _
  refine nx_ii rfl rfl ?_
  refine nx_st (ls' := [some (eR (some (12, 0))), some (eI (v1 + r24)), some (eI v2)]) rfl rfl rfl (Nat.le_of_ble_eq_true rfl) rfl ?_
  refine nx_iinc2 1 (ls' := [some (eR (some (12, 0))), some (eI (v1 + r24)), some (eI (v2 + 1))]) rfl rfl rfl rfl rfl ?_
  refine nx_goto rfl rfl ?_
  exact hk4 _ _ H
def B_X12_countClubs_4 : Nat → TS → Int32 → Int32 → Option Int32
  | 0 => fun _ _ _ => none
  | n + 1 => fun t v1 v2 => BB_X12_countClubs_4 (B_X12_countClubs_4 n) t v1 v2
theorem TB_X12_countClubs_4 {W : NW} {d : Nat} {Q : Option NV → TS → Prop} {a0 : Nat → Nat → Nat} {e0 : Nat → Nat → Bool} {t : TS} {bc bs : Nat} (hW : W.2.2.2 = mm_fx) : ∀ (n : Nat) (v1 : Int32) (v2 : Int32), wp (B_X12_countClubs_4 n t v1 v2) (fun r => Q (some (eI r)) t) → nX W (d + 1) tX12_countClubs Q a0 e0 4 [some (eR (some (12, 0))), some (eI v1), some (eI v2)] [] t bc bs := by
  intro n
  induction n with
  | zero => intro v1 v2 H; exact (wp_none H).elim
  | succ n ih =>
    intro v1 v2 H
    exact TBB_X12_countClubs_4 hW    ih v1 v2 H
def F_X12_countClubs (t : TS) : Option Int32 := (B_X12_countClubs_4  10000 t 0 0)
theorem TF_X12_countClubs {W : NW} {d : Nat} {t : TS} {Q : Option NV → TS → Prop} {bc bs : Nat} (hW : W.2.2.2 = mm_fx) (H : wp (F_X12_countClubs t) (fun r => Q (some (eI r)) t)) : nC W (d + 2) 123 [eR (some (12, 0))] t bc bs Q := by
  refine nC_in (d := (d + 1)) (T := tX12_countClubs) (ls := [some (eR (some (12, 0))), none, none]) rfl (Nat.le_of_ble_eq_true rfl) rfl (fun a0 e0 => ?_)
  unfold F_X12_countClubs at H
  refine nx_int (x := 0) rfl rfl ?_
  refine nx_st (ls' := [some (eR (some (12, 0))), some (eI 0), none]) rfl rfl rfl (Nat.le_of_ble_eq_true rfl) rfl ?_
  refine nx_int (x := 0) rfl rfl ?_
  refine nx_st (ls' := [some (eR (some (12, 0))), some (eI 0), some (eI 0)]) rfl rfl rfl (Nat.le_of_ble_eq_true rfl) rfl ?_
  exact TB_X12_countClubs_4 hW    10000 _ _ H
def B_X12_countPlayers_47 (k4 : TS → Int32 → Int32 → Int32 → Option Int32) (t : TS) (v1 : Int32) (v2 : Int32) (v3 : Int32) : Option Int32 := (k4 t v1 v2 (v3 + 1))
theorem TB_X12_countPlayers_47 {W : NW} {d : Nat} {Q : Option NV → TS → Prop} {a0 : Nat → Nat → Nat} {e0 : Nat → Nat → Bool} {t : TS} {k4 : TS → Int32 → Int32 → Int32 → Option Int32} {bc bs : Nat} (hW : W.2.2.2 = mm_fx) (hk4 : ∀ (v1 : Int32) (v2 : Int32) (v3 : Int32), wp (k4 t v1 v2 v3) (fun r => Q (some (eI r)) t) → nX W (d + 1) tX12_countPlayers Q a0 e0 4 [some (eR (some (12, 0))), some (eI v1), some (eI v2), some (eI v3)] [] t bc bs) : ∀ (v1 : Int32) (v2 : Int32) (v3 : Int32), wp (B_X12_countPlayers_47 k4 t v1 v2 v3) (fun r => Q (some (eI r)) t) → nX W (d + 1) tX12_countPlayers Q a0 e0 47 [some (eR (some (12, 0))), some (eI v1), some (eI v2), some (eI v3)] [] t bc bs := by
  intro v1 v2 v3 H
  unfold B_X12_countPlayers_47 at H
  refine nx_iinc2 1 (ls' := [some (eR (some (12, 0))), some (eI v1), some (eI v2), some (eI (v3 + 1))]) rfl rfl rfl rfl rfl ?_
  refine nx_goto rfl rfl ?_
  exact hk4 _ _ _ H
def B_X12_countPlayers_44 (k4 : TS → Int32 → Int32 → Int32 → Option Int32) (t : TS) (v1 : Int32) (v2 : Int32) (v3 : Int32) : Option Int32 := (B_X12_countPlayers_47 k4 t v1 (v2 + 1) v3)
theorem TB_X12_countPlayers_44 {W : NW} {d : Nat} {Q : Option NV → TS → Prop} {a0 : Nat → Nat → Nat} {e0 : Nat → Nat → Bool} {t : TS} {k4 : TS → Int32 → Int32 → Int32 → Option Int32} {bc bs : Nat} (hW : W.2.2.2 = mm_fx) (hk4 : ∀ (v1 : Int32) (v2 : Int32) (v3 : Int32), wp (k4 t v1 v2 v3) (fun r => Q (some (eI r)) t) → nX W (d + 1) tX12_countPlayers Q a0 e0 4 [some (eR (some (12, 0))), some (eI v1), some (eI v2), some (eI v3)] [] t bc bs) : ∀ (v1 : Int32) (v2 : Int32) (v3 : Int32), wp (B_X12_countPlayers_44 k4 t v1 v2 v3) (fun r => Q (some (eI r)) t) → nX W (d + 1) tX12_countPlayers Q a0 e0 44 [some (eR (some (12, 0))), some (eI v1), some (eI v2), some (eI v3)] [] t bc bs := by
  intro v1 v2 v3 H
  unfold B_X12_countPlayers_44 at H
  refine nx_iinc2 1 (ls' := [some (eR (some (12, 0))), some (eI v1), some (eI (v2 + 1)), some (eI v3)]) rfl rfl rfl rfl rfl ?_
  exact TB_X12_countPlayers_47 hW   hk4 _ _ _ H
def BB_X12_countPlayers_4 (k4 : TS → Int32 → Int32 → Int32 → Option Int32) (t : TS) (v1 : Int32) (v2 : Int32) (v3 : Int32) : Option Int32 := (if (tI t 1204 0) ≤ v3 then (some (v2)) else (gd v3 (tL t 3203 0) (nxt (tQ t 3203 0 v3.toNatClampNeg) (fun o21 => (oc o21 none (fun j22 => (Option.bind (F_X1_isPlayer t j22) (fun r23 => (if r23 = 0 then (B_X12_countPlayers_47 k4 t v1 v2 v3) else (if v1 = 0 then (B_X12_countPlayers_44 k4 t v1 v2 v3) else (gd v3 (tL t 3203 0) (nxt (tQ t 3203 0 v3.toNatClampNeg) (fun o24 => (oc o24 none (fun j25 => (Option.bind (F_X1_owning t j25 (tI t 1200 0)) (fun r26 => (oc r26 (B_X12_countPlayers_44 k4 t v1 v2 v3) (fun j27 => (B_X12_countPlayers_47 k4 t v1 v2 v3))))))))))))))))))))
theorem TBB_X12_countPlayers_4 {W : NW} {d : Nat} {Q : Option NV → TS → Prop} {a0 : Nat → Nat → Nat} {e0 : Nat → Nat → Bool} {t : TS} {k4 : TS → Int32 → Int32 → Int32 → Option Int32} {bc bs : Nat} (hW : W.2.2.2 = mm_fx) (hk4 : ∀ (v1 : Int32) (v2 : Int32) (v3 : Int32), wp (k4 t v1 v2 v3) (fun r => Q (some (eI r)) t) → nX W (d + 1) tX12_countPlayers Q a0 e0 4 [some (eR (some (12, 0))), some (eI v1), some (eI v2), some (eI v3)] [] t bc bs) : ∀ (v1 : Int32) (v2 : Int32) (v3 : Int32), wp (BB_X12_countPlayers_4 k4 t v1 v2 v3) (fun r => Q (some (eI r)) t) → nX W (d + 1) tX12_countPlayers Q a0 e0 4 [some (eR (some (12, 0))), some (eI v1), some (eI v2), some (eI v3)] [] t bc bs := by
  intro v1 v2 v3 H
  unfold BB_X12_countPlayers_4 at H
  refine nx_ld rfl rfl rfl rfl ?_
  refine nx_ld rfl rfl rfl rfl ?_
  refine nx_getI rfl rfl rfl (by decide) ?_
  refine nx_icmp rfl rfl (by rfl) H (fun H => ?_) (fun H => ?_)
  · refine nx_ld rfl rfl rfl rfl ?_
    exact nx_ri rfl rfl H
  refine nx_ld rfl rfl rfl rfl ?_
  refine nx_getFix rfl rfl rfl (by decide) (by rw [hW]; rfl) rfl ?_
  refine nx_ld rfl rfl rfl rfl ?_
  refine nx_aald (c := 3203) (i := 0) rfl rfl (Nat.le_of_ble_eq_true rfl) (Nat.le_of_ble_eq_true rfl) (Nat.le_of_ble_eq_true rfl) rfl H (fun o21 H => ?_)
  rcases o21 with _ | j22
  · exact (wp_none (oc_no H)).elim
  replace H := oc_so H
  refine nx_cVI (as := []) (st' := []) rfl rfl (Nat.le_of_ble_eq_true rfl) rfl rfl (Nat.le_of_ble_eq_true rfl) (c0 := 1) rfl (by decide) H (fun Q H => TF_X1_isPlayer hW  H) (fun r23 H => ?_)
  refine nx_if rfl rfl (by rfl) H (fun H => ?_) (fun H => ?_)
  · exact TB_X12_countPlayers_47 hW   hk4 _ _ _ H
  refine nx_ld rfl rfl rfl rfl ?_
  refine nx_if rfl rfl (by rfl) H (fun H => ?_) (fun H => ?_)
  · exact TB_X12_countPlayers_44 hW   hk4 _ _ _ H
  refine nx_ld rfl rfl rfl rfl ?_
  refine nx_getFix rfl rfl rfl (by decide) (by rw [hW]; rfl) rfl ?_
  refine nx_ld rfl rfl rfl rfl ?_
  refine nx_aald (c := 3203) (i := 0) rfl rfl (Nat.le_of_ble_eq_true rfl) (Nat.le_of_ble_eq_true rfl) (Nat.le_of_ble_eq_true rfl) rfl H (fun o24 H => ?_)
  refine nx_ld rfl rfl rfl rfl ?_
  refine nx_getI rfl rfl rfl (by decide) ?_
  rcases o24 with _ | j25
  · exact (wp_none (oc_no H)).elim
  replace H := oc_so H
  refine nx_cVO 11 (as := [eI (tI t 1200 0)]) (st' := []) rfl rfl (Nat.le_of_ble_eq_true rfl) rfl rfl (Nat.le_of_ble_eq_true rfl) (c0 := 1) rfl (by decide) H (fun Q H => TF_X1_owning hW  H) (fun r26 H => ?_)
  show nX _ _ _ _ _ _ 41 _ _ _ _ _
  rcases r26 with _ | j27
  · replace H := oc_no H
    refine nx_non0 (c := 11) rfl rfl ?_
    exact TB_X12_countPlayers_44 hW   hk4 _ _ _ H
  replace H := oc_so H
  refine nx_non1 rfl rfl ?_
  exact TB_X12_countPlayers_47 hW   hk4 _ _ _ H
def B_X12_countPlayers_4 : Nat → TS → Int32 → Int32 → Int32 → Option Int32
  | 0 => fun _ _ _ _ => none
  | n + 1 => fun t v1 v2 v3 => BB_X12_countPlayers_4 (B_X12_countPlayers_4 n) t v1 v2 v3
theorem TB_X12_countPlayers_4 {W : NW} {d : Nat} {Q : Option NV → TS → Prop} {a0 : Nat → Nat → Nat} {e0 : Nat → Nat → Bool} {t : TS} {bc bs : Nat} (hW : W.2.2.2 = mm_fx) : ∀ (n : Nat) (v1 : Int32) (v2 : Int32) (v3 : Int32), wp (B_X12_countPlayers_4 n t v1 v2 v3) (fun r => Q (some (eI r)) t) → nX W (d + 1) tX12_countPlayers Q a0 e0 4 [some (eR (some (12, 0))), some (eI v1), some (eI v2), some (eI v3)] [] t bc bs := by
  intro n
  induction n with
  | zero => intro v1 v2 v3 H; exact (wp_none H).elim
  | succ n ih =>
    intro v1 v2 v3 H
    exact TBB_X12_countPlayers_4 hW    ih v1 v2 v3 H
def F_X12_countPlayers (t : TS) (x1 : Int32) : Option Int32 := (B_X12_countPlayers_4  10000 t x1 0 0)
theorem TF_X12_countPlayers {W : NW} {d : Nat} {t : TS} {x1 : Int32} {Q : Option NV → TS → Prop} {bc bs : Nat} (hW : W.2.2.2 = mm_fx) (H : wp (F_X12_countPlayers t x1) (fun r => Q (some (eI r)) t)) : nC W (d + 2) 124 [eR (some (12, 0)), eI x1] t bc bs Q := by
  refine nC_in (d := (d + 1)) (T := tX12_countPlayers) (ls := [some (eR (some (12, 0))), some (eI x1), none, none]) rfl (Nat.le_of_ble_eq_true rfl) rfl (fun a0 e0 => ?_)
  unfold F_X12_countPlayers at H
  refine nx_int (x := 0) rfl rfl ?_
  refine nx_st (ls' := [some (eR (some (12, 0))), some (eI x1), some (eI 0), none]) rfl rfl rfl (Nat.le_of_ble_eq_true rfl) rfl ?_
  refine nx_int (x := 0) rfl rfl ?_
  refine nx_st (ls' := [some (eR (some (12, 0))), some (eI x1), some (eI 0), some (eI 0)]) rfl rfl rfl (Nat.le_of_ble_eq_true rfl) rfl ?_
  exact TB_X12_countPlayers_4 hW    10000 _ _ _ H
