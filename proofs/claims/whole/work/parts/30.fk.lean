/-! functions of methods over the typed heap, and that the runs follow them (by program: wip/whole/walk.py) -/
def F_X13_look (t : TS) : Option Int32 := (if (tI t 1354 0) ≤ (tI t 1363 0) then (some ((-1))) else (gd (tI t 1363 0) (tL t 3353 0) (some ((tA t 3353 0 (tI t 1363 0).toNatClampNeg)))))
theorem TF_X13_look {W : NW} {d : Nat} {t : TS} {Q : Option NV → TS → Prop} {bc bs : Nat} (hW : W.2.2.2 = mm_fx) (H : wp (F_X13_look t) (fun r => Q (some (eI r)) t)) : nC W (d + 1) 213 [eR (some (13, 0))] t bc bs Q := by
  refine nC_in (d := d) (T := tX13_look) (ls := [some (eR (some (13, 0)))]) rfl (Nat.le_of_ble_eq_true rfl) rfl (fun a0 e0 => ?_)
  unfold F_X13_look at H
  refine nx_ld rfl rfl rfl rfl ?_
  refine nx_getI rfl rfl rfl (by decide) ?_
  refine nx_ld rfl rfl rfl rfl ?_
  refine nx_getI rfl rfl rfl (by decide) ?_
  refine nx_icmp rfl rfl (by rfl) H (fun H => ?_) (fun H => ?_)
  · refine nx_int (x := (-1)) rfl rfl ?_
    exact nx_ri rfl rfl H
  refine nx_ld rfl rfl rfl rfl ?_
  refine nx_getFix rfl rfl rfl (by decide) (by rw [hW]; rfl) rfl ?_
  refine nx_ld rfl rfl rfl rfl ?_
  refine nx_getI rfl rfl rfl (by decide) ?_
  refine nx_bald (c := 3353) (i := 0) rfl rfl (Nat.le_of_ble_eq_true rfl) (Nat.le_of_ble_eq_true rfl) (Or.inl rfl) H (fun H => ?_)
  refine nx_goto rfl rfl ?_
  exact nx_ri rfl rfl H
def F_X13_wrong (t : TS) : Option TS := (if 0 ≤ (tI t 1364 0) then (some t) else (nxt (uI t 1364 0 (tI t 1363 0)) (fun t21 => (some t21))))
theorem TF_X13_wrong {W : NW} {d : Nat} {t : TS} {Q : Option NV → TS → Prop} {bc bs : Nat} (hW : W.2.2.2 = mm_fx) (H : wp (F_X13_wrong t) (fun r => Q none r)) : nC W (d + 1) 214 [eR (some (13, 0))] t bc bs Q := by
  refine nC_in (d := d) (T := tX13_wrong) (ls := [some (eR (some (13, 0)))]) rfl (Nat.le_of_ble_eq_true rfl) rfl (fun a0 e0 => ?_)
  unfold F_X13_wrong at H
  refine nx_ld rfl rfl rfl rfl ?_
  refine nx_getI rfl rfl rfl (by decide) ?_
  refine nx_if rfl rfl (by rfl) H (fun H => ?_) (fun H => ?_)
  · exact nx_rv rfl rfl H
  refine nx_ld rfl rfl rfl rfl ?_
  refine nx_ld rfl rfl rfl rfl ?_
  refine nx_getI rfl rfl rfl (by decide) ?_
  refine nx_putI rfl rfl rfl (by decide) H (fun t21 H => ?_)
  exact nx_rv rfl rfl H
def F_X13_lay (t : TS) (x1 : Int32) (x2 : Int32) : Option TS := (gd ((200 * (tI t 1366 0)) + (tI t 1367 0)) (tL t 3361 0) (nxt (uA t 3361 0 ((200 * (tI t 1366 0)) + (tI t 1367 0)).toNatClampNeg x1) (fun t21 => (gd ((200 * (tI t21 1366 0)) + (tI t21 1367 0)) (tL t21 3362 0) (nxt (uA t21 3362 0 ((200 * (tI t21 1366 0)) + (tI t21 1367 0)).toNatClampNeg x2) (fun t22 => (nxt (uI t22 1367 0 ((tI t22 1367 0) + 1)) (fun t23 => (some t23)))))))))
theorem TF_X13_lay {W : NW} {d : Nat} {t : TS} {x1 : Int32} {x2 : Int32} {Q : Option NV → TS → Prop} {bc bs : Nat} (hW : W.2.2.2 = mm_fx) (H : wp (F_X13_lay t x1 x2) (fun r => Q none r)) : nC W (d + 1) 215 [eR (some (13, 0)), eI x1, eI x2] t bc bs Q := by
  refine nC_in (d := d) (T := tX13_lay) (ls := [some (eR (some (13, 0))), some (eI x1), some (eI x2)]) rfl (Nat.le_of_ble_eq_true rfl) rfl (fun a0 e0 => ?_)
  unfold F_X13_lay at H
  refine nx_ld rfl rfl rfl rfl ?_
  refine nx_getFix rfl rfl rfl (by decide) (by rw [hW]; rfl) rfl ?_
  refine nx_int (x := 200) rfl rfl ?_
  refine nx_ld rfl rfl rfl rfl ?_
  refine nx_getI rfl rfl rfl (by decide) ?_
  refine nx_ii rfl rfl ?_
  refine nx_ld rfl rfl rfl rfl ?_
  show nX _ _ _ _ _ _ 13 _ _ _ _ _
  refine nx_getI rfl rfl rfl (by decide) ?_
  refine nx_ii rfl rfl ?_
  refine nx_ld rfl rfl rfl rfl ?_
  refine nx_iast (p := (3361, 0)) rfl rfl (Nat.le_of_ble_eq_true rfl) (Nat.le_of_ble_eq_true rfl) rfl H (fun t21 H => ?_)
  refine nx_ld rfl rfl rfl rfl ?_
  refine nx_getFix rfl rfl rfl (by decide) (by rw [hW]; rfl) rfl ?_
  refine nx_int (x := 200) rfl rfl ?_
  refine nx_ld rfl rfl rfl rfl ?_
  show nX _ _ _ _ _ _ 27 _ _ _ _ _
  refine nx_getI rfl rfl rfl (by decide) ?_
  refine nx_ii rfl rfl ?_
  refine nx_ld rfl rfl rfl rfl ?_
  refine nx_getI rfl rfl rfl (by decide) ?_
  refine nx_ii rfl rfl ?_
  refine nx_ld rfl rfl rfl rfl ?_
  refine nx_iast (p := (3362, 0)) rfl rfl (Nat.le_of_ble_eq_true rfl) (Nat.le_of_ble_eq_true rfl) rfl H (fun t22 H => ?_)
  refine nx_ld rfl rfl rfl rfl ?_
  show nX _ _ _ _ _ _ 39 _ _ _ _ _
  refine nx_dup rfl rfl (Nat.ne_of_beq_eq_false rfl) ?_
  refine nx_getI rfl rfl rfl (by decide) ?_
  refine nx_int (x := 1) rfl rfl ?_
  refine nx_ii rfl rfl ?_
  refine nx_putI rfl rfl rfl (by decide) H (fun t23 H => ?_)
  exact nx_rv rfl rfl H
def F_X13_opens (t : TS) : Option (Int32 × TS) := (if ¬ (tI t 1365 0) = 8 then (nxt (uI t 1365 0 ((tI t 1365 0) + 1)) (fun t21 => (nxt (uI t21 1363 0 ((tI t21 1363 0) + 1)) (fun t22 => (some (1, t22)))))) else (Option.bind (F_X13_wrong t) (fun r23 => (some (0, r23)))))
theorem TF_X13_opens {W : NW} {d : Nat} {t : TS} {Q : Option NV → TS → Prop} {bc bs : Nat} (hW : W.2.2.2 = mm_fx) (H : wp (F_X13_opens t) (fun r => Q (some (eI r.1)) r.2)) : nC W (d + 2) 216 [eR (some (13, 0))] t bc bs Q := by
  refine nC_in (d := (d + 1)) (T := tX13_opens) (ls := [some (eR (some (13, 0)))]) rfl (Nat.le_of_ble_eq_true rfl) rfl (fun a0 e0 => ?_)
  unfold F_X13_opens at H
  refine nx_ld rfl rfl rfl rfl ?_
  refine nx_getI rfl rfl rfl (by decide) ?_
  refine nx_int (x := 8) rfl rfl ?_
  refine nx_icmp rfl rfl (by rfl) H (fun H => ?_) (fun H => ?_)
  · refine nx_ld rfl rfl rfl rfl ?_
    refine nx_dup rfl rfl (Nat.ne_of_beq_eq_false rfl) ?_
    refine nx_getI rfl rfl rfl (by decide) ?_
    refine nx_int (x := 1) rfl rfl ?_
    refine nx_ii rfl rfl ?_
    refine nx_putI rfl rfl rfl (by decide) H (fun t21 H => ?_)
    refine nx_ld rfl rfl rfl rfl ?_
    show nX _ _ _ _ _ _ 26 _ _ _ _ _
    refine nx_dup rfl rfl (Nat.ne_of_beq_eq_false rfl) ?_
    refine nx_getI rfl rfl rfl (by decide) ?_
    refine nx_int (x := 1) rfl rfl ?_
    refine nx_ii rfl rfl ?_
    refine nx_putI rfl rfl rfl (by decide) H (fun t22 H => ?_)
    refine nx_int (x := 1) rfl rfl ?_
    exact nx_rzlt rfl rfl (by decide) H
  refine nx_ld rfl rfl rfl rfl ?_
  refine nx_cVVt (as := []) (st' := []) rfl rfl (Nat.le_of_ble_eq_true rfl) rfl rfl (Nat.le_of_ble_eq_true rfl) (c0 := 13) rfl (by decide) H (fun Q H => TF_X13_wrong hW  H) (fun r23 H => ?_)
  refine nx_int (x := 0) rfl rfl ?_
  exact nx_rzlt rfl rfl (by decide) H
def F_X13_closes (t : TS) (x1 : Int32) : Option TS := (Option.bind (F_X13_look t) (fun r21 => (if r21 = x1 then (nxt (uI t 1365 0 ((tI t 1365 0) - 1)) (fun t22 => (nxt (uI t22 1363 0 ((tI t22 1363 0) + 1)) (fun t23 => (some t23))))) else (Option.bind (F_X13_wrong t) (fun r24 => (some r24))))))
theorem TF_X13_closes {W : NW} {d : Nat} {t : TS} {x1 : Int32} {Q : Option NV → TS → Prop} {bc bs : Nat} (hW : W.2.2.2 = mm_fx) (H : wp (F_X13_closes t x1) (fun r => Q none r)) : nC W (d + 2) 217 [eR (some (13, 0)), eI x1] t bc bs Q := by
  refine nC_in (d := (d + 1)) (T := tX13_closes) (ls := [some (eR (some (13, 0))), some (eI x1)]) rfl (Nat.le_of_ble_eq_true rfl) rfl (fun a0 e0 => ?_)
  unfold F_X13_closes at H
  refine nx_ld rfl rfl rfl rfl ?_
  refine nx_cVI (as := []) (st' := []) rfl rfl (Nat.le_of_ble_eq_true rfl) rfl rfl (Nat.le_of_ble_eq_true rfl) (c0 := 13) rfl (by decide) H (fun Q H => TF_X13_look hW  H) (fun r21 H => ?_)
  refine nx_ld rfl rfl rfl rfl ?_
  refine nx_icmp rfl rfl (by rfl) H (fun H => ?_) (fun H => ?_)
  · refine nx_ld rfl rfl rfl rfl ?_
    refine nx_dup rfl rfl (Nat.ne_of_beq_eq_false rfl) ?_
    refine nx_getI rfl rfl rfl (by decide) ?_
    refine nx_int (x := 1) rfl rfl ?_
    refine nx_ii rfl rfl ?_
    refine nx_putI rfl rfl rfl (by decide) H (fun t22 H => ?_)
    refine nx_ld rfl rfl rfl rfl ?_
    show nX _ _ _ _ _ _ 24 _ _ _ _ _
    refine nx_dup rfl rfl (Nat.ne_of_beq_eq_false rfl) ?_
    refine nx_getI rfl rfl rfl (by decide) ?_
    refine nx_int (x := 1) rfl rfl ?_
    refine nx_ii rfl rfl ?_
    refine nx_putI rfl rfl rfl (by decide) H (fun t23 H => ?_)
    exact nx_rv rfl rfl H
  refine nx_ld rfl rfl rfl rfl ?_
  refine nx_cVVt (as := []) (st' := []) rfl rfl (Nat.le_of_ble_eq_true rfl) rfl rfl (Nat.le_of_ble_eq_true rfl) (c0 := 13) rfl (by decide) H (fun Q H => TF_X13_wrong hW  H) (fun r24 H => ?_)
  exact nx_rv rfl rfl H
def F_X13_nameOf (t : TS) (x1 : Int32) : Option Int32 := (swi x1 97 [(some (0)), (some ((-1))), (some (6)), (some (10)), (some ((-1))), (some ((-1))), (some ((-1))), (some (2)), (some (8)), (some ((-1))), (some (1)), (some (9)), (some (11)), (some (3)), (some ((-1))), (some ((-1))), (some ((-1))), (some ((-1))), (some ((-1))), (some (7)), (some ((-1))), (some ((-1))), (some (5)), (some ((-1))), (some (4))] (some ((-1))))
theorem TF_X13_nameOf {W : NW} {d : Nat} {t : TS} {x1 : Int32} {Q : Option NV → TS → Prop} {bc bs : Nat} (hW : W.2.2.2 = mm_fx) (H : wp (F_X13_nameOf t x1) (fun r => Q (some (eI r)) t)) : nC W (d + 1) 218 [eI x1] t bc bs Q := by
  refine nC_in (d := d) (T := tX13_nameOf) (ls := [some (eI x1)]) rfl (Nat.le_of_ble_eq_true rfl) rfl (fun a0 e0 => ?_)
  unfold F_X13_nameOf at H
  refine nx_ld rfl rfl rfl rfl ?_
  refine nx_tsw rfl rfl (by decide) (by decide) (by decide) H (fun H => ?_) ?_
  · show nX _ _ _ _ _ _ 146 _ _ _ _ _
    refine nx_int (x := (-1)) rfl rfl ?_
    exact nx_ri rfl rfl H
  refine ⟨fun H => ?_, fun H => ?_, fun H => ?_, fun H => ?_, fun H => ?_, fun H => ?_, fun H => ?_, fun H => ?_, fun H => ?_, fun H => ?_, fun H => ?_, fun H => ?_, fun H => ?_, fun H => ?_, fun H => ?_, fun H => ?_, fun H => ?_, fun H => ?_, fun H => ?_, fun H => ?_, fun H => ?_, fun H => ?_, fun H => ?_, fun H => ?_, fun H => ?_, trivial⟩
  · show nX _ _ _ _ _ _ 116 _ _ _ _ _
    refine nx_int (x := 0) rfl rfl ?_
    exact nx_ri rfl rfl H
  · show nX _ _ _ _ _ _ 146 _ _ _ _ _
    refine nx_int (x := (-1)) rfl rfl ?_
    exact nx_ri rfl rfl H
  · show nX _ _ _ _ _ _ 128 _ _ _ _ _
    refine nx_int (x := 6) rfl rfl ?_
    exact nx_ri rfl rfl H
  · show nX _ _ _ _ _ _ 140 _ _ _ _ _
    refine nx_int (x := 10) rfl rfl ?_
    exact nx_ri rfl rfl H
  · show nX _ _ _ _ _ _ 146 _ _ _ _ _
    refine nx_int (x := (-1)) rfl rfl ?_
    exact nx_ri rfl rfl H
  · show nX _ _ _ _ _ _ 146 _ _ _ _ _
    refine nx_int (x := (-1)) rfl rfl ?_
    exact nx_ri rfl rfl H
  · show nX _ _ _ _ _ _ 146 _ _ _ _ _
    refine nx_int (x := (-1)) rfl rfl ?_
    exact nx_ri rfl rfl H
  · show nX _ _ _ _ _ _ 120 _ _ _ _ _
    refine nx_int (x := 2) rfl rfl ?_
    exact nx_ri rfl rfl H
  · show nX _ _ _ _ _ _ 134 _ _ _ _ _
    refine nx_int (x := 8) rfl rfl ?_
    exact nx_ri rfl rfl H
  · show nX _ _ _ _ _ _ 146 _ _ _ _ _
    refine nx_int (x := (-1)) rfl rfl ?_
    exact nx_ri rfl rfl H
  · show nX _ _ _ _ _ _ 118 _ _ _ _ _
    refine nx_int (x := 1) rfl rfl ?_
    exact nx_ri rfl rfl H
  · show nX _ _ _ _ _ _ 137 _ _ _ _ _
    refine nx_int (x := 9) rfl rfl ?_
    exact nx_ri rfl rfl H
  · show nX _ _ _ _ _ _ 143 _ _ _ _ _
    refine nx_int (x := 11) rfl rfl ?_
    exact nx_ri rfl rfl H
  · show nX _ _ _ _ _ _ 122 _ _ _ _ _
    refine nx_int (x := 3) rfl rfl ?_
    exact nx_ri rfl rfl H
  · show nX _ _ _ _ _ _ 146 _ _ _ _ _
    refine nx_int (x := (-1)) rfl rfl ?_
    exact nx_ri rfl rfl H
  · show nX _ _ _ _ _ _ 146 _ _ _ _ _
    refine nx_int (x := (-1)) rfl rfl ?_
    exact nx_ri rfl rfl H
  · show nX _ _ _ _ _ _ 146 _ _ _ _ _
    refine nx_int (x := (-1)) rfl rfl ?_
    exact nx_ri rfl rfl H
  · show nX _ _ _ _ _ _ 146 _ _ _ _ _
    refine nx_int (x := (-1)) rfl rfl ?_
    exact nx_ri rfl rfl H
  · show nX _ _ _ _ _ _ 146 _ _ _ _ _
    refine nx_int (x := (-1)) rfl rfl ?_
    exact nx_ri rfl rfl H
  · show nX _ _ _ _ _ _ 131 _ _ _ _ _
    refine nx_int (x := 7) rfl rfl ?_
    exact nx_ri rfl rfl H
  · show nX _ _ _ _ _ _ 146 _ _ _ _ _
    refine nx_int (x := (-1)) rfl rfl ?_
    exact nx_ri rfl rfl H
  · show nX _ _ _ _ _ _ 146 _ _ _ _ _
    refine nx_int (x := (-1)) rfl rfl ?_
    exact nx_ri rfl rfl H
  · show nX _ _ _ _ _ _ 126 _ _ _ _ _
    refine nx_int (x := 5) rfl rfl ?_
    exact nx_ri rfl rfl H
  · show nX _ _ _ _ _ _ 146 _ _ _ _ _
    refine nx_int (x := (-1)) rfl rfl ?_
    exact nx_ri rfl rfl H
  · show nX _ _ _ _ _ _ 124 _ _ _ _ _
    refine nx_int (x := 4) rfl rfl ?_
    exact nx_ri rfl rfl H
def B_X13_operand_139 (g : Nat → TS → Option TS) (t : TS) : Option TS := (Option.bind (F_X13_wrong t) (fun r21 => (some r21)))
theorem TB_X13_operand_139 {W : NW} {d : Nat} {Q : Option NV → TS → Prop} {a0 : Nat → Nat → Nat} {e0 : Nat → Nat → Bool} {g : Nat → TS → Option TS} {bc bs : Nat} (hW : W.2.2.2 = mm_fx) (hg0 : ∀ (t : TS)  (bc bs : Nat) (Q : Option NV → TS → Prop), wp (g 0 t) (fun r => Q none r) → nC W (d + 3) 219 [eR (some (13, 0))] t bc bs Q) (hg1 : ∀ (t : TS)  (bc bs : Nat) (Q : Option NV → TS → Prop), wp (g 1 t) (fun r => Q none r) → nC W (d + 3) 220 [eR (some (13, 0))] t bc bs Q) (hg2 : ∀ (t : TS)  (bc bs : Nat) (Q : Option NV → TS → Prop), wp (g 2 t) (fun r => Q none r) → nC W (d + 3) 221 [eR (some (13, 0))] t bc bs Q) : ∀ (t : TS) (v1 : Int32) (v2 : Int32), wp (B_X13_operand_139 g t) (fun r => Q none r) → nX W (d + 3) tX13_operand Q a0 e0 139 [some (eR (some (13, 0))), some (eI v1), some (eI v2)] [] t bc bs := by
  intro t v1 v2 H
  unfold B_X13_operand_139 at H
  refine nx_ld rfl rfl rfl rfl ?_
  refine nx_cVVt (as := []) (st' := []) rfl rfl (Nat.le_of_ble_eq_true rfl) rfl rfl (Nat.le_of_ble_eq_true rfl) (c0 := 13) rfl (by decide) H (fun Q H => TF_X13_wrong hW  H) (fun r21 H => ?_)
  refine nx_goto rfl rfl ?_
  exact nx_rv rfl rfl H
def B_X13_operand_121 (g : Nat → TS → Option TS) (t : TS) (v1 : Int32) (v2 : Int32) : Option TS := (if v1 = 0 then (B_X13_operand_139 g  t) else (Option.bind (F_X13_look t) (fun r21 => (Option.bind (F_X13_in t r21 48 57) (fun r22 => (if r22 = 0 then (Option.bind (F_X13_lay t 1 v2) (fun r23 => (some r23))) else (B_X13_operand_139 g  t)))))))
theorem TB_X13_operand_121 {W : NW} {d : Nat} {Q : Option NV → TS → Prop} {a0 : Nat → Nat → Nat} {e0 : Nat → Nat → Bool} {g : Nat → TS → Option TS} {bc bs : Nat} (hW : W.2.2.2 = mm_fx) (hg0 : ∀ (t : TS)  (bc bs : Nat) (Q : Option NV → TS → Prop), wp (g 0 t) (fun r => Q none r) → nC W (d + 3) 219 [eR (some (13, 0))] t bc bs Q) (hg1 : ∀ (t : TS)  (bc bs : Nat) (Q : Option NV → TS → Prop), wp (g 1 t) (fun r => Q none r) → nC W (d + 3) 220 [eR (some (13, 0))] t bc bs Q) (hg2 : ∀ (t : TS)  (bc bs : Nat) (Q : Option NV → TS → Prop), wp (g 2 t) (fun r => Q none r) → nC W (d + 3) 221 [eR (some (13, 0))] t bc bs Q) : ∀ (t : TS) (v1 : Int32) (v2 : Int32), wp (B_X13_operand_121 g t v1 v2) (fun r => Q none r) → nX W (d + 3) tX13_operand Q a0 e0 121 [some (eR (some (13, 0))), some (eI v1), some (eI v2)] [] t bc bs := by
  intro t v1 v2 H
  unfold B_X13_operand_121 at H
  refine nx_ld rfl rfl rfl rfl ?_
  refine nx_if rfl rfl (by rfl) H (fun H => ?_) (fun H => ?_)
  · exact TB_X13_operand_139 hW  hg0 hg1 hg2  _ _ _ H
  refine nx_ld rfl rfl rfl rfl ?_
  refine nx_cVI (as := []) (st' := []) rfl rfl (Nat.le_of_ble_eq_true rfl) rfl rfl (Nat.le_of_ble_eq_true rfl) (c0 := 13) rfl (by decide) H (fun Q H => TF_X13_look hW  H) (fun r21 H => ?_)
  refine nx_int (x := 48) rfl rfl ?_
  refine nx_int (x := 57) rfl rfl ?_
  refine nx_cSI (as := [eI r21, eI 48, eI 57]) (st' := []) rfl rfl (Nat.le_of_ble_eq_true rfl) rfl rfl (Nat.le_of_ble_eq_true rfl) H (fun Q H => TF_X13_in hW  H) (fun r22 H => ?_)
  refine nx_if rfl rfl (by rfl) H (fun H => ?_) (fun H => ?_)
  · refine nx_ld rfl rfl rfl rfl ?_
    refine nx_int (x := 1) rfl rfl ?_
    refine nx_ld rfl rfl rfl rfl ?_
    refine nx_cVVt (as := [eI 1, eI v2]) (st' := []) rfl rfl (Nat.le_of_ble_eq_true rfl) rfl rfl (Nat.le_of_ble_eq_true rfl) (c0 := 13) rfl (by decide) H (fun Q H => TF_X13_lay hW  H) (fun r23 H => ?_)
    exact nx_rv rfl rfl H
  exact TB_X13_operand_139 hW  hg0 hg1 hg2  _ _ _ H
def BB_X13_operand_72 (g : Nat → TS → Option TS) (k72 : TS → Int32 → Int32 → Option TS) (t : TS) (v1 : Int32) (v2 : Int32) : Option TS := (if 7 ≤ v1 then (B_X13_operand_121 g  t v1 v2) else (Option.bind (F_X13_look t) (fun r21 => (Option.bind (F_X13_in t r21 48 57) (fun r22 => (if r22 = 0 then (B_X13_operand_121 g  t v1 v2) else (Option.bind (F_X13_look t) (fun r23 => (nxt (uI t 1363 0 ((tI t 1363 0) + 1)) (fun t24 => (k72 t24 (v1 + 1) (((10 * v2) + r23) - 48))))))))))))
theorem TBB_X13_operand_72 {W : NW} {d : Nat} {Q : Option NV → TS → Prop} {a0 : Nat → Nat → Nat} {e0 : Nat → Nat → Bool} {g : Nat → TS → Option TS} {k72 : TS → Int32 → Int32 → Option TS} {bc bs : Nat} (hW : W.2.2.2 = mm_fx) (hg0 : ∀ (t : TS)  (bc bs : Nat) (Q : Option NV → TS → Prop), wp (g 0 t) (fun r => Q none r) → nC W (d + 3) 219 [eR (some (13, 0))] t bc bs Q) (hg1 : ∀ (t : TS)  (bc bs : Nat) (Q : Option NV → TS → Prop), wp (g 1 t) (fun r => Q none r) → nC W (d + 3) 220 [eR (some (13, 0))] t bc bs Q) (hg2 : ∀ (t : TS)  (bc bs : Nat) (Q : Option NV → TS → Prop), wp (g 2 t) (fun r => Q none r) → nC W (d + 3) 221 [eR (some (13, 0))] t bc bs Q) (hk72 : ∀ (t : TS) (v1 : Int32) (v2 : Int32), wp (k72 t v1 v2) (fun r => Q none r) → nX W (d + 3) tX13_operand Q a0 e0 72 [some (eR (some (13, 0))), some (eI v1), some (eI v2)] [] t bc bs) : ∀ (t : TS) (v1 : Int32) (v2 : Int32), wp (BB_X13_operand_72 g k72 t v1 v2) (fun r => Q none r) → nX W (d + 3) tX13_operand Q a0 e0 72 [some (eR (some (13, 0))), some (eI v1), some (eI v2)] [] t bc bs := by
  intro t v1 v2 H
  unfold BB_X13_operand_72 at H
  refine nx_ld rfl rfl rfl rfl ?_
  refine nx_int (x := 7) rfl rfl ?_
  refine nx_icmp rfl rfl (by rfl) H (fun H => ?_) (fun H => ?_)
  · exact TB_X13_operand_121 hW  hg0 hg1 hg2  _ _ _ H
  refine nx_ld rfl rfl rfl rfl ?_
  refine nx_cVI (as := []) (st' := []) rfl rfl (Nat.le_of_ble_eq_true rfl) rfl rfl (Nat.le_of_ble_eq_true rfl) (c0 := 13) rfl (by decide) H (fun Q H => TF_X13_look hW  H) (fun r21 H => ?_)
  refine nx_int (x := 48) rfl rfl ?_
  refine nx_int (x := 57) rfl rfl ?_
  refine nx_cSI (as := [eI r21, eI 48, eI 57]) (st' := []) rfl rfl (Nat.le_of_ble_eq_true rfl) rfl rfl (Nat.le_of_ble_eq_true rfl) H (fun Q H => TF_X13_in hW  H) (fun r22 H => ?_)
  refine nx_if rfl rfl (by rfl) H (fun H => ?_) (fun H => ?_)
  · exact TB_X13_operand_121 hW  hg0 hg1 hg2  _ _ _ H
  refine nx_int (x := 10) rfl rfl ?_
  refine nx_ld rfl rfl rfl rfl ?_
  refine nx_ii rfl rfl ?_
  refine nx_ld rfl rfl rfl rfl ?_
  refine nx_cVI (as := []) (st' := [eI (10 * v2)]) rfl rfl (Nat.le_of_ble_eq_true rfl) rfl rfl (Nat.le_of_ble_eq_true rfl) (c0 := 13) rfl (by decide) H (fun Q H => TF_X13_look hW  H) (fun r23 H => ?_)
  refine nx_ii rfl rfl ?_
  refine nx_int (x := 48) rfl rfl ?_
  show nX _ _ _ _ _ _ 103 _ _ _ _ _
  refine nx_ii rfl rfl ?_
  refine nx_st (ls' := [some (eR (some (13, 0))), some (eI v1), some (eI (((10 * v2) + r23) - 48))]) rfl rfl rfl (Nat.le_of_ble_eq_true rfl) rfl ?_
  refine nx_iinc2 1 (ls' := [some (eR (some (13, 0))), some (eI (v1 + 1)), some (eI (((10 * v2) + r23) - 48))]) rfl rfl rfl rfl rfl ?_
  refine nx_ld rfl rfl rfl rfl ?_
  refine nx_dup rfl rfl (Nat.ne_of_beq_eq_false rfl) ?_
  refine nx_getI rfl rfl rfl (by decide) ?_
  refine nx_int (x := 1) rfl rfl ?_
  refine nx_ii rfl rfl ?_
  show nX _ _ _ _ _ _ 115 _ _ _ _ _
  refine nx_putI rfl rfl rfl (by decide) H (fun t24 H => ?_)
  refine nx_goto rfl rfl ?_
  exact hk72 _ _ _ H
def B_X13_operand_72 (g : Nat → TS → Option TS) : Nat → TS → Int32 → Int32 → Option TS
  | 0 => fun _ _ _ => none
  | n + 1 => fun t v1 v2 => BB_X13_operand_72 g (B_X13_operand_72 g n) t v1 v2
theorem TB_X13_operand_72 {W : NW} {d : Nat} {Q : Option NV → TS → Prop} {a0 : Nat → Nat → Nat} {e0 : Nat → Nat → Bool} {g : Nat → TS → Option TS} {bc bs : Nat} (hW : W.2.2.2 = mm_fx) (hg0 : ∀ (t : TS)  (bc bs : Nat) (Q : Option NV → TS → Prop), wp (g 0 t) (fun r => Q none r) → nC W (d + 3) 219 [eR (some (13, 0))] t bc bs Q) (hg1 : ∀ (t : TS)  (bc bs : Nat) (Q : Option NV → TS → Prop), wp (g 1 t) (fun r => Q none r) → nC W (d + 3) 220 [eR (some (13, 0))] t bc bs Q) (hg2 : ∀ (t : TS)  (bc bs : Nat) (Q : Option NV → TS → Prop), wp (g 2 t) (fun r => Q none r) → nC W (d + 3) 221 [eR (some (13, 0))] t bc bs Q) : ∀ (n : Nat) (t : TS) (v1 : Int32) (v2 : Int32), wp (B_X13_operand_72 g n t v1 v2) (fun r => Q none r) → nX W (d + 3) tX13_operand Q a0 e0 72 [some (eR (some (13, 0))), some (eI v1), some (eI v2)] [] t bc bs := by
  intro n
  induction n with
  | zero => intro t v1 v2 H; exact (wp_none H).elim
  | succ n ih =>
    intro t v1 v2 H
    exact TBB_X13_operand_72 hW  hg0 hg1 hg2   ih t v1 v2 H
def Fb_X13_operand (g : Nat → TS → Option TS) (t : TS) : Option TS := (Option.bind (F_X13_look t) (fun r21 => (Option.bind (F_X13_nameOf t r21) (fun r22 => (if r22 < 0 then (Option.bind (F_X13_look t) (fun r23 => (if ¬ r23 = 40 then (B_X13_operand_72 g  10000 t 0 0) else (ob2 (F_X13_opens t) (fun x25 t26 => (if ¬ x25 = 0 then (Option.bind (g 2 t26) (fun r27 => (if 0 ≤ (tI r27 1364 0) then (some r27) else (Option.bind (F_X13_closes r27 41) (fun r28 => (some r28)))))) else (some t26))))))) else (Option.bind (F_X13_look t) (fun r29 => (Option.bind (F_X13_nameOf t r29) (fun r30 => (Option.bind (F_X13_lay t 2 r30) (fun r31 => (nxt (uI r31 1363 0 ((tI r31 1363 0) + 1)) (fun t32 => (some t32))))))))))))))
theorem TFb_X13_operand {W : NW} {d : Nat} {g : Nat → TS → Option TS} {t : TS} {Q : Option NV → TS → Prop} {bc bs : Nat} (hW : W.2.2.2 = mm_fx) (hg0 : ∀ (t : TS)  (bc bs : Nat) (Q : Option NV → TS → Prop), wp (g 0 t) (fun r => Q none r) → nC W (d + 3) 219 [eR (some (13, 0))] t bc bs Q) (hg1 : ∀ (t : TS)  (bc bs : Nat) (Q : Option NV → TS → Prop), wp (g 1 t) (fun r => Q none r) → nC W (d + 3) 220 [eR (some (13, 0))] t bc bs Q) (hg2 : ∀ (t : TS)  (bc bs : Nat) (Q : Option NV → TS → Prop), wp (g 2 t) (fun r => Q none r) → nC W (d + 3) 221 [eR (some (13, 0))] t bc bs Q) (H : wp (Fb_X13_operand g t) (fun r => Q none r)) : nC W (d + 4) 219 [eR (some (13, 0))] t bc bs Q := by
  refine nC_in (d := (d + 3)) (T := tX13_operand) (ls := [some (eR (some (13, 0))), none, none]) rfl (Nat.le_of_ble_eq_true rfl) rfl (fun a0 e0 => ?_)
  unfold Fb_X13_operand at H
  refine nx_ld rfl rfl rfl rfl ?_
  refine nx_cVI (as := []) (st' := []) rfl rfl (Nat.le_of_ble_eq_true rfl) rfl rfl (Nat.le_of_ble_eq_true rfl) (c0 := 13) rfl (by decide) H (fun Q H => TF_X13_look hW  H) (fun r21 H => ?_)
  refine nx_cSI (as := [eI r21]) (st' := []) rfl rfl (Nat.le_of_ble_eq_true rfl) rfl rfl (Nat.le_of_ble_eq_true rfl) H (fun Q H => TF_X13_nameOf hW  H) (fun r22 H => ?_)
  refine nx_if rfl rfl (by rfl) H (fun H => ?_) (fun H => ?_)
  · refine nx_ld rfl rfl rfl rfl ?_
    refine nx_cVI (as := []) (st' := []) rfl rfl (Nat.le_of_ble_eq_true rfl) rfl rfl (Nat.le_of_ble_eq_true rfl) (c0 := 13) rfl (by decide) H (fun Q H => TF_X13_look hW  H) (fun r23 H => ?_)
    refine nx_int (x := 40) rfl rfl ?_
    refine nx_icmp rfl rfl (by rfl) H (fun H => ?_) (fun H => ?_)
    · refine nx_int (x := 0) rfl rfl ?_
      refine nx_st (ls' := [some (eR (some (13, 0))), some (eI 0), none]) rfl rfl rfl (Nat.le_of_ble_eq_true rfl) rfl ?_
      refine nx_int (x := 0) rfl rfl ?_
      refine nx_st (ls' := [some (eR (some (13, 0))), some (eI 0), some (eI 0)]) rfl rfl rfl (Nat.le_of_ble_eq_true rfl) rfl ?_
      exact TB_X13_operand_72 hW  hg0 hg1 hg2  10000 _ _ _ H
    refine nx_ld rfl rfl rfl rfl ?_
    refine nx_cVI2 (as := []) (st' := []) rfl rfl (Nat.le_of_ble_eq_true rfl) rfl rfl (Nat.le_of_ble_eq_true rfl) (c0 := 13) rfl (by decide) H (fun Q H => TF_X13_opens hW  H) (fun x25 t26 H => ?_)
    refine nx_if rfl rfl (by rfl) H (fun H => ?_) (fun H => ?_)
    · refine nx_ld rfl rfl rfl rfl ?_
      refine nx_cVVt (as := []) (st' := []) rfl rfl (Nat.le_of_ble_eq_true rfl) rfl rfl (Nat.le_of_ble_eq_true rfl) (c0 := 13) rfl (by decide) H (fun Q H => hg2 _ _ _ _ H) (fun r27 H => ?_)
      refine nx_ld rfl rfl rfl rfl ?_
      refine nx_getI rfl rfl rfl (by decide) ?_
      refine nx_if rfl rfl (by rfl) H (fun H => ?_) (fun H => ?_)
      · exact nx_rv rfl rfl H
      refine nx_ld rfl rfl rfl rfl ?_
      refine nx_int (x := 41) rfl rfl ?_
      refine nx_cVVt (as := [eI 41]) (st' := []) rfl rfl (Nat.le_of_ble_eq_true rfl) rfl rfl (Nat.le_of_ble_eq_true rfl) (c0 := 13) rfl (by decide) H (fun Q H => TF_X13_closes hW  H) (fun r28 H => ?_)
      exact nx_rv rfl rfl H
    exact nx_rv rfl rfl H
  refine nx_ld rfl rfl rfl rfl ?_
  refine nx_int (x := 2) rfl rfl ?_
  refine nx_ld rfl rfl rfl rfl ?_
  refine nx_cVI (as := []) (st' := [eI 2, eR (some (13, 0))]) rfl rfl (Nat.le_of_ble_eq_true rfl) rfl rfl (Nat.le_of_ble_eq_true rfl) (c0 := 13) rfl (by decide) H (fun Q H => TF_X13_look hW  H) (fun r29 H => ?_)
  refine nx_cSI (as := [eI r29]) (st' := [eI 2, eR (some (13, 0))]) rfl rfl (Nat.le_of_ble_eq_true rfl) rfl rfl (Nat.le_of_ble_eq_true rfl) H (fun Q H => TF_X13_nameOf hW  H) (fun r30 H => ?_)
  refine nx_cVVt (as := [eI 2, eI r30]) (st' := []) rfl rfl (Nat.le_of_ble_eq_true rfl) rfl rfl (Nat.le_of_ble_eq_true rfl) (c0 := 13) rfl (by decide) H (fun Q H => TF_X13_lay hW  H) (fun r31 H => ?_)
  refine nx_ld rfl rfl rfl rfl ?_
  show nX _ _ _ _ _ _ 23 _ _ _ _ _
  refine nx_dup rfl rfl (Nat.ne_of_beq_eq_false rfl) ?_
  refine nx_getI rfl rfl rfl (by decide) ?_
  refine nx_int (x := 1) rfl rfl ?_
  refine nx_ii rfl rfl ?_
  refine nx_putI rfl rfl rfl (by decide) H (fun t32 H => ?_)
  exact nx_rv rfl rfl H
def B_X13_product_38 (g : Nat → TS → Option TS) (k4 : TS → Option TS) (t : TS) : Option TS := (Option.bind (F_X13_look t) (fun r21 => (nxt (uI t 1363 0 ((tI t 1363 0) + 1)) (fun t22 => (Option.bind (g 0 t22) (fun r23 => (Option.bind (F_X13_lay r23 r21 0) (fun r24 => (k4 r24)))))))))
theorem TB_X13_product_38 {W : NW} {d : Nat} {Q : Option NV → TS → Prop} {a0 : Nat → Nat → Nat} {e0 : Nat → Nat → Bool} {g : Nat → TS → Option TS} {k4 : TS → Option TS} {bc bs : Nat} (hW : W.2.2.2 = mm_fx) (hg0 : ∀ (t : TS)  (bc bs : Nat) (Q : Option NV → TS → Prop), wp (g 0 t) (fun r => Q none r) → nC W (d + 3) 219 [eR (some (13, 0))] t bc bs Q) (hg1 : ∀ (t : TS)  (bc bs : Nat) (Q : Option NV → TS → Prop), wp (g 1 t) (fun r => Q none r) → nC W (d + 3) 220 [eR (some (13, 0))] t bc bs Q) (hg2 : ∀ (t : TS)  (bc bs : Nat) (Q : Option NV → TS → Prop), wp (g 2 t) (fun r => Q none r) → nC W (d + 3) 221 [eR (some (13, 0))] t bc bs Q) (hk4 : ∀ (t : TS) (v1 : Option NV), wp (k4 t) (fun r => Q none r) → nX W (d + 3) tX13_product Q a0 e0 4 [some (eR (some (13, 0))), v1] [] t bc bs) : ∀ (t : TS) (v1 : Option NV), wp (B_X13_product_38 g k4 t) (fun r => Q none r) → nX W (d + 3) tX13_product Q a0 e0 38 [some (eR (some (13, 0))), v1] [] t bc bs := by
  intro t v1 H
  unfold B_X13_product_38 at H
  refine nx_ld rfl rfl rfl rfl ?_
  refine nx_cVI (as := []) (st' := []) rfl rfl (Nat.le_of_ble_eq_true rfl) rfl rfl (Nat.le_of_ble_eq_true rfl) (c0 := 13) rfl (by decide) H (fun Q H => TF_X13_look hW  H) (fun r21 H => ?_)
  refine nx_st (ls' := [some (eR (some (13, 0))), some (eI r21)]) rfl rfl rfl (Nat.le_of_ble_eq_true rfl) rfl ?_
  refine nx_ld rfl rfl rfl rfl ?_
  refine nx_dup rfl rfl (Nat.ne_of_beq_eq_false rfl) ?_
  refine nx_getI rfl rfl rfl (by decide) ?_
  refine nx_int (x := 1) rfl rfl ?_
  show nX _ _ _ _ _ _ 49 _ _ _ _ _
  refine nx_ii rfl rfl ?_
  refine nx_putI rfl rfl rfl (by decide) H (fun t22 H => ?_)
  refine nx_ld rfl rfl rfl rfl ?_
  refine nx_cVVt (as := []) (st' := []) rfl rfl (Nat.le_of_ble_eq_true rfl) rfl rfl (Nat.le_of_ble_eq_true rfl) (c0 := 13) rfl (by decide) H (fun Q H => hg0 _ _ _ _ H) (fun r23 H => ?_)
  refine nx_ld rfl rfl rfl rfl ?_
  refine nx_ld rfl rfl rfl rfl ?_
  refine nx_int (x := 0) rfl rfl ?_
  refine nx_cVVt (as := [eI r21, eI 0]) (st' := []) rfl rfl (Nat.le_of_ble_eq_true rfl) rfl rfl (Nat.le_of_ble_eq_true rfl) (c0 := 13) rfl (by decide) H (fun Q H => TF_X13_lay hW  H) (fun r24 H => ?_)
  show nX _ _ _ _ _ _ 63 _ _ _ _ _
  refine nx_goto rfl rfl ?_
  exact hk4 _ _ H
def BB_X13_product_4 (g : Nat → TS → Option TS) (k4 : TS → Option TS) (t : TS) : Option TS := (if 0 ≤ (tI t 1364 0) then (some t) else (Option.bind (F_X13_look t) (fun r21 => (if r21 = 42 then (B_X13_product_38 g k4 t) else (Option.bind (F_X13_look t) (fun r22 => (if r22 = 47 then (B_X13_product_38 g k4 t) else (Option.bind (F_X13_look t) (fun r23 => (if ¬ r23 = 37 then (some t) else (B_X13_product_38 g k4 t)))))))))))
theorem TBB_X13_product_4 {W : NW} {d : Nat} {Q : Option NV → TS → Prop} {a0 : Nat → Nat → Nat} {e0 : Nat → Nat → Bool} {g : Nat → TS → Option TS} {k4 : TS → Option TS} {bc bs : Nat} (hW : W.2.2.2 = mm_fx) (hg0 : ∀ (t : TS)  (bc bs : Nat) (Q : Option NV → TS → Prop), wp (g 0 t) (fun r => Q none r) → nC W (d + 3) 219 [eR (some (13, 0))] t bc bs Q) (hg1 : ∀ (t : TS)  (bc bs : Nat) (Q : Option NV → TS → Prop), wp (g 1 t) (fun r => Q none r) → nC W (d + 3) 220 [eR (some (13, 0))] t bc bs Q) (hg2 : ∀ (t : TS)  (bc bs : Nat) (Q : Option NV → TS → Prop), wp (g 2 t) (fun r => Q none r) → nC W (d + 3) 221 [eR (some (13, 0))] t bc bs Q) (hk4 : ∀ (t : TS) (v1 : Option NV), wp (k4 t) (fun r => Q none r) → nX W (d + 3) tX13_product Q a0 e0 4 [some (eR (some (13, 0))), v1] [] t bc bs) : ∀ (t : TS) (v1 : Option NV), wp (BB_X13_product_4 g k4 t) (fun r => Q none r) → nX W (d + 3) tX13_product Q a0 e0 4 [some (eR (some (13, 0))), v1] [] t bc bs := by
  intro t v1 H
  unfold BB_X13_product_4 at H
  refine nx_ld rfl rfl rfl rfl ?_
  refine nx_getI rfl rfl rfl (by decide) ?_
  refine nx_if rfl rfl (by rfl) H (fun H => ?_) (fun H => ?_)
  · exact nx_rv rfl rfl H
  refine nx_ld rfl rfl rfl rfl ?_
  refine nx_cVI (as := []) (st' := []) rfl rfl (Nat.le_of_ble_eq_true rfl) rfl rfl (Nat.le_of_ble_eq_true rfl) (c0 := 13) rfl (by decide) H (fun Q H => TF_X13_look hW  H) (fun r21 H => ?_)
  refine nx_int (x := 42) rfl rfl ?_
  refine nx_icmp rfl rfl (by rfl) H (fun H => ?_) (fun H => ?_)
  · exact TB_X13_product_38 hW  hg0 hg1 hg2 hk4 _ _ H
  refine nx_ld rfl rfl rfl rfl ?_
  refine nx_cVI (as := []) (st' := []) rfl rfl (Nat.le_of_ble_eq_true rfl) rfl rfl (Nat.le_of_ble_eq_true rfl) (c0 := 13) rfl (by decide) H (fun Q H => TF_X13_look hW  H) (fun r22 H => ?_)
  refine nx_int (x := 47) rfl rfl ?_
  refine nx_icmp rfl rfl (by rfl) H (fun H => ?_) (fun H => ?_)
  · exact TB_X13_product_38 hW  hg0 hg1 hg2 hk4 _ _ H
  refine nx_ld rfl rfl rfl rfl ?_
  refine nx_cVI (as := []) (st' := []) rfl rfl (Nat.le_of_ble_eq_true rfl) rfl rfl (Nat.le_of_ble_eq_true rfl) (c0 := 13) rfl (by decide) H (fun Q H => TF_X13_look hW  H) (fun r23 H => ?_)
  refine nx_int (x := 37) rfl rfl ?_
  refine nx_icmp rfl rfl (by rfl) H (fun H => ?_) (fun H => ?_)
  · exact nx_rv rfl rfl H
  exact TB_X13_product_38 hW  hg0 hg1 hg2 hk4 _ _ H
def B_X13_product_4 (g : Nat → TS → Option TS) : Nat → TS → Option TS
  | 0 => fun _  => none
  | n + 1 => fun t  => BB_X13_product_4 g (B_X13_product_4 g n) t 
theorem TB_X13_product_4 {W : NW} {d : Nat} {Q : Option NV → TS → Prop} {a0 : Nat → Nat → Nat} {e0 : Nat → Nat → Bool} {g : Nat → TS → Option TS} {bc bs : Nat} (hW : W.2.2.2 = mm_fx) (hg0 : ∀ (t : TS)  (bc bs : Nat) (Q : Option NV → TS → Prop), wp (g 0 t) (fun r => Q none r) → nC W (d + 3) 219 [eR (some (13, 0))] t bc bs Q) (hg1 : ∀ (t : TS)  (bc bs : Nat) (Q : Option NV → TS → Prop), wp (g 1 t) (fun r => Q none r) → nC W (d + 3) 220 [eR (some (13, 0))] t bc bs Q) (hg2 : ∀ (t : TS)  (bc bs : Nat) (Q : Option NV → TS → Prop), wp (g 2 t) (fun r => Q none r) → nC W (d + 3) 221 [eR (some (13, 0))] t bc bs Q) : ∀ (n : Nat) (t : TS) (v1 : Option NV), wp (B_X13_product_4 g n t) (fun r => Q none r) → nX W (d + 3) tX13_product Q a0 e0 4 [some (eR (some (13, 0))), v1] [] t bc bs := by
  intro n
  induction n with
  | zero => intro t v1 H; exact (wp_none H).elim
  | succ n ih =>
    intro t v1 H
    exact TBB_X13_product_4 hW  hg0 hg1 hg2   ih t v1 H
def Fb_X13_product (g : Nat → TS → Option TS) (t : TS) : Option TS := (Option.bind (g 0 t) (fun r21 => (B_X13_product_4 g  10000 r21)))
theorem TFb_X13_product {W : NW} {d : Nat} {g : Nat → TS → Option TS} {t : TS} {Q : Option NV → TS → Prop} {bc bs : Nat} (hW : W.2.2.2 = mm_fx) (hg0 : ∀ (t : TS)  (bc bs : Nat) (Q : Option NV → TS → Prop), wp (g 0 t) (fun r => Q none r) → nC W (d + 3) 219 [eR (some (13, 0))] t bc bs Q) (hg1 : ∀ (t : TS)  (bc bs : Nat) (Q : Option NV → TS → Prop), wp (g 1 t) (fun r => Q none r) → nC W (d + 3) 220 [eR (some (13, 0))] t bc bs Q) (hg2 : ∀ (t : TS)  (bc bs : Nat) (Q : Option NV → TS → Prop), wp (g 2 t) (fun r => Q none r) → nC W (d + 3) 221 [eR (some (13, 0))] t bc bs Q) (H : wp (Fb_X13_product g t) (fun r => Q none r)) : nC W (d + 4) 220 [eR (some (13, 0))] t bc bs Q := by
  refine nC_in (d := (d + 3)) (T := tX13_product) (ls := [some (eR (some (13, 0))), none]) rfl (Nat.le_of_ble_eq_true rfl) rfl (fun a0 e0 => ?_)
  unfold Fb_X13_product at H
  refine nx_ld rfl rfl rfl rfl ?_
  refine nx_cVVt (as := []) (st' := []) rfl rfl (Nat.le_of_ble_eq_true rfl) rfl rfl (Nat.le_of_ble_eq_true rfl) (c0 := 13) rfl (by decide) H (fun Q H => hg0 _ _ _ _ H) (fun r21 H => ?_)
  exact TB_X13_product_4 hW  hg0 hg1 hg2  10000 _ _ H
def B_X13_sum_29 (g : Nat → TS → Option TS) (k4 : TS → Option TS) (t : TS) : Option TS := (Option.bind (F_X13_look t) (fun r21 => (nxt (uI t 1363 0 ((tI t 1363 0) + 1)) (fun t22 => (Option.bind (g 1 t22) (fun r23 => (Option.bind (F_X13_lay r23 r21 0) (fun r24 => (k4 r24)))))))))
theorem TB_X13_sum_29 {W : NW} {d : Nat} {Q : Option NV → TS → Prop} {a0 : Nat → Nat → Nat} {e0 : Nat → Nat → Bool} {g : Nat → TS → Option TS} {k4 : TS → Option TS} {bc bs : Nat} (hW : W.2.2.2 = mm_fx) (hg0 : ∀ (t : TS)  (bc bs : Nat) (Q : Option NV → TS → Prop), wp (g 0 t) (fun r => Q none r) → nC W (d + 3) 219 [eR (some (13, 0))] t bc bs Q) (hg1 : ∀ (t : TS)  (bc bs : Nat) (Q : Option NV → TS → Prop), wp (g 1 t) (fun r => Q none r) → nC W (d + 3) 220 [eR (some (13, 0))] t bc bs Q) (hg2 : ∀ (t : TS)  (bc bs : Nat) (Q : Option NV → TS → Prop), wp (g 2 t) (fun r => Q none r) → nC W (d + 3) 221 [eR (some (13, 0))] t bc bs Q) (hk4 : ∀ (t : TS) (v1 : Option NV), wp (k4 t) (fun r => Q none r) → nX W (d + 3) tX13_sum Q a0 e0 4 [some (eR (some (13, 0))), v1] [] t bc bs) : ∀ (t : TS) (v1 : Option NV), wp (B_X13_sum_29 g k4 t) (fun r => Q none r) → nX W (d + 3) tX13_sum Q a0 e0 29 [some (eR (some (13, 0))), v1] [] t bc bs := by
  intro t v1 H
  unfold B_X13_sum_29 at H
  refine nx_ld rfl rfl rfl rfl ?_
  refine nx_cVI (as := []) (st' := []) rfl rfl (Nat.le_of_ble_eq_true rfl) rfl rfl (Nat.le_of_ble_eq_true rfl) (c0 := 13) rfl (by decide) H (fun Q H => TF_X13_look hW  H) (fun r21 H => ?_)
  refine nx_st (ls' := [some (eR (some (13, 0))), some (eI r21)]) rfl rfl rfl (Nat.le_of_ble_eq_true rfl) rfl ?_
  refine nx_ld rfl rfl rfl rfl ?_
  refine nx_dup rfl rfl (Nat.ne_of_beq_eq_false rfl) ?_
  refine nx_getI rfl rfl rfl (by decide) ?_
  refine nx_int (x := 1) rfl rfl ?_
  show nX _ _ _ _ _ _ 40 _ _ _ _ _
  refine nx_ii rfl rfl ?_
  refine nx_putI rfl rfl rfl (by decide) H (fun t22 H => ?_)
  refine nx_ld rfl rfl rfl rfl ?_
  refine nx_cVVt (as := []) (st' := []) rfl rfl (Nat.le_of_ble_eq_true rfl) rfl rfl (Nat.le_of_ble_eq_true rfl) (c0 := 13) rfl (by decide) H (fun Q H => hg1 _ _ _ _ H) (fun r23 H => ?_)
  refine nx_ld rfl rfl rfl rfl ?_
  refine nx_ld rfl rfl rfl rfl ?_
  refine nx_int (x := 0) rfl rfl ?_
  refine nx_cVVt (as := [eI r21, eI 0]) (st' := []) rfl rfl (Nat.le_of_ble_eq_true rfl) rfl rfl (Nat.le_of_ble_eq_true rfl) (c0 := 13) rfl (by decide) H (fun Q H => TF_X13_lay hW  H) (fun r24 H => ?_)
  show nX _ _ _ _ _ _ 54 _ _ _ _ _
  refine nx_goto rfl rfl ?_
  exact hk4 _ _ H
def BB_X13_sum_4 (g : Nat → TS → Option TS) (k4 : TS → Option TS) (t : TS) : Option TS := (if 0 ≤ (tI t 1364 0) then (some t) else (Option.bind (F_X13_look t) (fun r21 => (if r21 = 43 then (B_X13_sum_29 g k4 t) else (Option.bind (F_X13_look t) (fun r22 => (if ¬ r22 = 45 then (some t) else (B_X13_sum_29 g k4 t))))))))
theorem TBB_X13_sum_4 {W : NW} {d : Nat} {Q : Option NV → TS → Prop} {a0 : Nat → Nat → Nat} {e0 : Nat → Nat → Bool} {g : Nat → TS → Option TS} {k4 : TS → Option TS} {bc bs : Nat} (hW : W.2.2.2 = mm_fx) (hg0 : ∀ (t : TS)  (bc bs : Nat) (Q : Option NV → TS → Prop), wp (g 0 t) (fun r => Q none r) → nC W (d + 3) 219 [eR (some (13, 0))] t bc bs Q) (hg1 : ∀ (t : TS)  (bc bs : Nat) (Q : Option NV → TS → Prop), wp (g 1 t) (fun r => Q none r) → nC W (d + 3) 220 [eR (some (13, 0))] t bc bs Q) (hg2 : ∀ (t : TS)  (bc bs : Nat) (Q : Option NV → TS → Prop), wp (g 2 t) (fun r => Q none r) → nC W (d + 3) 221 [eR (some (13, 0))] t bc bs Q) (hk4 : ∀ (t : TS) (v1 : Option NV), wp (k4 t) (fun r => Q none r) → nX W (d + 3) tX13_sum Q a0 e0 4 [some (eR (some (13, 0))), v1] [] t bc bs) : ∀ (t : TS) (v1 : Option NV), wp (BB_X13_sum_4 g k4 t) (fun r => Q none r) → nX W (d + 3) tX13_sum Q a0 e0 4 [some (eR (some (13, 0))), v1] [] t bc bs := by
  intro t v1 H
  unfold BB_X13_sum_4 at H
  refine nx_ld rfl rfl rfl rfl ?_
  refine nx_getI rfl rfl rfl (by decide) ?_
  refine nx_if rfl rfl (by rfl) H (fun H => ?_) (fun H => ?_)
  · exact nx_rv rfl rfl H
  refine nx_ld rfl rfl rfl rfl ?_
  refine nx_cVI (as := []) (st' := []) rfl rfl (Nat.le_of_ble_eq_true rfl) rfl rfl (Nat.le_of_ble_eq_true rfl) (c0 := 13) rfl (by decide) H (fun Q H => TF_X13_look hW  H) (fun r21 H => ?_)
  refine nx_int (x := 43) rfl rfl ?_
  refine nx_icmp rfl rfl (by rfl) H (fun H => ?_) (fun H => ?_)
  · exact TB_X13_sum_29 hW  hg0 hg1 hg2 hk4 _ _ H
  refine nx_ld rfl rfl rfl rfl ?_
  refine nx_cVI (as := []) (st' := []) rfl rfl (Nat.le_of_ble_eq_true rfl) rfl rfl (Nat.le_of_ble_eq_true rfl) (c0 := 13) rfl (by decide) H (fun Q H => TF_X13_look hW  H) (fun r22 H => ?_)
  refine nx_int (x := 45) rfl rfl ?_
  refine nx_icmp rfl rfl (by rfl) H (fun H => ?_) (fun H => ?_)
  · exact nx_rv rfl rfl H
  exact TB_X13_sum_29 hW  hg0 hg1 hg2 hk4 _ _ H
def B_X13_sum_4 (g : Nat → TS → Option TS) : Nat → TS → Option TS
  | 0 => fun _  => none
  | n + 1 => fun t  => BB_X13_sum_4 g (B_X13_sum_4 g n) t 
theorem TB_X13_sum_4 {W : NW} {d : Nat} {Q : Option NV → TS → Prop} {a0 : Nat → Nat → Nat} {e0 : Nat → Nat → Bool} {g : Nat → TS → Option TS} {bc bs : Nat} (hW : W.2.2.2 = mm_fx) (hg0 : ∀ (t : TS)  (bc bs : Nat) (Q : Option NV → TS → Prop), wp (g 0 t) (fun r => Q none r) → nC W (d + 3) 219 [eR (some (13, 0))] t bc bs Q) (hg1 : ∀ (t : TS)  (bc bs : Nat) (Q : Option NV → TS → Prop), wp (g 1 t) (fun r => Q none r) → nC W (d + 3) 220 [eR (some (13, 0))] t bc bs Q) (hg2 : ∀ (t : TS)  (bc bs : Nat) (Q : Option NV → TS → Prop), wp (g 2 t) (fun r => Q none r) → nC W (d + 3) 221 [eR (some (13, 0))] t bc bs Q) : ∀ (n : Nat) (t : TS) (v1 : Option NV), wp (B_X13_sum_4 g n t) (fun r => Q none r) → nX W (d + 3) tX13_sum Q a0 e0 4 [some (eR (some (13, 0))), v1] [] t bc bs := by
  intro n
  induction n with
  | zero => intro t v1 H; exact (wp_none H).elim
  | succ n ih =>
    intro t v1 H
    exact TBB_X13_sum_4 hW  hg0 hg1 hg2   ih t v1 H
def Fb_X13_sum (g : Nat → TS → Option TS) (t : TS) : Option TS := (Option.bind (g 1 t) (fun r21 => (B_X13_sum_4 g  10000 r21)))
theorem TFb_X13_sum {W : NW} {d : Nat} {g : Nat → TS → Option TS} {t : TS} {Q : Option NV → TS → Prop} {bc bs : Nat} (hW : W.2.2.2 = mm_fx) (hg0 : ∀ (t : TS)  (bc bs : Nat) (Q : Option NV → TS → Prop), wp (g 0 t) (fun r => Q none r) → nC W (d + 3) 219 [eR (some (13, 0))] t bc bs Q) (hg1 : ∀ (t : TS)  (bc bs : Nat) (Q : Option NV → TS → Prop), wp (g 1 t) (fun r => Q none r) → nC W (d + 3) 220 [eR (some (13, 0))] t bc bs Q) (hg2 : ∀ (t : TS)  (bc bs : Nat) (Q : Option NV → TS → Prop), wp (g 2 t) (fun r => Q none r) → nC W (d + 3) 221 [eR (some (13, 0))] t bc bs Q) (H : wp (Fb_X13_sum g t) (fun r => Q none r)) : nC W (d + 4) 221 [eR (some (13, 0))] t bc bs Q := by
  refine nC_in (d := (d + 3)) (T := tX13_sum) (ls := [some (eR (some (13, 0))), none]) rfl (Nat.le_of_ble_eq_true rfl) rfl (fun a0 e0 => ?_)
  unfold Fb_X13_sum at H
  refine nx_ld rfl rfl rfl rfl ?_
  refine nx_cVVt (as := []) (st' := []) rfl rfl (Nat.le_of_ble_eq_true rfl) rfl rfl (Nat.le_of_ble_eq_true rfl) (c0 := 13) rfl (by decide) H (fun Q H => hg1 _ _ _ _ H) (fun r21 H => ?_)
  exact TB_X13_sum_4 hW  hg0 hg1 hg2  10000 _ _ H
def G_X13_operand : Nat → Nat → TS → Option TS
  | 0, _ => fun _  => none
  | n + 1, w => fun t  => match w with
    | 0 => Fb_X13_operand (G_X13_operand n) t 
    | 1 => Fb_X13_product (G_X13_operand n) t 
    | 2 => Fb_X13_sum (G_X13_operand n) t 
    | _ => none
theorem GS_X13_operand (n : Nat) (t : TS)  : G_X13_operand (n + 1) 0 t  = Fb_X13_operand (G_X13_operand n) t  := by simp only [G_X13_operand]
theorem GS_X13_product (n : Nat) (t : TS)  : G_X13_operand (n + 1) 1 t  = Fb_X13_product (G_X13_operand n) t  := by simp only [G_X13_operand]
theorem GS_X13_sum (n : Nat) (t : TS)  : G_X13_operand (n + 1) 2 t  = Fb_X13_sum (G_X13_operand n) t  := by simp only [G_X13_operand]
theorem TG_X13_operand {W : NW} {d : Nat} (hW : W.2.2.2 = mm_fx) : ∀ n, (∀ (t : TS)  (bc bs : Nat) (Q : Option NV → TS → Prop), wp (G_X13_operand n 0 t) (fun r => Q none r) → nC W (d + n + 3) 219 [eR (some (13, 0))] t bc bs Q) ∧ (∀ (t : TS)  (bc bs : Nat) (Q : Option NV → TS → Prop), wp (G_X13_operand n 1 t) (fun r => Q none r) → nC W (d + n + 3) 220 [eR (some (13, 0))] t bc bs Q) ∧ (∀ (t : TS)  (bc bs : Nat) (Q : Option NV → TS → Prop), wp (G_X13_operand n 2 t) (fun r => Q none r) → nC W (d + n + 3) 221 [eR (some (13, 0))] t bc bs Q) := by
  intro n
  induction n with
  | zero => exact ⟨fun t  bc bs Q H => (wp_none H).elim, fun t  bc bs Q H => (wp_none H).elim, fun t  bc bs Q H => (wp_none H).elim⟩
  | succ n ih =>
    obtain ⟨i0, i1, i2⟩ := ih
    exact ⟨fun t  bc bs Q H => TFb_X13_operand (d := d + n) hW i0 i1 i2 (by rw [GS_X13_operand] at H; exact H), fun t  bc bs Q H => TFb_X13_product (d := d + n) hW i0 i1 i2 (by rw [GS_X13_product] at H; exact H), fun t  bc bs Q H => TFb_X13_sum (d := d + n) hW i0 i1 i2 (by rw [GS_X13_sum] at H; exact H)⟩
def F_X13_operand (t : TS) : Option TS := G_X13_operand 100 0 t 
theorem TF_X13_operand {W : NW} {d : Nat} {t : TS} {Q : Option NV → TS → Prop} {bc bs : Nat} (hW : W.2.2.2 = mm_fx) (H : wp (F_X13_operand t ) (fun r => Q none r)) : nC W (d + 103) 219 [eR (some (13, 0))] t bc bs Q := (TG_X13_operand (d := d) hW 100).1 t  bc bs Q H
def F_X13_product (t : TS) : Option TS := G_X13_operand 100 1 t 
theorem TF_X13_product {W : NW} {d : Nat} {t : TS} {Q : Option NV → TS → Prop} {bc bs : Nat} (hW : W.2.2.2 = mm_fx) (H : wp (F_X13_product t ) (fun r => Q none r)) : nC W (d + 103) 220 [eR (some (13, 0))] t bc bs Q := (TG_X13_operand (d := d) hW 100).2.1 t  bc bs Q H
def F_X13_sum (t : TS) : Option TS := G_X13_operand 100 2 t 
theorem TF_X13_sum {W : NW} {d : Nat} {t : TS} {Q : Option NV → TS → Prop} {bc bs : Nat} (hW : W.2.2.2 = mm_fx) (H : wp (F_X13_sum t ) (fun r => Q none r)) : nC W (d + 103) 221 [eR (some (13, 0))] t bc bs Q := (TG_X13_operand (d := d) hW 100).2.2 t  bc bs Q H
def B_X13_base_113 (g : Nat → TS → Option TS) (t : TS) (v1 : Int32) : Option TS := (nxt (uI t 1363 0 ((tI t 1363 0) + 1)) (fun t21 => (Option.bind (F_X13_sum t21) (fun r22 => (Option.bind (F_X13_lay r22 v1 0) (fun r23 => (some r23)))))))
theorem TB_X13_base_113 {W : NW} {d : Nat} {Q : Option NV → TS → Prop} {a0 : Nat → Nat → Nat} {e0 : Nat → Nat → Bool} {g : Nat → TS → Option TS} {bc bs : Nat} (hW : W.2.2.2 = mm_fx) (hg0 : ∀ (t : TS)  (bc bs : Nat) (Q : Option NV → TS → Prop), wp (g 0 t) (fun r => Q none r) → nC W (d + 104) 222 [eR (some (13, 0))] t bc bs Q) (hg1 : ∀ (t : TS)  (bc bs : Nat) (Q : Option NV → TS → Prop), wp (g 1 t) (fun r => Q none r) → nC W (d + 104) 223 [eR (some (13, 0))] t bc bs Q) (hg2 : ∀ (t : TS)  (bc bs : Nat) (Q : Option NV → TS → Prop), wp (g 2 t) (fun r => Q none r) → nC W (d + 104) 224 [eR (some (13, 0))] t bc bs Q) : ∀ (t : TS) (v1 : Int32), wp (B_X13_base_113 g t v1) (fun r => Q none r) → nX W (d + 104) tX13_base Q a0 e0 113 [some (eR (some (13, 0))), some (eI v1)] [] t bc bs := by
  intro t v1 H
  unfold B_X13_base_113 at H
  refine nx_ld rfl rfl rfl rfl ?_
  refine nx_dup rfl rfl (Nat.ne_of_beq_eq_false rfl) ?_
  refine nx_getI rfl rfl rfl (by decide) ?_
  refine nx_int (x := 1) rfl rfl ?_
  refine nx_ii rfl rfl ?_
  refine nx_putI rfl rfl rfl (by decide) H (fun t21 H => ?_)
  refine nx_ld rfl rfl rfl rfl ?_
  show nX _ _ _ _ _ _ 124 _ _ _ _ _
  refine nx_cVVt (as := []) (st' := []) rfl rfl (Nat.le_of_ble_eq_true rfl) rfl rfl (Nat.le_of_ble_eq_true rfl) (c0 := 13) rfl (by decide) H (fun Q H => TF_X13_sum hW  H) (fun r22 H => ?_)
  refine nx_ld rfl rfl rfl rfl ?_
  refine nx_ld rfl rfl rfl rfl ?_
  refine nx_int (x := 0) rfl rfl ?_
  refine nx_cVVt (as := [eI v1, eI 0]) (st' := []) rfl rfl (Nat.le_of_ble_eq_true rfl) rfl rfl (Nat.le_of_ble_eq_true rfl) (c0 := 13) rfl (by decide) H (fun Q H => TF_X13_lay hW  H) (fun r23 H => ?_)
  exact nx_rv rfl rfl H
def Fb_X13_base (g : Nat → TS → Option TS) (t : TS) : Option TS := (Option.bind (F_X13_look t) (fun r21 => (if ¬ r21 = 33 then (Option.bind (F_X13_look t) (fun r22 => (if ¬ r22 = 91 then (Option.bind (F_X13_sum t) (fun r23 => (if (tI r23 1364 0) < 0 then (Option.bind (F_X13_look r23) (fun r24 => (if r24 = 60 then (B_X13_base_113 g  r23 r24) else (if r24 = 61 then (B_X13_base_113 g  r23 r24) else (if r24 = 62 then (B_X13_base_113 g  r23 r24) else (Option.bind (F_X13_wrong r23) (fun r25 => (some r25)))))))) else (some r23)))) else (ob2 (F_X13_opens t) (fun x27 t28 => (if ¬ x27 = 0 then (Option.bind (g 2 t28) (fun r29 => (if 0 ≤ (tI r29 1364 0) then (some r29) else (Option.bind (F_X13_closes r29 93) (fun r30 => (some r30)))))) else (some t28))))))) else (ob2 (F_X13_opens t) (fun x32 t33 => (if ¬ x32 = 0 then (Option.bind (g 0 t33) (fun r34 => (nxt (uI r34 1365 0 ((tI r34 1365 0) - 1)) (fun t35 => (Option.bind (F_X13_lay t35 3 0) (fun r36 => (some r36))))))) else (some t33)))))))
theorem TFb_X13_base {W : NW} {d : Nat} {g : Nat → TS → Option TS} {t : TS} {Q : Option NV → TS → Prop} {bc bs : Nat} (hW : W.2.2.2 = mm_fx) (hg0 : ∀ (t : TS)  (bc bs : Nat) (Q : Option NV → TS → Prop), wp (g 0 t) (fun r => Q none r) → nC W (d + 104) 222 [eR (some (13, 0))] t bc bs Q) (hg1 : ∀ (t : TS)  (bc bs : Nat) (Q : Option NV → TS → Prop), wp (g 1 t) (fun r => Q none r) → nC W (d + 104) 223 [eR (some (13, 0))] t bc bs Q) (hg2 : ∀ (t : TS)  (bc bs : Nat) (Q : Option NV → TS → Prop), wp (g 2 t) (fun r => Q none r) → nC W (d + 104) 224 [eR (some (13, 0))] t bc bs Q) (H : wp (Fb_X13_base g t) (fun r => Q none r)) : nC W (d + 105) 222 [eR (some (13, 0))] t bc bs Q := by
  refine nC_in (d := (d + 104)) (T := tX13_base) (ls := [some (eR (some (13, 0))), none]) rfl (Nat.le_of_ble_eq_true rfl) rfl (fun a0 e0 => ?_)
  unfold Fb_X13_base at H
  refine nx_ld rfl rfl rfl rfl ?_
  refine nx_cVI (as := []) (st' := []) rfl rfl (Nat.le_of_ble_eq_true rfl) rfl rfl (Nat.le_of_ble_eq_true rfl) (c0 := 13) rfl (by decide) H (fun Q H => TF_X13_look hW  H) (fun r21 H => ?_)
  refine nx_int (x := 33) rfl rfl ?_
  refine nx_icmp rfl rfl (by rfl) H (fun H => ?_) (fun H => ?_)
  · refine nx_ld rfl rfl rfl rfl ?_
    refine nx_cVI (as := []) (st' := []) rfl rfl (Nat.le_of_ble_eq_true rfl) rfl rfl (Nat.le_of_ble_eq_true rfl) (c0 := 13) rfl (by decide) H (fun Q H => TF_X13_look hW  H) (fun r22 H => ?_)
    refine nx_int (x := 91) rfl rfl ?_
    refine nx_icmp rfl rfl (by rfl) H (fun H => ?_) (fun H => ?_)
    · refine nx_ld rfl rfl rfl rfl ?_
      refine nx_cVVt (as := []) (st' := []) rfl rfl (Nat.le_of_ble_eq_true rfl) rfl rfl (Nat.le_of_ble_eq_true rfl) (c0 := 13) rfl (by decide) H (fun Q H => TF_X13_sum hW  H) (fun r23 H => ?_)
      refine nx_ld rfl rfl rfl rfl ?_
      refine nx_getI rfl rfl rfl (by decide) ?_
      refine nx_if rfl rfl (by rfl) H (fun H => ?_) (fun H => ?_)
      · refine nx_ld rfl rfl rfl rfl ?_
        refine nx_cVI (as := []) (st' := []) rfl rfl (Nat.le_of_ble_eq_true rfl) rfl rfl (Nat.le_of_ble_eq_true rfl) (c0 := 13) rfl (by decide) H (fun Q H => TF_X13_look hW  H) (fun r24 H => ?_)
        refine nx_st (ls' := [some (eR (some (13, 0))), some (eI r24)]) rfl rfl rfl (Nat.le_of_ble_eq_true rfl) rfl ?_
        refine nx_ld rfl rfl rfl rfl ?_
        refine nx_int (x := 60) rfl rfl ?_
        refine nx_icmp rfl rfl (by rfl) H (fun H => ?_) (fun H => ?_)
        · exact TB_X13_base_113 hW  hg0 hg1 hg2  _ _ H
        refine nx_ld rfl rfl rfl rfl ?_
        refine nx_int (x := 61) rfl rfl ?_
        refine nx_icmp rfl rfl (by rfl) H (fun H => ?_) (fun H => ?_)
        · exact TB_X13_base_113 hW  hg0 hg1 hg2  _ _ H
        refine nx_ld rfl rfl rfl rfl ?_
        refine nx_int (x := 62) rfl rfl ?_
        refine nx_icmp rfl rfl (by rfl) H (fun H => ?_) (fun H => ?_)
        · exact TB_X13_base_113 hW  hg0 hg1 hg2  _ _ H
        refine nx_ld rfl rfl rfl rfl ?_
        refine nx_cVVt (as := []) (st' := []) rfl rfl (Nat.le_of_ble_eq_true rfl) rfl rfl (Nat.le_of_ble_eq_true rfl) (c0 := 13) rfl (by decide) H (fun Q H => TF_X13_wrong hW  H) (fun r25 H => ?_)
        exact nx_rv rfl rfl H
      exact nx_rv rfl rfl H
    refine nx_ld rfl rfl rfl rfl ?_
    refine nx_cVI2 (as := []) (st' := []) rfl rfl (Nat.le_of_ble_eq_true rfl) rfl rfl (Nat.le_of_ble_eq_true rfl) (c0 := 13) rfl (by decide) H (fun Q H => TF_X13_opens hW  H) (fun x27 t28 H => ?_)
    refine nx_if rfl rfl (by rfl) H (fun H => ?_) (fun H => ?_)
    · refine nx_ld rfl rfl rfl rfl ?_
      refine nx_cVVt (as := []) (st' := []) rfl rfl (Nat.le_of_ble_eq_true rfl) rfl rfl (Nat.le_of_ble_eq_true rfl) (c0 := 13) rfl (by decide) H (fun Q H => hg2 _ _ _ _ H) (fun r29 H => ?_)
      refine nx_ld rfl rfl rfl rfl ?_
      refine nx_getI rfl rfl rfl (by decide) ?_
      refine nx_if rfl rfl (by rfl) H (fun H => ?_) (fun H => ?_)
      · exact nx_rv rfl rfl H
      refine nx_ld rfl rfl rfl rfl ?_
      refine nx_int (x := 93) rfl rfl ?_
      refine nx_cVVt (as := [eI 93]) (st' := []) rfl rfl (Nat.le_of_ble_eq_true rfl) rfl rfl (Nat.le_of_ble_eq_true rfl) (c0 := 13) rfl (by decide) H (fun Q H => TF_X13_closes hW  H) (fun r30 H => ?_)
      exact nx_rv rfl rfl H
    exact nx_rv rfl rfl H
  refine nx_ld rfl rfl rfl rfl ?_
  refine nx_cVI2 (as := []) (st' := []) rfl rfl (Nat.le_of_ble_eq_true rfl) rfl rfl (Nat.le_of_ble_eq_true rfl) (c0 := 13) rfl (by decide) H (fun Q H => TF_X13_opens hW  H) (fun x32 t33 H => ?_)
  refine nx_if rfl rfl (by rfl) H (fun H => ?_) (fun H => ?_)
  · refine nx_ld rfl rfl rfl rfl ?_
    refine nx_cVVt (as := []) (st' := []) rfl rfl (Nat.le_of_ble_eq_true rfl) rfl rfl (Nat.le_of_ble_eq_true rfl) (c0 := 13) rfl (by decide) H (fun Q H => hg0 _ _ _ _ H) (fun r34 H => ?_)
    refine nx_ld rfl rfl rfl rfl ?_
    refine nx_dup rfl rfl (Nat.ne_of_beq_eq_false rfl) ?_
    refine nx_getI rfl rfl rfl (by decide) ?_
    refine nx_int (x := 1) rfl rfl ?_
    refine nx_ii rfl rfl ?_
    show nX _ _ _ _ _ _ 28 _ _ _ _ _
    refine nx_putI rfl rfl rfl (by decide) H (fun t35 H => ?_)
    refine nx_ld rfl rfl rfl rfl ?_
    refine nx_int (x := 3) rfl rfl ?_
    refine nx_int (x := 0) rfl rfl ?_
    refine nx_cVVt (as := [eI 3, eI 0]) (st' := []) rfl rfl (Nat.le_of_ble_eq_true rfl) rfl rfl (Nat.le_of_ble_eq_true rfl) (c0 := 13) rfl (by decide) H (fun Q H => TF_X13_lay hW  H) (fun r36 H => ?_)
    exact nx_rv rfl rfl H
  exact nx_rv rfl rfl H
def BB_X13_all_4 (g : Nat → TS → Option TS) (k4 : TS → Option TS) (t : TS) : Option TS := (if 0 ≤ (tI t 1364 0) then (some t) else (Option.bind (F_X13_look t) (fun r21 => (if ¬ r21 = 38 then (some t) else (nxt (uI t 1363 0 ((tI t 1363 0) + 1)) (fun t22 => (Option.bind (g 0 t22) (fun r23 => (Option.bind (F_X13_lay r23 4 0) (fun r24 => (k4 r24)))))))))))
theorem TBB_X13_all_4 {W : NW} {d : Nat} {Q : Option NV → TS → Prop} {a0 : Nat → Nat → Nat} {e0 : Nat → Nat → Bool} {g : Nat → TS → Option TS} {k4 : TS → Option TS} {bc bs : Nat} (hW : W.2.2.2 = mm_fx) (hg0 : ∀ (t : TS)  (bc bs : Nat) (Q : Option NV → TS → Prop), wp (g 0 t) (fun r => Q none r) → nC W (d + 104) 222 [eR (some (13, 0))] t bc bs Q) (hg1 : ∀ (t : TS)  (bc bs : Nat) (Q : Option NV → TS → Prop), wp (g 1 t) (fun r => Q none r) → nC W (d + 104) 223 [eR (some (13, 0))] t bc bs Q) (hg2 : ∀ (t : TS)  (bc bs : Nat) (Q : Option NV → TS → Prop), wp (g 2 t) (fun r => Q none r) → nC W (d + 104) 224 [eR (some (13, 0))] t bc bs Q) (hk4 : ∀ (t : TS) , wp (k4 t) (fun r => Q none r) → nX W (d + 104) tX13_all Q a0 e0 4 [some (eR (some (13, 0)))] [] t bc bs) : ∀ (t : TS) , wp (BB_X13_all_4 g k4 t) (fun r => Q none r) → nX W (d + 104) tX13_all Q a0 e0 4 [some (eR (some (13, 0)))] [] t bc bs := by
  intro t H
  unfold BB_X13_all_4 at H
  refine nx_ld rfl rfl rfl rfl ?_
  refine nx_getI rfl rfl rfl (by decide) ?_
  refine nx_if rfl rfl (by rfl) H (fun H => ?_) (fun H => ?_)
  · exact nx_rv rfl rfl H
  refine nx_ld rfl rfl rfl rfl ?_
  refine nx_cVI (as := []) (st' := []) rfl rfl (Nat.le_of_ble_eq_true rfl) rfl rfl (Nat.le_of_ble_eq_true rfl) (c0 := 13) rfl (by decide) H (fun Q H => TF_X13_look hW  H) (fun r21 H => ?_)
  refine nx_int (x := 38) rfl rfl ?_
  refine nx_icmp rfl rfl (by rfl) H (fun H => ?_) (fun H => ?_)
  · exact nx_rv rfl rfl H
  refine nx_ld rfl rfl rfl rfl ?_
  refine nx_dup rfl rfl (Nat.ne_of_beq_eq_false rfl) ?_
  refine nx_getI rfl rfl rfl (by decide) ?_
  refine nx_int (x := 1) rfl rfl ?_
  refine nx_ii rfl rfl ?_
  refine nx_putI rfl rfl rfl (by decide) H (fun t22 H => ?_)
  refine nx_ld rfl rfl rfl rfl ?_
  show nX _ _ _ _ _ _ 31 _ _ _ _ _
  refine nx_cVVt (as := []) (st' := []) rfl rfl (Nat.le_of_ble_eq_true rfl) rfl rfl (Nat.le_of_ble_eq_true rfl) (c0 := 13) rfl (by decide) H (fun Q H => hg0 _ _ _ _ H) (fun r23 H => ?_)
  refine nx_ld rfl rfl rfl rfl ?_
  refine nx_int (x := 4) rfl rfl ?_
  refine nx_int (x := 0) rfl rfl ?_
  refine nx_cVVt (as := [eI 4, eI 0]) (st' := []) rfl rfl (Nat.le_of_ble_eq_true rfl) rfl rfl (Nat.le_of_ble_eq_true rfl) (c0 := 13) rfl (by decide) H (fun Q H => TF_X13_lay hW  H) (fun r24 H => ?_)
  refine nx_goto rfl rfl ?_
  exact hk4 _ H
def B_X13_all_4 (g : Nat → TS → Option TS) : Nat → TS → Option TS
  | 0 => fun _  => none
  | n + 1 => fun t  => BB_X13_all_4 g (B_X13_all_4 g n) t 
theorem TB_X13_all_4 {W : NW} {d : Nat} {Q : Option NV → TS → Prop} {a0 : Nat → Nat → Nat} {e0 : Nat → Nat → Bool} {g : Nat → TS → Option TS} {bc bs : Nat} (hW : W.2.2.2 = mm_fx) (hg0 : ∀ (t : TS)  (bc bs : Nat) (Q : Option NV → TS → Prop), wp (g 0 t) (fun r => Q none r) → nC W (d + 104) 222 [eR (some (13, 0))] t bc bs Q) (hg1 : ∀ (t : TS)  (bc bs : Nat) (Q : Option NV → TS → Prop), wp (g 1 t) (fun r => Q none r) → nC W (d + 104) 223 [eR (some (13, 0))] t bc bs Q) (hg2 : ∀ (t : TS)  (bc bs : Nat) (Q : Option NV → TS → Prop), wp (g 2 t) (fun r => Q none r) → nC W (d + 104) 224 [eR (some (13, 0))] t bc bs Q) : ∀ (n : Nat) (t : TS) , wp (B_X13_all_4 g n t) (fun r => Q none r) → nX W (d + 104) tX13_all Q a0 e0 4 [some (eR (some (13, 0)))] [] t bc bs := by
  intro n
  induction n with
  | zero => intro t H; exact (wp_none H).elim
  | succ n ih =>
    intro t H
    exact TBB_X13_all_4 hW  hg0 hg1 hg2   ih t H
def Fb_X13_all (g : Nat → TS → Option TS) (t : TS) : Option TS := (Option.bind (g 0 t) (fun r21 => (B_X13_all_4 g  10000 r21)))
theorem TFb_X13_all {W : NW} {d : Nat} {g : Nat → TS → Option TS} {t : TS} {Q : Option NV → TS → Prop} {bc bs : Nat} (hW : W.2.2.2 = mm_fx) (hg0 : ∀ (t : TS)  (bc bs : Nat) (Q : Option NV → TS → Prop), wp (g 0 t) (fun r => Q none r) → nC W (d + 104) 222 [eR (some (13, 0))] t bc bs Q) (hg1 : ∀ (t : TS)  (bc bs : Nat) (Q : Option NV → TS → Prop), wp (g 1 t) (fun r => Q none r) → nC W (d + 104) 223 [eR (some (13, 0))] t bc bs Q) (hg2 : ∀ (t : TS)  (bc bs : Nat) (Q : Option NV → TS → Prop), wp (g 2 t) (fun r => Q none r) → nC W (d + 104) 224 [eR (some (13, 0))] t bc bs Q) (H : wp (Fb_X13_all g t) (fun r => Q none r)) : nC W (d + 105) 223 [eR (some (13, 0))] t bc bs Q := by
  refine nC_in (d := (d + 104)) (T := tX13_all) (ls := [some (eR (some (13, 0)))]) rfl (Nat.le_of_ble_eq_true rfl) rfl (fun a0 e0 => ?_)
  unfold Fb_X13_all at H
  refine nx_ld rfl rfl rfl rfl ?_
  refine nx_cVVt (as := []) (st' := []) rfl rfl (Nat.le_of_ble_eq_true rfl) rfl rfl (Nat.le_of_ble_eq_true rfl) (c0 := 13) rfl (by decide) H (fun Q H => hg0 _ _ _ _ H) (fun r21 H => ?_)
  exact TB_X13_all_4 hW  hg0 hg1 hg2  10000 _ H
def BB_X13_either_4 (g : Nat → TS → Option TS) (k4 : TS → Option TS) (t : TS) : Option TS := (if 0 ≤ (tI t 1364 0) then (some t) else (Option.bind (F_X13_look t) (fun r21 => (if ¬ r21 = 124 then (some t) else (nxt (uI t 1363 0 ((tI t 1363 0) + 1)) (fun t22 => (Option.bind (g 1 t22) (fun r23 => (Option.bind (F_X13_lay r23 5 0) (fun r24 => (k4 r24)))))))))))
theorem TBB_X13_either_4 {W : NW} {d : Nat} {Q : Option NV → TS → Prop} {a0 : Nat → Nat → Nat} {e0 : Nat → Nat → Bool} {g : Nat → TS → Option TS} {k4 : TS → Option TS} {bc bs : Nat} (hW : W.2.2.2 = mm_fx) (hg0 : ∀ (t : TS)  (bc bs : Nat) (Q : Option NV → TS → Prop), wp (g 0 t) (fun r => Q none r) → nC W (d + 104) 222 [eR (some (13, 0))] t bc bs Q) (hg1 : ∀ (t : TS)  (bc bs : Nat) (Q : Option NV → TS → Prop), wp (g 1 t) (fun r => Q none r) → nC W (d + 104) 223 [eR (some (13, 0))] t bc bs Q) (hg2 : ∀ (t : TS)  (bc bs : Nat) (Q : Option NV → TS → Prop), wp (g 2 t) (fun r => Q none r) → nC W (d + 104) 224 [eR (some (13, 0))] t bc bs Q) (hk4 : ∀ (t : TS) , wp (k4 t) (fun r => Q none r) → nX W (d + 104) tX13_either Q a0 e0 4 [some (eR (some (13, 0)))] [] t bc bs) : ∀ (t : TS) , wp (BB_X13_either_4 g k4 t) (fun r => Q none r) → nX W (d + 104) tX13_either Q a0 e0 4 [some (eR (some (13, 0)))] [] t bc bs := by
  intro t H
  unfold BB_X13_either_4 at H
  refine nx_ld rfl rfl rfl rfl ?_
  refine nx_getI rfl rfl rfl (by decide) ?_
  refine nx_if rfl rfl (by rfl) H (fun H => ?_) (fun H => ?_)
  · exact nx_rv rfl rfl H
  refine nx_ld rfl rfl rfl rfl ?_
  refine nx_cVI (as := []) (st' := []) rfl rfl (Nat.le_of_ble_eq_true rfl) rfl rfl (Nat.le_of_ble_eq_true rfl) (c0 := 13) rfl (by decide) H (fun Q H => TF_X13_look hW  H) (fun r21 H => ?_)
  refine nx_int (x := 124) rfl rfl ?_
  refine nx_icmp rfl rfl (by rfl) H (fun H => ?_) (fun H => ?_)
  · exact nx_rv rfl rfl H
  refine nx_ld rfl rfl rfl rfl ?_
  refine nx_dup rfl rfl (Nat.ne_of_beq_eq_false rfl) ?_
  refine nx_getI rfl rfl rfl (by decide) ?_
  refine nx_int (x := 1) rfl rfl ?_
  refine nx_ii rfl rfl ?_
  refine nx_putI rfl rfl rfl (by decide) H (fun t22 H => ?_)
  refine nx_ld rfl rfl rfl rfl ?_
  show nX _ _ _ _ _ _ 31 _ _ _ _ _
  refine nx_cVVt (as := []) (st' := []) rfl rfl (Nat.le_of_ble_eq_true rfl) rfl rfl (Nat.le_of_ble_eq_true rfl) (c0 := 13) rfl (by decide) H (fun Q H => hg1 _ _ _ _ H) (fun r23 H => ?_)
  refine nx_ld rfl rfl rfl rfl ?_
  refine nx_int (x := 5) rfl rfl ?_
  refine nx_int (x := 0) rfl rfl ?_
  refine nx_cVVt (as := [eI 5, eI 0]) (st' := []) rfl rfl (Nat.le_of_ble_eq_true rfl) rfl rfl (Nat.le_of_ble_eq_true rfl) (c0 := 13) rfl (by decide) H (fun Q H => TF_X13_lay hW  H) (fun r24 H => ?_)
  refine nx_goto rfl rfl ?_
  exact hk4 _ H
def B_X13_either_4 (g : Nat → TS → Option TS) : Nat → TS → Option TS
  | 0 => fun _  => none
  | n + 1 => fun t  => BB_X13_either_4 g (B_X13_either_4 g n) t 
theorem TB_X13_either_4 {W : NW} {d : Nat} {Q : Option NV → TS → Prop} {a0 : Nat → Nat → Nat} {e0 : Nat → Nat → Bool} {g : Nat → TS → Option TS} {bc bs : Nat} (hW : W.2.2.2 = mm_fx) (hg0 : ∀ (t : TS)  (bc bs : Nat) (Q : Option NV → TS → Prop), wp (g 0 t) (fun r => Q none r) → nC W (d + 104) 222 [eR (some (13, 0))] t bc bs Q) (hg1 : ∀ (t : TS)  (bc bs : Nat) (Q : Option NV → TS → Prop), wp (g 1 t) (fun r => Q none r) → nC W (d + 104) 223 [eR (some (13, 0))] t bc bs Q) (hg2 : ∀ (t : TS)  (bc bs : Nat) (Q : Option NV → TS → Prop), wp (g 2 t) (fun r => Q none r) → nC W (d + 104) 224 [eR (some (13, 0))] t bc bs Q) : ∀ (n : Nat) (t : TS) , wp (B_X13_either_4 g n t) (fun r => Q none r) → nX W (d + 104) tX13_either Q a0 e0 4 [some (eR (some (13, 0)))] [] t bc bs := by
  intro n
  induction n with
  | zero => intro t H; exact (wp_none H).elim
  | succ n ih =>
    intro t H
    exact TBB_X13_either_4 hW  hg0 hg1 hg2   ih t H
def Fb_X13_either (g : Nat → TS → Option TS) (t : TS) : Option TS := (Option.bind (g 1 t) (fun r21 => (B_X13_either_4 g  10000 r21)))
theorem TFb_X13_either {W : NW} {d : Nat} {g : Nat → TS → Option TS} {t : TS} {Q : Option NV → TS → Prop} {bc bs : Nat} (hW : W.2.2.2 = mm_fx) (hg0 : ∀ (t : TS)  (bc bs : Nat) (Q : Option NV → TS → Prop), wp (g 0 t) (fun r => Q none r) → nC W (d + 104) 222 [eR (some (13, 0))] t bc bs Q) (hg1 : ∀ (t : TS)  (bc bs : Nat) (Q : Option NV → TS → Prop), wp (g 1 t) (fun r => Q none r) → nC W (d + 104) 223 [eR (some (13, 0))] t bc bs Q) (hg2 : ∀ (t : TS)  (bc bs : Nat) (Q : Option NV → TS → Prop), wp (g 2 t) (fun r => Q none r) → nC W (d + 104) 224 [eR (some (13, 0))] t bc bs Q) (H : wp (Fb_X13_either g t) (fun r => Q none r)) : nC W (d + 105) 224 [eR (some (13, 0))] t bc bs Q := by
  refine nC_in (d := (d + 104)) (T := tX13_either) (ls := [some (eR (some (13, 0)))]) rfl (Nat.le_of_ble_eq_true rfl) rfl (fun a0 e0 => ?_)
  unfold Fb_X13_either at H
  refine nx_ld rfl rfl rfl rfl ?_
  refine nx_cVVt (as := []) (st' := []) rfl rfl (Nat.le_of_ble_eq_true rfl) rfl rfl (Nat.le_of_ble_eq_true rfl) (c0 := 13) rfl (by decide) H (fun Q H => hg1 _ _ _ _ H) (fun r21 H => ?_)
  exact TB_X13_either_4 hW  hg0 hg1 hg2  10000 _ H
def G_X13_base : Nat → Nat → TS → Option TS
  | 0, _ => fun _  => none
  | n + 1, w => fun t  => match w with
    | 0 => Fb_X13_base (G_X13_base n) t 
    | 1 => Fb_X13_all (G_X13_base n) t 
    | 2 => Fb_X13_either (G_X13_base n) t 
    | _ => none
theorem GS_X13_base (n : Nat) (t : TS)  : G_X13_base (n + 1) 0 t  = Fb_X13_base (G_X13_base n) t  := by simp only [G_X13_base]
theorem GS_X13_all (n : Nat) (t : TS)  : G_X13_base (n + 1) 1 t  = Fb_X13_all (G_X13_base n) t  := by simp only [G_X13_base]
theorem GS_X13_either (n : Nat) (t : TS)  : G_X13_base (n + 1) 2 t  = Fb_X13_either (G_X13_base n) t  := by simp only [G_X13_base]
theorem TG_X13_base {W : NW} {d : Nat} (hW : W.2.2.2 = mm_fx) : ∀ n, (∀ (t : TS)  (bc bs : Nat) (Q : Option NV → TS → Prop), wp (G_X13_base n 0 t) (fun r => Q none r) → nC W (d + n + 104) 222 [eR (some (13, 0))] t bc bs Q) ∧ (∀ (t : TS)  (bc bs : Nat) (Q : Option NV → TS → Prop), wp (G_X13_base n 1 t) (fun r => Q none r) → nC W (d + n + 104) 223 [eR (some (13, 0))] t bc bs Q) ∧ (∀ (t : TS)  (bc bs : Nat) (Q : Option NV → TS → Prop), wp (G_X13_base n 2 t) (fun r => Q none r) → nC W (d + n + 104) 224 [eR (some (13, 0))] t bc bs Q) := by
  intro n
  induction n with
  | zero => exact ⟨fun t  bc bs Q H => (wp_none H).elim, fun t  bc bs Q H => (wp_none H).elim, fun t  bc bs Q H => (wp_none H).elim⟩
  | succ n ih =>
    obtain ⟨i0, i1, i2⟩ := ih
    exact ⟨fun t  bc bs Q H => TFb_X13_base (d := d + n) hW i0 i1 i2 (by rw [GS_X13_base] at H; exact H), fun t  bc bs Q H => TFb_X13_all (d := d + n) hW i0 i1 i2 (by rw [GS_X13_all] at H; exact H), fun t  bc bs Q H => TFb_X13_either (d := d + n) hW i0 i1 i2 (by rw [GS_X13_either] at H; exact H)⟩
def F_X13_base (t : TS) : Option TS := G_X13_base 100 0 t 
theorem TF_X13_base {W : NW} {d : Nat} {t : TS} {Q : Option NV → TS → Prop} {bc bs : Nat} (hW : W.2.2.2 = mm_fx) (H : wp (F_X13_base t ) (fun r => Q none r)) : nC W (d + 204) 222 [eR (some (13, 0))] t bc bs Q := (TG_X13_base (d := d) hW 100).1 t  bc bs Q H
def F_X13_all (t : TS) : Option TS := G_X13_base 100 1 t 
theorem TF_X13_all {W : NW} {d : Nat} {t : TS} {Q : Option NV → TS → Prop} {bc bs : Nat} (hW : W.2.2.2 = mm_fx) (H : wp (F_X13_all t ) (fun r => Q none r)) : nC W (d + 204) 223 [eR (some (13, 0))] t bc bs Q := (TG_X13_base (d := d) hW 100).2.1 t  bc bs Q H
def F_X13_either (t : TS) : Option TS := G_X13_base 100 2 t 
theorem TF_X13_either {W : NW} {d : Nat} {t : TS} {Q : Option NV → TS → Prop} {bc bs : Nat} (hW : W.2.2.2 = mm_fx) (H : wp (F_X13_either t ) (fun r => Q none r)) : nC W (d + 204) 224 [eR (some (13, 0))] t bc bs Q := (TG_X13_base (d := d) hW 100).2.2 t  bc bs Q H
def F_X13_readLine (t : TS) : Option TS := (Option.bind (F_X13_either t) (fun r21 => (gd (tI r21 1366 0) (tL r21 3359 0) (gd ((90 * (tI r21 1366 0)) + (tA r21 3359 0 (tI r21 1366 0).toNatClampNeg)) (tL r21 3360 0) (nxt (uA r21 3360 0 ((90 * (tI r21 1366 0)) + (tA r21 3359 0 (tI r21 1366 0).toNatClampNeg)).toNatClampNeg (tI r21 1367 0)) (fun t22 => (gd (tI t22 1366 0) (tL t22 3359 0) (gd (tI t22 1366 0) (tL t22 3359 0) (nxt (uA t22 3359 0 (tI t22 1366 0).toNatClampNeg ((tA t22 3359 0 (tI t22 1366 0).toNatClampNeg) + 1)) (fun t23 => (some t23)))))))))))
theorem TF_X13_readLine {W : NW} {d : Nat} {t : TS} {Q : Option NV → TS → Prop} {bc bs : Nat} (hW : W.2.2.2 = mm_fx) (H : wp (F_X13_readLine t) (fun r => Q none r)) : nC W (d + 205) 225 [eR (some (13, 0))] t bc bs Q := by
  refine nC_in (d := (d + 204)) (T := tX13_readLine) (ls := [some (eR (some (13, 0)))]) rfl (Nat.le_of_ble_eq_true rfl) rfl (fun a0 e0 => ?_)
  unfold F_X13_readLine at H
  refine nx_ld rfl rfl rfl rfl ?_
  refine nx_cVVt (as := []) (st' := []) rfl rfl (Nat.le_of_ble_eq_true rfl) rfl rfl (Nat.le_of_ble_eq_true rfl) (c0 := 13) rfl (by decide) H (fun Q H => TF_X13_either hW  H) (fun r21 H => ?_)
  refine nx_ld rfl rfl rfl rfl ?_
  refine nx_getFix rfl rfl rfl (by decide) (by rw [hW]; rfl) rfl ?_
  refine nx_int (x := 90) rfl rfl ?_
  refine nx_ld rfl rfl rfl rfl ?_
  refine nx_getI rfl rfl rfl (by decide) ?_
  show nX _ _ _ _ _ _ 14 _ _ _ _ _
  refine nx_ii rfl rfl ?_
  refine nx_ld rfl rfl rfl rfl ?_
  refine nx_getFix rfl rfl rfl (by decide) (by rw [hW]; rfl) rfl ?_
  refine nx_ld rfl rfl rfl rfl ?_
  refine nx_getI rfl rfl rfl (by decide) ?_
  refine nx_iald (p := (3359, 0)) rfl rfl (Nat.le_of_ble_eq_true rfl) (Nat.le_of_ble_eq_true rfl) rfl H (fun H => ?_)
  refine nx_ii rfl rfl ?_
  refine nx_ld rfl rfl rfl rfl ?_
  show nX _ _ _ _ _ _ 26 _ _ _ _ _
  refine nx_getI rfl rfl rfl (by decide) ?_
  refine nx_iast (p := (3360, 0)) rfl rfl (Nat.le_of_ble_eq_true rfl) (Nat.le_of_ble_eq_true rfl) rfl H (fun t22 H => ?_)
  refine nx_ld rfl rfl rfl rfl ?_
  refine nx_getFix rfl rfl rfl (by decide) (by rw [hW]; rfl) rfl ?_
  refine nx_ld rfl rfl rfl rfl ?_
  refine nx_getI rfl rfl rfl (by decide) ?_
  refine nx_dup2 rfl rfl (Nat.ne_of_beq_eq_false rfl) (Nat.ne_of_beq_eq_false rfl) ?_
  refine nx_iald (p := (3359, 0)) rfl rfl (Nat.le_of_ble_eq_true rfl) (Nat.le_of_ble_eq_true rfl) rfl H (fun H => ?_)
  show nX _ _ _ _ _ _ 40 _ _ _ _ _
  refine nx_int (x := 1) rfl rfl ?_
  refine nx_ii rfl rfl ?_
  refine nx_iast (p := (3359, 0)) rfl rfl (Nat.le_of_ble_eq_true rfl) (Nat.le_of_ble_eq_true rfl) rfl H (fun t23 H => ?_)
  exact nx_rv rfl rfl H
def B_X13_rule_136 (t : TS) (v1 : Int32) (v2 : Int32) : Option (Int32 × TS) := (nxt (uI t 1354 0 0) (fun t21 => (if (tI t21 1364 0) < 0 then (gd (tI t21 1355 0) (tL t21 3356 0) (nxt (uA t21 3356 0 (tI t21 1355 0).toNatClampNeg v1) (fun t22 => (gd (tI t22 1355 0) (tL t22 3357 0) (nxt (uA t22 3357 0 (tI t22 1355 0).toNatClampNeg (tI t22 1301 0)) (fun t23 => (gd (tI t23 1355 0) (tL t23 3358 0) (nxt (uA t23 3358 0 (tI t23 1355 0).toNatClampNeg v2) (fun t24 => (nxt (uI t24 1355 0 ((tI t24 1355 0) + 1)) (fun t25 => (some (((tI t25 1355 0) - 1), t25))))))))))))) else (some (((-100) - (tI t21 1364 0)), t21)))))
theorem TB_X13_rule_136 {W : NW} {d : Nat} {Q : Option NV → TS → Prop} {a0 : Nat → Nat → Nat} {e0 : Nat → Nat → Bool} {bc bs : Nat} (hW : W.2.2.2 = mm_fx) : ∀ (t : TS) (v1 : Int32) (v2 : Int32), wp (B_X13_rule_136 t v1 v2) (fun r => Q (some (eI r.1)) r.2) → nX W (d + 205) tX13_rule Q a0 e0 136 [some (eR (some (13, 0))), some (eI v1), some (eI v2)] [] t bc bs := by
  intro t v1 v2 H
  unfold B_X13_rule_136 at H
  refine nx_ld rfl rfl rfl rfl ?_
  refine nx_int (x := 0) rfl rfl ?_
  refine nx_putI rfl rfl rfl (by decide) H (fun t21 H => ?_)
  refine nx_ld rfl rfl rfl rfl ?_
  refine nx_getI rfl rfl rfl (by decide) ?_
  refine nx_if rfl rfl (by rfl) H (fun H => ?_) (fun H => ?_)
  · refine nx_ld rfl rfl rfl rfl ?_
    refine nx_getFix rfl rfl rfl (by decide) (by rw [hW]; rfl) rfl ?_
    refine nx_ld rfl rfl rfl rfl ?_
    refine nx_getI rfl rfl rfl (by decide) ?_
    refine nx_ld rfl rfl rfl rfl ?_
    refine nx_iast (p := (3356, 0)) rfl rfl (Nat.le_of_ble_eq_true rfl) (Nat.le_of_ble_eq_true rfl) rfl H (fun t22 H => ?_)
    refine nx_ld rfl rfl rfl rfl ?_
    show nX _ _ _ _ _ _ 167 _ _ _ _ _
    refine nx_getFix rfl rfl rfl (by decide) (by rw [hW]; rfl) rfl ?_
    refine nx_ld rfl rfl rfl rfl ?_
    refine nx_getI rfl rfl rfl (by decide) ?_
    refine nx_ld rfl rfl rfl rfl ?_
    refine nx_getI rfl rfl rfl (by decide) ?_
    refine nx_iast (p := (3357, 0)) rfl rfl (Nat.le_of_ble_eq_true rfl) (Nat.le_of_ble_eq_true rfl) rfl H (fun t23 H => ?_)
    refine nx_ld rfl rfl rfl rfl ?_
    refine nx_getFix rfl rfl rfl (by decide) (by rw [hW]; rfl) rfl ?_
    show nX _ _ _ _ _ _ 183 _ _ _ _ _
    refine nx_ld rfl rfl rfl rfl ?_
    refine nx_getI rfl rfl rfl (by decide) ?_
    refine nx_ld rfl rfl rfl rfl ?_
    refine nx_iast (p := (3358, 0)) rfl rfl (Nat.le_of_ble_eq_true rfl) (Nat.le_of_ble_eq_true rfl) rfl H (fun t24 H => ?_)
    refine nx_ld rfl rfl rfl rfl ?_
    refine nx_dup rfl rfl (Nat.ne_of_beq_eq_false rfl) ?_
    refine nx_getI rfl rfl rfl (by decide) ?_
    refine nx_int (x := 1) rfl rfl ?_
    show nX _ _ _ _ _ _ 195 _ _ _ _ _
    refine nx_ii rfl rfl ?_
    refine nx_putI rfl rfl rfl (by decide) H (fun t25 H => ?_)
    refine nx_ld rfl rfl rfl rfl ?_
    refine nx_getI rfl rfl rfl (by decide) ?_
    refine nx_int (x := 1) rfl rfl ?_
    refine nx_ii rfl rfl ?_
    exact nx_rit rfl rfl H
  refine nx_int (x := (-100)) rfl rfl ?_
  refine nx_ld rfl rfl rfl rfl ?_
  refine nx_getI rfl rfl rfl (by decide) ?_
  refine nx_ii rfl rfl ?_
  exact nx_rit rfl rfl H
def B_X13_rule_114 (t : TS) (v1 : Int32) (v2 : Int32) : Option (Int32 × TS) := (if 0 ≤ (tI t 1364 0) then (B_X13_rule_136  t v1 v2) else (if (tI t 1354 0) ≤ (tI t 1363 0) then (B_X13_rule_136  t v1 v2) else (Option.bind (F_X13_wrong t) (fun r21 => (B_X13_rule_136  r21 v1 v2)))))
theorem TB_X13_rule_114 {W : NW} {d : Nat} {Q : Option NV → TS → Prop} {a0 : Nat → Nat → Nat} {e0 : Nat → Nat → Bool} {bc bs : Nat} (hW : W.2.2.2 = mm_fx) : ∀ (t : TS) (v1 : Int32) (v2 : Int32), wp (B_X13_rule_114 t v1 v2) (fun r => Q (some (eI r.1)) r.2) → nX W (d + 205) tX13_rule Q a0 e0 114 [some (eR (some (13, 0))), some (eI v1), some (eI v2)] [] t bc bs := by
  intro t v1 v2 H
  unfold B_X13_rule_114 at H
  refine nx_ld rfl rfl rfl rfl ?_
  refine nx_getI rfl rfl rfl (by decide) ?_
  refine nx_if rfl rfl (by rfl) H (fun H => ?_) (fun H => ?_)
  · exact TB_X13_rule_136 hW    _ _ _ H
  refine nx_ld rfl rfl rfl rfl ?_
  refine nx_getI rfl rfl rfl (by decide) ?_
  refine nx_ld rfl rfl rfl rfl ?_
  refine nx_getI rfl rfl rfl (by decide) ?_
  refine nx_icmp rfl rfl (by rfl) H (fun H => ?_) (fun H => ?_)
  · exact TB_X13_rule_136 hW    _ _ _ H
  refine nx_ld rfl rfl rfl rfl ?_
  refine nx_cVVt (as := []) (st' := []) rfl rfl (Nat.le_of_ble_eq_true rfl) rfl rfl (Nat.le_of_ble_eq_true rfl) (c0 := 13) rfl (by decide) H (fun Q H => TF_X13_wrong hW  H) (fun r21 H => ?_)
  exact TB_X13_rule_136 hW    _ _ _ H
def BB_X13_rule_81 (k81 : TS → Int32 → Int32 → Option (Int32 × TS)) (t : TS) (v1 : Int32) (v2 : Int32) : Option (Int32 × TS) := (if 0 ≤ (tI t 1364 0) then (B_X13_rule_114  t v1 v2) else (Option.bind (F_X13_look t) (fun r21 => (if ¬ r21 = 59 then (B_X13_rule_114  t v1 v2) else (nxt (uI t 1363 0 ((tI t 1363 0) + 1)) (fun t22 => (Option.bind (F_X13_readLine t22) (fun r23 => (k81 r23 v1 v2)))))))))
theorem TBB_X13_rule_81 {W : NW} {d : Nat} {Q : Option NV → TS → Prop} {a0 : Nat → Nat → Nat} {e0 : Nat → Nat → Bool} {k81 : TS → Int32 → Int32 → Option (Int32 × TS)} {bc bs : Nat} (hW : W.2.2.2 = mm_fx) (hk81 : ∀ (t : TS) (v1 : Int32) (v2 : Int32), wp (k81 t v1 v2) (fun r => Q (some (eI r.1)) r.2) → nX W (d + 205) tX13_rule Q a0 e0 81 [some (eR (some (13, 0))), some (eI v1), some (eI v2)] [] t bc bs) : ∀ (t : TS) (v1 : Int32) (v2 : Int32), wp (BB_X13_rule_81 k81 t v1 v2) (fun r => Q (some (eI r.1)) r.2) → nX W (d + 205) tX13_rule Q a0 e0 81 [some (eR (some (13, 0))), some (eI v1), some (eI v2)] [] t bc bs := by
  intro t v1 v2 H
  unfold BB_X13_rule_81 at H
  refine nx_ld rfl rfl rfl rfl ?_
  refine nx_getI rfl rfl rfl (by decide) ?_
  refine nx_if rfl rfl (by rfl) H (fun H => ?_) (fun H => ?_)
  · exact TB_X13_rule_114 hW    _ _ _ H
  refine nx_ld rfl rfl rfl rfl ?_
  refine nx_cVI (as := []) (st' := []) rfl rfl (Nat.le_of_ble_eq_true rfl) rfl rfl (Nat.le_of_ble_eq_true rfl) (c0 := 13) rfl (by decide) H (fun Q H => TF_X13_look hW  H) (fun r21 H => ?_)
  refine nx_int (x := 59) rfl rfl ?_
  refine nx_icmp rfl rfl (by rfl) H (fun H => ?_) (fun H => ?_)
  · exact TB_X13_rule_114 hW    _ _ _ H
  refine nx_ld rfl rfl rfl rfl ?_
  refine nx_dup rfl rfl (Nat.ne_of_beq_eq_false rfl) ?_
  refine nx_getI rfl rfl rfl (by decide) ?_
  refine nx_int (x := 1) rfl rfl ?_
  refine nx_ii rfl rfl ?_
  refine nx_putI rfl rfl rfl (by decide) H (fun t22 H => ?_)
  refine nx_ld rfl rfl rfl rfl ?_
  show nX _ _ _ _ _ _ 108 _ _ _ _ _
  refine nx_cVVt (as := []) (st' := []) rfl rfl (Nat.le_of_ble_eq_true rfl) rfl rfl (Nat.le_of_ble_eq_true rfl) (c0 := 13) rfl (by decide) H (fun Q H => TF_X13_readLine hW  H) (fun r23 H => ?_)
  refine nx_goto rfl rfl ?_
  exact hk81 _ _ _ H
def B_X13_rule_81 : Nat → TS → Int32 → Int32 → Option (Int32 × TS)
  | 0 => fun _ _ _ => none
  | n + 1 => fun t v1 v2 => BB_X13_rule_81 (B_X13_rule_81 n) t v1 v2
theorem TB_X13_rule_81 {W : NW} {d : Nat} {Q : Option NV → TS → Prop} {a0 : Nat → Nat → Nat} {e0 : Nat → Nat → Bool} {bc bs : Nat} (hW : W.2.2.2 = mm_fx) : ∀ (n : Nat) (t : TS) (v1 : Int32) (v2 : Int32), wp (B_X13_rule_81 n t v1 v2) (fun r => Q (some (eI r.1)) r.2) → nX W (d + 205) tX13_rule Q a0 e0 81 [some (eR (some (13, 0))), some (eI v1), some (eI v2)] [] t bc bs := by
  intro n
  induction n with
  | zero => intro t v1 v2 H; exact (wp_none H).elim
  | succ n ih =>
    intro t v1 v2 H
    exact TBB_X13_rule_81 hW    ih t v1 v2 H
def F_X13_rule (t : TS) (x1 : Int32) (x2 : Int32) : Option (Int32 × TS) := (Option.bind (F_X13_in t x1 0 32) (fun r21 => (if r21 = 0 then (some ((-1), t)) else (if 2 < (irm x1 10) then (some ((-1), t)) else (Option.bind (F_X13_isDay t x2) (fun r22 => (if ¬ r22 = 0 then (if ¬ (tI t 1355 0) = 16 then (nxt (uI t 1366 0 (tI t 1355 0)) (fun t23 => (gd (tI t23 1366 0) (tL t23 3359 0) (nxt (uA t23 3359 0 (tI t23 1366 0).toNatClampNeg 0) (fun t24 => (nxt (uI t24 1367 0 0) (fun t25 => (nxt (uI t25 1363 0 0) (fun t26 => (nxt (uI t26 1364 0 (-1)) (fun t27 => (nxt (uI t27 1365 0 0) (fun t28 => (Option.bind (F_X13_readLine t28) (fun r29 => (B_X13_rule_81  10000 r29 x1 x2)))))))))))))))) else (some ((-3), t))) else (some ((-1), t)))))))))
theorem TF_X13_rule {W : NW} {d : Nat} {t : TS} {x1 : Int32} {x2 : Int32} {Q : Option NV → TS → Prop} {bc bs : Nat} (hW : W.2.2.2 = mm_fx) (H : wp (F_X13_rule t x1 x2) (fun r => Q (some (eI r.1)) r.2)) : nC W (d + 206) 226 [eR (some (13, 0)), eI x1, eI x2] t bc bs Q := by
  refine nC_in (d := (d + 205)) (T := tX13_rule) (ls := [some (eR (some (13, 0))), some (eI x1), some (eI x2)]) rfl (Nat.le_of_ble_eq_true rfl) rfl (fun a0 e0 => ?_)
  unfold F_X13_rule at H
  refine nx_ld rfl rfl rfl rfl ?_
  refine nx_int (x := 0) rfl rfl ?_
  refine nx_int (x := 32) rfl rfl ?_
  refine nx_cSI (as := [eI x1, eI 0, eI 32]) (st' := []) rfl rfl (Nat.le_of_ble_eq_true rfl) rfl rfl (Nat.le_of_ble_eq_true rfl) H (fun Q H => TF_X13_in hW  H) (fun r21 H => ?_)
  refine nx_if rfl rfl (by rfl) H (fun H => ?_) (fun H => ?_)
  · refine nx_int (x := (-1)) rfl rfl ?_
    exact nx_rit rfl rfl H
  refine nx_ld rfl rfl rfl rfl ?_
  refine nx_int (x := 10) rfl rfl ?_
  refine nx_idivL rfl rfl (by decide) ?_
  refine nx_int (x := 2) rfl rfl ?_
  refine nx_icmp rfl rfl (by rfl) H (fun H => ?_) (fun H => ?_)
  · refine nx_int (x := (-1)) rfl rfl ?_
    exact nx_rit rfl rfl H
  refine nx_ld rfl rfl rfl rfl ?_
  refine nx_cSI (as := [eI x2]) (st' := []) rfl rfl (Nat.le_of_ble_eq_true rfl) rfl rfl (Nat.le_of_ble_eq_true rfl) H (fun Q H => TF_X13_isDay hW  H) (fun r22 H => ?_)
  refine nx_if rfl rfl (by rfl) H (fun H => ?_) (fun H => ?_)
  · refine nx_ld rfl rfl rfl rfl ?_
    refine nx_getI rfl rfl rfl (by decide) ?_
    refine nx_int (x := 16) rfl rfl ?_
    refine nx_icmp rfl rfl (by rfl) H (fun H => ?_) (fun H => ?_)
    · refine nx_ld rfl rfl rfl rfl ?_
      refine nx_ld rfl rfl rfl rfl ?_
      refine nx_getI rfl rfl rfl (by decide) ?_
      refine nx_putI rfl rfl rfl (by decide) H (fun t23 H => ?_)
      refine nx_ld rfl rfl rfl rfl ?_
      refine nx_getFix rfl rfl rfl (by decide) (by rw [hW]; rfl) rfl ?_
      refine nx_ld rfl rfl rfl rfl ?_
      show nX _ _ _ _ _ _ 52 _ _ _ _ _
      refine nx_getI rfl rfl rfl (by decide) ?_
      refine nx_int (x := 0) rfl rfl ?_
      refine nx_iast (p := (3359, 0)) rfl rfl (Nat.le_of_ble_eq_true rfl) (Nat.le_of_ble_eq_true rfl) rfl H (fun t24 H => ?_)
      refine nx_ld rfl rfl rfl rfl ?_
      refine nx_int (x := 0) rfl rfl ?_
      refine nx_putI rfl rfl rfl (by decide) H (fun t25 H => ?_)
      refine nx_ld rfl rfl rfl rfl ?_
      refine nx_int (x := 0) rfl rfl ?_
      show nX _ _ _ _ _ _ 64 _ _ _ _ _
      refine nx_putI rfl rfl rfl (by decide) H (fun t26 H => ?_)
      refine nx_ld rfl rfl rfl rfl ?_
      refine nx_int (x := (-1)) rfl rfl ?_
      refine nx_putI rfl rfl rfl (by decide) H (fun t27 H => ?_)
      refine nx_ld rfl rfl rfl rfl ?_
      refine nx_int (x := 0) rfl rfl ?_
      refine nx_putI rfl rfl rfl (by decide) H (fun t28 H => ?_)
      refine nx_ld rfl rfl rfl rfl ?_
      show nX _ _ _ _ _ _ 78 _ _ _ _ _
      refine nx_cVVt (as := []) (st' := []) rfl rfl (Nat.le_of_ble_eq_true rfl) rfl rfl (Nat.le_of_ble_eq_true rfl) (c0 := 13) rfl (by decide) H (fun Q H => TF_X13_readLine hW  H) (fun r29 H => ?_)
      exact TB_X13_rule_81 hW    10000 _ _ _ H
    refine nx_int (x := (-3)) rfl rfl ?_
    exact nx_rit rfl rfl H
  refine nx_int (x := (-1)) rfl rfl ?_
  exact nx_rit rfl rfl H
def F_X13_inForce (t : TS) (x1 : Int32) (x2 : Int32) (x3 : Int32) : Option Int32 := (Option.bind (F_X13_in t x1 0 32) (fun r21 => (if r21 = 0 then (some ((-1))) else (if 2 < (irm x1 10) then (some ((-1))) else (Option.bind (F_X13_isDay t x2) (fun r22 => (if r22 = 0 then (some ((-1))) else (Option.bind (F_X13_isDay t x3) (fun r23 => (if r23 = 0 then (some ((-1))) else (Option.bind (F_X13_forceOf t x1 x2 x3) (fun r24 => (some (r24))))))))))))))
theorem TF_X13_inForce {W : NW} {d : Nat} {t : TS} {x1 : Int32} {x2 : Int32} {x3 : Int32} {Q : Option NV → TS → Prop} {bc bs : Nat} (hW : W.2.2.2 = mm_fx) (H : wp (F_X13_inForce t x1 x2 x3) (fun r => Q (some (eI r)) t)) : nC W (d + 3) 228 [eR (some (13, 0)), eI x1, eI x2, eI x3] t bc bs Q := by
  refine nC_in (d := (d + 2)) (T := tX13_inForce) (ls := [some (eR (some (13, 0))), some (eI x1), some (eI x2), some (eI x3)]) rfl (Nat.le_of_ble_eq_true rfl) rfl (fun a0 e0 => ?_)
  unfold F_X13_inForce at H
  refine nx_ld rfl rfl rfl rfl ?_
  refine nx_int (x := 0) rfl rfl ?_
  refine nx_int (x := 32) rfl rfl ?_
  refine nx_cSI (as := [eI x1, eI 0, eI 32]) (st' := []) rfl rfl (Nat.le_of_ble_eq_true rfl) rfl rfl (Nat.le_of_ble_eq_true rfl) H (fun Q H => TF_X13_in hW  H) (fun r21 H => ?_)
  refine nx_if rfl rfl (by rfl) H (fun H => ?_) (fun H => ?_)
  · refine nx_int (x := (-1)) rfl rfl ?_
    exact nx_ri rfl rfl H
  refine nx_ld rfl rfl rfl rfl ?_
  refine nx_int (x := 10) rfl rfl ?_
  refine nx_idivL rfl rfl (by decide) ?_
  refine nx_int (x := 2) rfl rfl ?_
  refine nx_icmp rfl rfl (by rfl) H (fun H => ?_) (fun H => ?_)
  · refine nx_int (x := (-1)) rfl rfl ?_
    exact nx_ri rfl rfl H
  refine nx_ld rfl rfl rfl rfl ?_
  refine nx_cSI (as := [eI x2]) (st' := []) rfl rfl (Nat.le_of_ble_eq_true rfl) rfl rfl (Nat.le_of_ble_eq_true rfl) H (fun Q H => TF_X13_isDay hW  H) (fun r22 H => ?_)
  refine nx_if rfl rfl (by rfl) H (fun H => ?_) (fun H => ?_)
  · refine nx_int (x := (-1)) rfl rfl ?_
    exact nx_ri rfl rfl H
  refine nx_ld rfl rfl rfl rfl ?_
  refine nx_cSI (as := [eI x3]) (st' := []) rfl rfl (Nat.le_of_ble_eq_true rfl) rfl rfl (Nat.le_of_ble_eq_true rfl) H (fun Q H => TF_X13_isDay hW  H) (fun r23 H => ?_)
  refine nx_if rfl rfl (by rfl) H (fun H => ?_) (fun H => ?_)
  · refine nx_int (x := (-1)) rfl rfl ?_
    exact nx_ri rfl rfl H
  refine nx_ld rfl rfl rfl rfl ?_
  refine nx_ld rfl rfl rfl rfl ?_
  refine nx_ld rfl rfl rfl rfl ?_
  refine nx_ld rfl rfl rfl rfl ?_
  refine nx_cVI (as := [eI x1, eI x2, eI x3]) (st' := []) rfl rfl (Nat.le_of_ble_eq_true rfl) rfl rfl (Nat.le_of_ble_eq_true rfl) (c0 := 13) rfl (by decide) H (fun Q H => TF_X13_forceOf hW  H) (fun r24 H => ?_)
  refine nx_goto rfl rfl ?_
  exact nx_ri rfl rfl H
def B_X13_holds_39 (t : TS) (v1 : Int32) (v2 : Int32) (v3 : Int32) : Option (Int32 × TS) := (gd v2 (tL t 3309 0) (Option.bind (F_X13_forceOf t ((10 * (tA t 3309 0 v2.toNatClampNeg)) + v1) (tI t 1301 0) (tI t 1301 0)) (fun r21 => (ob2 (F_X13_firstBroken t r21 v2 v3 0) (fun x23 t24 => (if 0 ≤ x23 then (some (x23, t24)) else (some ((-2), t24))))))))
theorem TB_X13_holds_39 {W : NW} {d : Nat} {Q : Option NV → TS → Prop} {a0 : Nat → Nat → Nat} {e0 : Nat → Nat → Bool} {bc bs : Nat} (hW : W.2.2.2 = mm_fx) : ∀ (t : TS) (v1 : Int32) (v2 : Int32) (v3 : Int32), wp (B_X13_holds_39 t v1 v2 v3) (fun r => Q (some (eI r.1)) r.2) → nX W (d + 7) tX13_holds Q a0 e0 39 [some (eR (some (13, 0))), some (eI v1), some (eI v2), some (eI v3), none] [] t bc bs := by
  intro t v1 v2 v3 H
  unfold B_X13_holds_39 at H
  refine nx_ld rfl rfl rfl rfl ?_
  refine nx_ld rfl rfl rfl rfl ?_
  refine nx_int (x := 10) rfl rfl ?_
  refine nx_ld rfl rfl rfl rfl ?_
  refine nx_getFix rfl rfl rfl (by decide) (by rw [hW]; rfl) rfl ?_
  refine nx_ld rfl rfl rfl rfl ?_
  refine nx_iald (p := (3309, 0)) rfl rfl (Nat.le_of_ble_eq_true rfl) (Nat.le_of_ble_eq_true rfl) rfl H (fun H => ?_)
  show nX _ _ _ _ _ _ 49 _ _ _ _ _
  refine nx_ii rfl rfl ?_
  refine nx_ld rfl rfl rfl rfl ?_
  refine nx_ii rfl rfl ?_
  refine nx_ld rfl rfl rfl rfl ?_
  refine nx_getI rfl rfl rfl (by decide) ?_
  refine nx_ld rfl rfl rfl rfl ?_
  refine nx_getI rfl rfl rfl (by decide) ?_
  refine nx_cVI (as := [eI ((10 * (tA t 3309 0 v2.toNatClampNeg)) + v1), eI (tI t 1301 0), eI (tI t 1301 0)]) (st' := [eR (some (13, 0))]) rfl rfl (Nat.le_of_ble_eq_true rfl) rfl rfl (Nat.le_of_ble_eq_true rfl) (c0 := 13) rfl (by decide) H (fun Q H => TF_X13_forceOf hW  H) (fun r21 H => ?_)
  show nX _ _ _ _ _ _ 63 _ _ _ _ _
  refine nx_ld rfl rfl rfl rfl ?_
  refine nx_ld rfl rfl rfl rfl ?_
  refine nx_int (x := 0) rfl rfl ?_
  refine nx_cVI2 (as := [eI r21, eI v2, eI v3, eI 0]) (st' := []) rfl rfl (Nat.le_of_ble_eq_true rfl) rfl rfl (Nat.le_of_ble_eq_true rfl) (c0 := 13) rfl (by decide) H (fun Q H => TF_X13_firstBroken hW  H) (fun x23 t24 H => ?_)
  refine nx_st (ls' := [some (eR (some (13, 0))), some (eI v1), some (eI v2), some (eI v3), some (eI x23)]) rfl rfl rfl (Nat.le_of_ble_eq_true rfl) rfl ?_
  refine nx_ld rfl rfl rfl rfl ?_
  refine nx_if rfl rfl (by rfl) H (fun H => ?_) (fun H => ?_)
  · refine nx_ld rfl rfl rfl rfl ?_
    exact nx_rit rfl rfl H
  refine nx_int (x := (-2)) rfl rfl ?_
  refine nx_goto rfl rfl ?_
  exact nx_rit rfl rfl H
def F_X13_holds (t : TS) (x1 : Int32) (x2 : Int32) (x3 : Int32) : Option (Int32 × TS) := (Option.bind (F_X13_in t x1 0 2) (fun r21 => (if r21 = 0 then (some ((-1), t)) else (Option.bind (F_X13_isClub t x2) (fun r22 => (if r22 = 0 then (some ((-1), t)) else (if ¬ x1 = 0 then (if x3 = (-1) then (B_X13_holds_39  t x1 x2 x3) else (some ((-1), t))) else (Option.bind (F_X13_isPlayer t x3) (fun r23 => (if ¬ r23 = 0 then (B_X13_holds_39  t x1 x2 x3) else (some ((-1), t))))))))))))
theorem TF_X13_holds {W : NW} {d : Nat} {t : TS} {x1 : Int32} {x2 : Int32} {x3 : Int32} {Q : Option NV → TS → Prop} {bc bs : Nat} (hW : W.2.2.2 = mm_fx) (H : wp (F_X13_holds t x1 x2 x3) (fun r => Q (some (eI r.1)) r.2)) : nC W (d + 8) 232 [eR (some (13, 0)), eI x1, eI x2, eI x3] t bc bs Q := by
  refine nC_in (d := (d + 7)) (T := tX13_holds) (ls := [some (eR (some (13, 0))), some (eI x1), some (eI x2), some (eI x3), none]) rfl (Nat.le_of_ble_eq_true rfl) rfl (fun a0 e0 => ?_)
  unfold F_X13_holds at H
  refine nx_ld rfl rfl rfl rfl ?_
  refine nx_int (x := 0) rfl rfl ?_
  refine nx_int (x := 2) rfl rfl ?_
  refine nx_cSI (as := [eI x1, eI 0, eI 2]) (st' := []) rfl rfl (Nat.le_of_ble_eq_true rfl) rfl rfl (Nat.le_of_ble_eq_true rfl) H (fun Q H => TF_X13_in hW  H) (fun r21 H => ?_)
  refine nx_if rfl rfl (by rfl) H (fun H => ?_) (fun H => ?_)
  · refine nx_int (x := (-1)) rfl rfl ?_
    exact nx_rit rfl rfl H
  refine nx_ld rfl rfl rfl rfl ?_
  refine nx_ld rfl rfl rfl rfl ?_
  refine nx_cVI (as := [eI x2]) (st' := []) rfl rfl (Nat.le_of_ble_eq_true rfl) rfl rfl (Nat.le_of_ble_eq_true rfl) (c0 := 13) rfl (by decide) H (fun Q H => TF_X13_isClub hW  H) (fun r22 H => ?_)
  refine nx_if rfl rfl (by rfl) H (fun H => ?_) (fun H => ?_)
  · refine nx_int (x := (-1)) rfl rfl ?_
    exact nx_rit rfl rfl H
  refine nx_ld rfl rfl rfl rfl ?_
  refine nx_if rfl rfl (by rfl) H (fun H => ?_) (fun H => ?_)
  · refine nx_ld rfl rfl rfl rfl ?_
    refine nx_int (x := (-1)) rfl rfl ?_
    refine nx_icmp rfl rfl (by rfl) H (fun H => ?_) (fun H => ?_)
    · exact TB_X13_holds_39 hW    _ _ _ _ H
    refine nx_int (x := (-1)) rfl rfl ?_
    exact nx_rit rfl rfl H
  refine nx_ld rfl rfl rfl rfl ?_
  refine nx_ld rfl rfl rfl rfl ?_
  refine nx_cVI (as := [eI x3]) (st' := []) rfl rfl (Nat.le_of_ble_eq_true rfl) rfl rfl (Nat.le_of_ble_eq_true rfl) (c0 := 13) rfl (by decide) H (fun Q H => TF_X13_isPlayer hW  H) (fun r23 H => ?_)
  refine nx_if rfl rfl (by rfl) H (fun H => ?_) (fun H => ?_)
  · exact TB_X13_holds_39 hW    _ _ _ _ H
  refine nx_goto rfl rfl ?_
  refine nx_int (x := (-1)) rfl rfl ?_
  exact nx_rit rfl rfl H
def B_X13_tryCap_88 (k41 : TS → Int32 → Int32 → Int32 → Int32 → Option (Int32 × TS)) (t : TS) (v1 : Int32) (v2 : Int32) (v4 : Int32) (s0 : Int32) (s1 : Int32) : Option (Int32 × TS) := (k41 t v1 v2 (s1 + s0) (v4 + 1))
theorem TB_X13_tryCap_88 {W : NW} {d : Nat} {Q : Option NV → TS → Prop} {a0 : Nat → Nat → Nat} {e0 : Nat → Nat → Bool} {k41 : TS → Int32 → Int32 → Int32 → Int32 → Option (Int32 × TS)} {bc bs : Nat} (hW : W.2.2.2 = mm_fx) (hk41 : ∀ (t : TS) (v1 : Int32) (v2 : Int32) (v3 : Int32) (v4 : Int32), wp (k41 t v1 v2 v3 v4) (fun r => Q (some (eI r.1)) r.2) → nX W (d + 7) tX13_tryCap Q a0 e0 41 [some (eR (some (13, 0))), some (eI v1), some (eI v2), some (eI v3), some (eI v4)] [] t bc bs) : ∀ (t : TS) (v1 : Int32) (v2 : Int32) (v3 : Int32) (v4 : Int32) (s0 : Int32) (s1 : Int32), wp (B_X13_tryCap_88 k41 t v1 v2 v4 s0 s1) (fun r => Q (some (eI r.1)) r.2) → nX W (d + 7) tX13_tryCap Q a0 e0 88 [some (eR (some (13, 0))), some (eI v1), some (eI v2), some (eI v3), some (eI v4)] [eI s0, eI s1] t bc bs := by
  intro t v1 v2 v3 v4 s0 s1 H
  unfold B_X13_tryCap_88 at H
  refine nx_ii rfl rfl ?_
  refine nx_st (ls' := [some (eR (some (13, 0))), some (eI v1), some (eI v2), some (eI (s1 + s0)), some (eI v4)]) rfl rfl rfl (Nat.le_of_ble_eq_true rfl) rfl ?_
  refine nx_iinc2 1 (ls' := [some (eR (some (13, 0))), some (eI v1), some (eI v2), some (eI (s1 + s0)), some (eI (v4 + 1))]) rfl rfl rfl rfl rfl ?_
  refine nx_goto rfl rfl ?_
  exact hk41 _ _ _ _ _ H
def B_X13_tryCap_87 (k41 : TS → Int32 → Int32 → Int32 → Int32 → Option (Int32 × TS)) (t : TS) (v1 : Int32) (v2 : Int32) (v4 : Int32) (s0 : Int32) : Option (Int32 × TS) := (B_X13_tryCap_88 k41 t v1 v2 v4 0 s0)
theorem TB_X13_tryCap_87 {W : NW} {d : Nat} {Q : Option NV → TS → Prop} {a0 : Nat → Nat → Nat} {e0 : Nat → Nat → Bool} {k41 : TS → Int32 → Int32 → Int32 → Int32 → Option (Int32 × TS)} {bc bs : Nat} (hW : W.2.2.2 = mm_fx) (hk41 : ∀ (t : TS) (v1 : Int32) (v2 : Int32) (v3 : Int32) (v4 : Int32), wp (k41 t v1 v2 v3 v4) (fun r => Q (some (eI r.1)) r.2) → nX W (d + 7) tX13_tryCap Q a0 e0 41 [some (eR (some (13, 0))), some (eI v1), some (eI v2), some (eI v3), some (eI v4)] [] t bc bs) : ∀ (t : TS) (v1 : Int32) (v2 : Int32) (v3 : Int32) (v4 : Int32) (s0 : Int32), wp (B_X13_tryCap_87 k41 t v1 v2 v4 s0) (fun r => Q (some (eI r.1)) r.2) → nX W (d + 7) tX13_tryCap Q a0 e0 87 [some (eR (some (13, 0))), some (eI v1), some (eI v2), some (eI v3), some (eI v4)] [eI s0] t bc bs := by
  intro t v1 v2 v3 v4 s0 H
  unfold B_X13_tryCap_87 at H
  refine nx_int (x := 0) rfl rfl ?_
  exact TB_X13_tryCap_88 hW   hk41 _ _ _ _ _ _ _ H
def BB_X13_tryCap_41 (k41 : TS → Int32 → Int32 → Int32 → Int32 → Option (Int32 × TS)) (t : TS) (v1 : Int32) (v2 : Int32) (v3 : Int32) (v4 : Int32) : Option (Int32 × TS) := (if (tI t 1307 0) ≤ v4 then (some (v3, t)) else (Option.bind (F_X13_isClub t v4) (fun r21 => (if r21 = 0 then (B_X13_tryCap_87 k41 t v1 v2 v4 v3) else (gd v4 (tL t 3309 0) (if ¬ (tA t 3309 0 v4.toNatClampNeg) = v2 then (B_X13_tryCap_87 k41 t v1 v2 v4 v3) else (ob2 (F_X13_firstBroken t v1 v4 (-1) 0) (fun x23 t24 => (if x23 < 0 then (B_X13_tryCap_87 k41 t24 v1 v2 v4 v3) else (B_X13_tryCap_88 k41 t24 v1 v2 v4 1 v3))))))))))
theorem TBB_X13_tryCap_41 {W : NW} {d : Nat} {Q : Option NV → TS → Prop} {a0 : Nat → Nat → Nat} {e0 : Nat → Nat → Bool} {k41 : TS → Int32 → Int32 → Int32 → Int32 → Option (Int32 × TS)} {bc bs : Nat} (hW : W.2.2.2 = mm_fx) (hk41 : ∀ (t : TS) (v1 : Int32) (v2 : Int32) (v3 : Int32) (v4 : Int32), wp (k41 t v1 v2 v3 v4) (fun r => Q (some (eI r.1)) r.2) → nX W (d + 7) tX13_tryCap Q a0 e0 41 [some (eR (some (13, 0))), some (eI v1), some (eI v2), some (eI v3), some (eI v4)] [] t bc bs) : ∀ (t : TS) (v1 : Int32) (v2 : Int32) (v3 : Int32) (v4 : Int32), wp (BB_X13_tryCap_41 k41 t v1 v2 v3 v4) (fun r => Q (some (eI r.1)) r.2) → nX W (d + 7) tX13_tryCap Q a0 e0 41 [some (eR (some (13, 0))), some (eI v1), some (eI v2), some (eI v3), some (eI v4)] [] t bc bs := by
  intro t v1 v2 v3 v4 H
  unfold BB_X13_tryCap_41 at H
  refine nx_ld rfl rfl rfl rfl ?_
  refine nx_ld rfl rfl rfl rfl ?_
  refine nx_getI rfl rfl rfl (by decide) ?_
  refine nx_icmp rfl rfl (by rfl) H (fun H => ?_) (fun H => ?_)
  · refine nx_ld rfl rfl rfl rfl ?_
    exact nx_rit rfl rfl H
  refine nx_ld rfl rfl rfl rfl ?_
  refine nx_ld rfl rfl rfl rfl ?_
  refine nx_ld rfl rfl rfl rfl ?_
  refine nx_cVI (as := [eI v4]) (st' := [eI v3]) rfl rfl (Nat.le_of_ble_eq_true rfl) rfl rfl (Nat.le_of_ble_eq_true rfl) (c0 := 13) rfl (by decide) H (fun Q H => TF_X13_isClub hW  H) (fun r21 H => ?_)
  refine nx_if rfl rfl (by rfl) H (fun H => ?_) (fun H => ?_)
  · exact TB_X13_tryCap_87 hW   hk41 _ _ _ _ _ _ H
  refine nx_ld rfl rfl rfl rfl ?_
  refine nx_getFix rfl rfl rfl (by decide) (by rw [hW]; rfl) rfl ?_
  refine nx_ld rfl rfl rfl rfl ?_
  refine nx_iald (p := (3309, 0)) rfl rfl (Nat.le_of_ble_eq_true rfl) (Nat.le_of_ble_eq_true rfl) rfl H (fun H => ?_)
  refine nx_ld rfl rfl rfl rfl ?_
  refine nx_icmp rfl rfl (by rfl) H (fun H => ?_) (fun H => ?_)
  · exact TB_X13_tryCap_87 hW   hk41 _ _ _ _ _ _ H
  refine nx_ld rfl rfl rfl rfl ?_
  refine nx_ld rfl rfl rfl rfl ?_
  refine nx_ld rfl rfl rfl rfl ?_
  refine nx_int (x := (-1)) rfl rfl ?_
  refine nx_int (x := 0) rfl rfl ?_
  refine nx_cVI2 (as := [eI v1, eI v4, eI (-1), eI 0]) (st' := [eI v3]) rfl rfl (Nat.le_of_ble_eq_true rfl) rfl rfl (Nat.le_of_ble_eq_true rfl) (c0 := 13) rfl (by decide) H (fun Q H => TF_X13_firstBroken hW  H) (fun x23 t24 H => ?_)
  refine nx_if rfl rfl (by rfl) H (fun H => ?_) (fun H => ?_)
  · exact TB_X13_tryCap_87 hW   hk41 _ _ _ _ _ _ H
  refine nx_int (x := 1) rfl rfl ?_
  refine nx_goto rfl rfl ?_
  exact TB_X13_tryCap_88 hW   hk41 _ _ _ _ _ _ _ H
def B_X13_tryCap_41 : Nat → TS → Int32 → Int32 → Int32 → Int32 → Option (Int32 × TS)
  | 0 => fun _ _ _ _ _ => none
  | n + 1 => fun t v1 v2 v3 v4 => BB_X13_tryCap_41 (B_X13_tryCap_41 n) t v1 v2 v3 v4
theorem TB_X13_tryCap_41 {W : NW} {d : Nat} {Q : Option NV → TS → Prop} {a0 : Nat → Nat → Nat} {e0 : Nat → Nat → Bool} {bc bs : Nat} (hW : W.2.2.2 = mm_fx) : ∀ (n : Nat) (t : TS) (v1 : Int32) (v2 : Int32) (v3 : Int32) (v4 : Int32), wp (B_X13_tryCap_41 n t v1 v2 v3 v4) (fun r => Q (some (eI r.1)) r.2) → nX W (d + 7) tX13_tryCap Q a0 e0 41 [some (eR (some (13, 0))), some (eI v1), some (eI v2), some (eI v3), some (eI v4)] [] t bc bs := by
  intro n
  induction n with
  | zero => intro t v1 v2 v3 v4 H; exact (wp_none H).elim
  | succ n ih =>
    intro t v1 v2 v3 v4 H
    exact TBB_X13_tryCap_41 hW    ih t v1 v2 v3 v4 H
def F_X13_tryCap (t : TS) (x1 : Int32) (x2 : Int32) : Option (Int32 × TS) := (Option.bind (F_X13_in t x1 0 ((tI t 1355 0) - 1)) (fun r21 => (if r21 = 0 then (some ((-1), t)) else (gd x1 (tL t 3356 0) (if ¬ (irm (tA t 3356 0 x1.toNatClampNeg) 10) = 2 then (some ((-1), t)) else (Option.bind (F_X13_isLeague t x2) (fun r22 => (if ¬ r22 = 0 then (B_X13_tryCap_41  10000 t x1 x2 0 0) else (some ((-1), t))))))))))
theorem TF_X13_tryCap {W : NW} {d : Nat} {t : TS} {x1 : Int32} {x2 : Int32} {Q : Option NV → TS → Prop} {bc bs : Nat} (hW : W.2.2.2 = mm_fx) (H : wp (F_X13_tryCap t x1 x2) (fun r => Q (some (eI r.1)) r.2)) : nC W (d + 8) 233 [eR (some (13, 0)), eI x1, eI x2] t bc bs Q := by
  refine nC_in (d := (d + 7)) (T := tX13_tryCap) (ls := [some (eR (some (13, 0))), some (eI x1), some (eI x2), none, none]) rfl (Nat.le_of_ble_eq_true rfl) rfl (fun a0 e0 => ?_)
  unfold F_X13_tryCap at H
  refine nx_ld rfl rfl rfl rfl ?_
  refine nx_int (x := 0) rfl rfl ?_
  refine nx_ld rfl rfl rfl rfl ?_
  refine nx_getI rfl rfl rfl (by decide) ?_
  refine nx_int (x := 1) rfl rfl ?_
  refine nx_ii rfl rfl ?_
  refine nx_cSI (as := [eI x1, eI 0, eI ((tI t 1355 0) - 1)]) (st' := []) rfl rfl (Nat.le_of_ble_eq_true rfl) rfl rfl (Nat.le_of_ble_eq_true rfl) H (fun Q H => TF_X13_in hW  H) (fun r21 H => ?_)
  show nX _ _ _ _ _ _ 11 _ _ _ _ _
  refine nx_if rfl rfl (by rfl) H (fun H => ?_) (fun H => ?_)
  · refine nx_int (x := (-1)) rfl rfl ?_
    exact nx_rit rfl rfl H
  refine nx_ld rfl rfl rfl rfl ?_
  refine nx_getFix rfl rfl rfl (by decide) (by rw [hW]; rfl) rfl ?_
  refine nx_ld rfl rfl rfl rfl ?_
  refine nx_iald (p := (3356, 0)) rfl rfl (Nat.le_of_ble_eq_true rfl) (Nat.le_of_ble_eq_true rfl) rfl H (fun H => ?_)
  refine nx_int (x := 10) rfl rfl ?_
  refine nx_idivL rfl rfl (by decide) ?_
  refine nx_int (x := 2) rfl rfl ?_
  show nX _ _ _ _ _ _ 24 _ _ _ _ _
  refine nx_icmp rfl rfl (by rfl) H (fun H => ?_) (fun H => ?_)
  · refine nx_int (x := (-1)) rfl rfl ?_
    exact nx_rit rfl rfl H
  refine nx_ld rfl rfl rfl rfl ?_
  refine nx_cSI (as := [eI x2]) (st' := []) rfl rfl (Nat.le_of_ble_eq_true rfl) rfl rfl (Nat.le_of_ble_eq_true rfl) H (fun Q H => TF_X13_isLeague hW  H) (fun r22 H => ?_)
  refine nx_if rfl rfl (by rfl) H (fun H => ?_) (fun H => ?_)
  · refine nx_int (x := 0) rfl rfl ?_
    refine nx_st (ls' := [some (eR (some (13, 0))), some (eI x1), some (eI x2), some (eI 0), none]) rfl rfl rfl (Nat.le_of_ble_eq_true rfl) rfl ?_
    refine nx_int (x := 0) rfl rfl ?_
    refine nx_st (ls' := [some (eR (some (13, 0))), some (eI x1), some (eI x2), some (eI 0), some (eI 0)]) rfl rfl rfl (Nat.le_of_ble_eq_true rfl) rfl ?_
    exact TB_X13_tryCap_41 hW    10000 _ _ _ _ _ H
  refine nx_int (x := (-1)) rfl rfl ?_
  exact nx_rit rfl rfl H
def F_X13_deal (t : TS) (x1 : Int32) (x2 : Int32) (x3 : Int32) (x4 : Int32) : Option (Int32 × TS) := (Option.bind (F_X13_isPlayer t x1) (fun r21 => (if r21 = 0 then (some ((-1), t)) else (Option.bind (F_X13_isClub t x2) (fun r22 => (if r22 = 0 then (some ((-1), t)) else (Option.bind (F_X13_in t x3 0 999999) (fun r23 => (if r23 = 0 then (some ((-1), t)) else (Option.bind (F_X13_in t x4 (-1) 5) (fun r24 => (if r24 = 0 then (some ((-1), t)) else (if x4 = (tI t 1370 0) then (some ((-1), t)) else (Option.bind (F_X13_ownerOn t x1 (tI t 1301 0)) (fun r25 => (if r25 < 0 then (some ((-1), t)) else (Option.bind (F_X13_ownerOn t x1 (tI t 1301 0)) (fun r26 => (if ¬ r26 = x2 then (if ¬ (tI t 1370 0) = 6 then (gd (tI t 1370 0) (tL t 3371 0) (nxt (uA t 3371 0 (tI t 1370 0).toNatClampNeg x1) (fun t27 => (gd (tI t27 1370 0) (tL t27 3372 0) (nxt (uA t27 3372 0 (tI t27 1370 0).toNatClampNeg x2) (fun t28 => (gd (tI t28 1370 0) (tL t28 3373 0) (nxt (uA t28 3373 0 (tI t28 1370 0).toNatClampNeg x3) (fun t29 => (gd (tI t29 1370 0) (tL t29 3374 0) (nxt (uA t29 3374 0 (tI t29 1370 0).toNatClampNeg x4) (fun t30 => (nxt (uI t30 1370 0 ((tI t30 1370 0) + 1)) (fun t31 => (some ((tI t31 1370 0), t31)))))))))))))))) else (some ((-3), t))) else (some ((-1), t)))))))))))))))))))))
theorem TF_X13_deal {W : NW} {d : Nat} {t : TS} {x1 : Int32} {x2 : Int32} {x3 : Int32} {x4 : Int32} {Q : Option NV → TS → Prop} {bc bs : Nat} (hW : W.2.2.2 = mm_fx) (H : wp (F_X13_deal t x1 x2 x3 x4) (fun r => Q (some (eI r.1)) r.2)) : nC W (d + 4) 234 [eR (some (13, 0)), eI x1, eI x2, eI x3, eI x4] t bc bs Q := by
  refine nC_in (d := (d + 3)) (T := tX13_deal) (ls := [some (eR (some (13, 0))), some (eI x1), some (eI x2), some (eI x3), some (eI x4)]) rfl (Nat.le_of_ble_eq_true rfl) rfl (fun a0 e0 => ?_)
  unfold F_X13_deal at H
  refine nx_ld rfl rfl rfl rfl ?_
  refine nx_ld rfl rfl rfl rfl ?_
  refine nx_cVI (as := [eI x1]) (st' := []) rfl rfl (Nat.le_of_ble_eq_true rfl) rfl rfl (Nat.le_of_ble_eq_true rfl) (c0 := 13) rfl (by decide) H (fun Q H => TF_X13_isPlayer hW  H) (fun r21 H => ?_)
  refine nx_if rfl rfl (by rfl) H (fun H => ?_) (fun H => ?_)
  · refine nx_int (x := (-1)) rfl rfl ?_
    exact nx_rit rfl rfl H
  refine nx_ld rfl rfl rfl rfl ?_
  refine nx_ld rfl rfl rfl rfl ?_
  refine nx_cVI (as := [eI x2]) (st' := []) rfl rfl (Nat.le_of_ble_eq_true rfl) rfl rfl (Nat.le_of_ble_eq_true rfl) (c0 := 13) rfl (by decide) H (fun Q H => TF_X13_isClub hW  H) (fun r22 H => ?_)
  refine nx_if rfl rfl (by rfl) H (fun H => ?_) (fun H => ?_)
  · refine nx_int (x := (-1)) rfl rfl ?_
    exact nx_rit rfl rfl H
  refine nx_ld rfl rfl rfl rfl ?_
  refine nx_int (x := 0) rfl rfl ?_
  refine nx_int (x := 999999) rfl rfl ?_
  refine nx_cSI (as := [eI x3, eI 0, eI 999999]) (st' := []) rfl rfl (Nat.le_of_ble_eq_true rfl) rfl rfl (Nat.le_of_ble_eq_true rfl) H (fun Q H => TF_X13_in hW  H) (fun r23 H => ?_)
  refine nx_if rfl rfl (by rfl) H (fun H => ?_) (fun H => ?_)
  · refine nx_int (x := (-1)) rfl rfl ?_
    exact nx_rit rfl rfl H
  refine nx_ld rfl rfl rfl rfl ?_
  refine nx_int (x := (-1)) rfl rfl ?_
  refine nx_int (x := 5) rfl rfl ?_
  refine nx_cSI (as := [eI x4, eI (-1), eI 5]) (st' := []) rfl rfl (Nat.le_of_ble_eq_true rfl) rfl rfl (Nat.le_of_ble_eq_true rfl) H (fun Q H => TF_X13_in hW  H) (fun r24 H => ?_)
  refine nx_if rfl rfl (by rfl) H (fun H => ?_) (fun H => ?_)
  · refine nx_int (x := (-1)) rfl rfl ?_
    exact nx_rit rfl rfl H
  refine nx_ld rfl rfl rfl rfl ?_
  refine nx_ld rfl rfl rfl rfl ?_
  refine nx_getI rfl rfl rfl (by decide) ?_
  refine nx_icmp rfl rfl (by rfl) H (fun H => ?_) (fun H => ?_)
  · refine nx_int (x := (-1)) rfl rfl ?_
    exact nx_rit rfl rfl H
  refine nx_ld rfl rfl rfl rfl ?_
  refine nx_ld rfl rfl rfl rfl ?_
  refine nx_ld rfl rfl rfl rfl ?_
  refine nx_getI rfl rfl rfl (by decide) ?_
  refine nx_cVI (as := [eI x1, eI (tI t 1301 0)]) (st' := []) rfl rfl (Nat.le_of_ble_eq_true rfl) rfl rfl (Nat.le_of_ble_eq_true rfl) (c0 := 13) rfl (by decide) H (fun Q H => TF_X13_ownerOn hW  H) (fun r25 H => ?_)
  refine nx_if rfl rfl (by rfl) H (fun H => ?_) (fun H => ?_)
  · refine nx_int (x := (-1)) rfl rfl ?_
    exact nx_rit rfl rfl H
  refine nx_ld rfl rfl rfl rfl ?_
  refine nx_ld rfl rfl rfl rfl ?_
  refine nx_ld rfl rfl rfl rfl ?_
  refine nx_getI rfl rfl rfl (by decide) ?_
  refine nx_cVI (as := [eI x1, eI (tI t 1301 0)]) (st' := []) rfl rfl (Nat.le_of_ble_eq_true rfl) rfl rfl (Nat.le_of_ble_eq_true rfl) (c0 := 13) rfl (by decide) H (fun Q H => TF_X13_ownerOn hW  H) (fun r26 H => ?_)
  refine nx_ld rfl rfl rfl rfl ?_
  refine nx_icmp rfl rfl (by rfl) H (fun H => ?_) (fun H => ?_)
  · refine nx_ld rfl rfl rfl rfl ?_
    refine nx_getI rfl rfl rfl (by decide) ?_
    refine nx_int (x := 6) rfl rfl ?_
    refine nx_icmp rfl rfl (by rfl) H (fun H => ?_) (fun H => ?_)
    · refine nx_ld rfl rfl rfl rfl ?_
      refine nx_getFix rfl rfl rfl (by decide) (by rw [hW]; rfl) rfl ?_
      refine nx_ld rfl rfl rfl rfl ?_
      refine nx_getI rfl rfl rfl (by decide) ?_
      refine nx_ld rfl rfl rfl rfl ?_
      refine nx_iast (p := (3371, 0)) rfl rfl (Nat.le_of_ble_eq_true rfl) (Nat.le_of_ble_eq_true rfl) rfl H (fun t27 H => ?_)
      refine nx_ld rfl rfl rfl rfl ?_
      show nX _ _ _ _ _ _ 96 _ _ _ _ _
      refine nx_getFix rfl rfl rfl (by decide) (by rw [hW]; rfl) rfl ?_
      refine nx_ld rfl rfl rfl rfl ?_
      refine nx_getI rfl rfl rfl (by decide) ?_
      refine nx_ld rfl rfl rfl rfl ?_
      refine nx_iast (p := (3372, 0)) rfl rfl (Nat.le_of_ble_eq_true rfl) (Nat.le_of_ble_eq_true rfl) rfl H (fun t28 H => ?_)
      refine nx_ld rfl rfl rfl rfl ?_
      refine nx_getFix rfl rfl rfl (by decide) (by rw [hW]; rfl) rfl ?_
      refine nx_ld rfl rfl rfl rfl ?_
      show nX _ _ _ _ _ _ 110 _ _ _ _ _
      refine nx_getI rfl rfl rfl (by decide) ?_
      refine nx_ld rfl rfl rfl rfl ?_
      refine nx_iast (p := (3373, 0)) rfl rfl (Nat.le_of_ble_eq_true rfl) (Nat.le_of_ble_eq_true rfl) rfl H (fun t29 H => ?_)
      refine nx_ld rfl rfl rfl rfl ?_
      refine nx_getFix rfl rfl rfl (by decide) (by rw [hW]; rfl) rfl ?_
      refine nx_ld rfl rfl rfl rfl ?_
      refine nx_getI rfl rfl rfl (by decide) ?_
      refine nx_ld rfl rfl rfl rfl ?_
      show nX _ _ _ _ _ _ 125 _ _ _ _ _
      refine nx_iast (p := (3374, 0)) rfl rfl (Nat.le_of_ble_eq_true rfl) (Nat.le_of_ble_eq_true rfl) rfl H (fun t30 H => ?_)
      refine nx_ld rfl rfl rfl rfl ?_
      refine nx_dup rfl rfl (Nat.ne_of_beq_eq_false rfl) ?_
      refine nx_getI rfl rfl rfl (by decide) ?_
      refine nx_int (x := 1) rfl rfl ?_
      refine nx_ii rfl rfl ?_
      refine nx_putI rfl rfl rfl (by decide) H (fun t31 H => ?_)
      refine nx_ld rfl rfl rfl rfl ?_
      show nX _ _ _ _ _ _ 137 _ _ _ _ _
      refine nx_getI rfl rfl rfl (by decide) ?_
      exact nx_rit rfl rfl H
    refine nx_int (x := (-3)) rfl rfl ?_
    exact nx_rit rfl rfl H
  refine nx_int (x := (-1)) rfl rfl ?_
  exact nx_rit rfl rfl H
def B_X13_canAll_199 (k2 : TS → Int32 → Int32 → Option Int32) (t : TS) (v1 : Int32) (v2 : Int32) : Option Int32 := (k2 t v1 (v2 + 1))
theorem TB_X13_canAll_199 {W : NW} {d : Nat} {Q : Option NV → TS → Prop} {a0 : Nat → Nat → Nat} {e0 : Nat → Nat → Bool} {t : TS} {k2 : TS → Int32 → Int32 → Option Int32} {bc bs : Nat} (hW : W.2.2.2 = mm_fx) (hk2 : ∀ (v1 : Int32) (v2 : Int32) (v3 : Option NV) (v5 : Option NV), wp (k2 t v1 v2) (fun r => Q (some (eI r)) t) → nX W (d + 3) tX13_canAll Q a0 e0 2 [some (eR (some (13, 0))), some (eI v1), some (eI v2), v3, none, v5] [] t bc bs) : ∀ (v1 : Int32) (v2 : Int32) (v3 : Option NV) (v5 : Option NV), wp (B_X13_canAll_199 k2 t v1 v2) (fun r => Q (some (eI r)) t) → nX W (d + 3) tX13_canAll Q a0 e0 199 [some (eR (some (13, 0))), some (eI v1), some (eI v2), v3, none, v5] [] t bc bs := by
  intro v1 v2 v3 v5 H
  unfold B_X13_canAll_199 at H
  refine nx_iinc2 1 (ls' := [some (eR (some (13, 0))), some (eI v1), some (eI (v2 + 1)), v3, none, v5]) rfl rfl rfl rfl rfl ?_
  refine nx_goto rfl rfl ?_
  exact hk2 _ _ _ _ H
def B_X13_canAll_191 (k2 : TS → Int32 → Int32 → Option Int32) (t : TS) (v1 : Int32) (v2 : Int32) (v3 : Int64) : Option Int32 := (if 0 ≤ (lg_cmp v3 0) then (B_X13_canAll_199 k2 t v1 v2) else (some (0)))
theorem TB_X13_canAll_191 {W : NW} {d : Nat} {Q : Option NV → TS → Prop} {a0 : Nat → Nat → Nat} {e0 : Nat → Nat → Bool} {t : TS} {k2 : TS → Int32 → Int32 → Option Int32} {bc bs : Nat} (hW : W.2.2.2 = mm_fx) (hk2 : ∀ (v1 : Int32) (v2 : Int32) (v3 : Option NV) (v5 : Option NV), wp (k2 t v1 v2) (fun r => Q (some (eI r)) t) → nX W (d + 3) tX13_canAll Q a0 e0 2 [some (eR (some (13, 0))), some (eI v1), some (eI v2), v3, none, v5] [] t bc bs) : ∀ (v1 : Int32) (v2 : Int32) (v3 : Int64) (v5 : Int32), wp (B_X13_canAll_191 k2 t v1 v2 v3) (fun r => Q (some (eI r)) t) → nX W (d + 3) tX13_canAll Q a0 e0 191 [some (eR (some (13, 0))), some (eI v1), some (eI v2), some (eJ v3), none, some (eI v5)] [] t bc bs := by
  intro v1 v2 v3 v5 H
  unfold B_X13_canAll_191 at H
  refine nx_ld rfl rfl rfl rfl ?_
  refine nx_long (x := 0) rfl rfl ?_
  refine nx_lcmp rfl rfl ?_
  refine nx_if rfl rfl (by rfl) H (fun H => ?_) (fun H => ?_)
  · exact TB_X13_canAll_199 hW   hk2 _ _ _ _ H
  refine nx_int (x := 0) rfl rfl ?_
  exact nx_rzl rfl rfl (by decide) H
def B_X13_canAll_185 (k2 : TS → Int32 → Int32 → Option Int32) (k78 : TS → Int32 → Int32 → Int64 → Int32 → Option Int32) (t : TS) (v1 : Int32) (v2 : Int32) (v3 : Int64) (v5 : Int32) : Option Int32 := (k78 t v1 v2 v3 (v5 + 1))
theorem TB_X13_canAll_185 {W : NW} {d : Nat} {Q : Option NV → TS → Prop} {a0 : Nat → Nat → Nat} {e0 : Nat → Nat → Bool} {t : TS} {k2 : TS → Int32 → Int32 → Option Int32} {k78 : TS → Int32 → Int32 → Int64 → Int32 → Option Int32} {bc bs : Nat} (hW : W.2.2.2 = mm_fx) (hk2 : ∀ (v1 : Int32) (v2 : Int32) (v3 : Option NV) (v5 : Option NV), wp (k2 t v1 v2) (fun r => Q (some (eI r)) t) → nX W (d + 3) tX13_canAll Q a0 e0 2 [some (eR (some (13, 0))), some (eI v1), some (eI v2), v3, none, v5] [] t bc bs) (hk78 : ∀ (v1 : Int32) (v2 : Int32) (v3 : Int64) (v5 : Int32), wp (k78 t v1 v2 v3 v5) (fun r => Q (some (eI r)) t) → nX W (d + 3) tX13_canAll Q a0 e0 78 [some (eR (some (13, 0))), some (eI v1), some (eI v2), some (eJ v3), none, some (eI v5)] [] t bc bs) : ∀ (v1 : Int32) (v2 : Int32) (v3 : Int64) (v5 : Int32), wp (B_X13_canAll_185 k2 k78 t v1 v2 v3 v5) (fun r => Q (some (eI r)) t) → nX W (d + 3) tX13_canAll Q a0 e0 185 [some (eR (some (13, 0))), some (eI v1), some (eI v2), some (eJ v3), none, some (eI v5)] [] t bc bs := by
  intro v1 v2 v3 v5 H
  unfold B_X13_canAll_185 at H
  refine nx_iinc2 1 (ls' := [some (eR (some (13, 0))), some (eI v1), some (eI v2), some (eJ v3), none, some (eI (v5 + 1))]) rfl rfl rfl rfl rfl ?_
  refine nx_goto rfl rfl ?_
  exact hk78 _ _ _ _ H
def B_X13_canAll_150 (k2 : TS → Int32 → Int32 → Option Int32) (k78 : TS → Int32 → Int32 → Int64 → Int32 → Option Int32) (t : TS) (v1 : Int32) (v2 : Int32) (v3 : Int64) (v5 : Int32) : Option Int32 := (gd v5 (tL t 3371 0) (Option.bind (F_X13_ownerOn t (tA t 3371 0 v5.toNatClampNeg) (tI t 1301 0)) (fun r21 => (gd v2 (tL t 3372 0) (if ¬ r21 = (tA t 3372 0 v2.toNatClampNeg) then (B_X13_canAll_185 k2 k78 t v1 v2 v3 v5) else (gd v5 (tL t 3373 0) (B_X13_canAll_185 k2 k78 t v1 v2 (v3 + ((tA t 3373 0 v5.toNatClampNeg).toInt64)) v5)))))))
theorem TB_X13_canAll_150 {W : NW} {d : Nat} {Q : Option NV → TS → Prop} {a0 : Nat → Nat → Nat} {e0 : Nat → Nat → Bool} {t : TS} {k2 : TS → Int32 → Int32 → Option Int32} {k78 : TS → Int32 → Int32 → Int64 → Int32 → Option Int32} {bc bs : Nat} (hW : W.2.2.2 = mm_fx) (hk2 : ∀ (v1 : Int32) (v2 : Int32) (v3 : Option NV) (v5 : Option NV), wp (k2 t v1 v2) (fun r => Q (some (eI r)) t) → nX W (d + 3) tX13_canAll Q a0 e0 2 [some (eR (some (13, 0))), some (eI v1), some (eI v2), v3, none, v5] [] t bc bs) (hk78 : ∀ (v1 : Int32) (v2 : Int32) (v3 : Int64) (v5 : Int32), wp (k78 t v1 v2 v3 v5) (fun r => Q (some (eI r)) t) → nX W (d + 3) tX13_canAll Q a0 e0 78 [some (eR (some (13, 0))), some (eI v1), some (eI v2), some (eJ v3), none, some (eI v5)] [] t bc bs) : ∀ (v1 : Int32) (v2 : Int32) (v3 : Int64) (v5 : Int32), wp (B_X13_canAll_150 k2 k78 t v1 v2 v3 v5) (fun r => Q (some (eI r)) t) → nX W (d + 3) tX13_canAll Q a0 e0 150 [some (eR (some (13, 0))), some (eI v1), some (eI v2), some (eJ v3), none, some (eI v5)] [] t bc bs := by
  intro v1 v2 v3 v5 H
  unfold B_X13_canAll_150 at H
  refine nx_ld rfl rfl rfl rfl ?_
  refine nx_ld rfl rfl rfl rfl ?_
  refine nx_getFix rfl rfl rfl (by decide) (by rw [hW]; rfl) rfl ?_
  refine nx_ld rfl rfl rfl rfl ?_
  refine nx_iald (p := (3371, 0)) rfl rfl (Nat.le_of_ble_eq_true rfl) (Nat.le_of_ble_eq_true rfl) rfl H (fun H => ?_)
  refine nx_ld rfl rfl rfl rfl ?_
  refine nx_getI rfl rfl rfl (by decide) ?_
  show nX _ _ _ _ _ _ 162 _ _ _ _ _
  refine nx_cVI (as := [eI (tA t 3371 0 v5.toNatClampNeg), eI (tI t 1301 0)]) (st' := []) rfl rfl (Nat.le_of_ble_eq_true rfl) rfl rfl (Nat.le_of_ble_eq_true rfl) (c0 := 13) rfl (by decide) H (fun Q H => TF_X13_ownerOn hW  H) (fun r21 H => ?_)
  refine nx_ld rfl rfl rfl rfl ?_
  refine nx_getFix rfl rfl rfl (by decide) (by rw [hW]; rfl) rfl ?_
  refine nx_ld rfl rfl rfl rfl ?_
  refine nx_iald (p := (3372, 0)) rfl rfl (Nat.le_of_ble_eq_true rfl) (Nat.le_of_ble_eq_true rfl) rfl H (fun H => ?_)
  refine nx_icmp rfl rfl (by rfl) H (fun H => ?_) (fun H => ?_)
  · exact TB_X13_canAll_185 hW   hk2 hk78 _ _ _ _ H
  refine nx_ld rfl rfl rfl rfl ?_
  refine nx_ld rfl rfl rfl rfl ?_
  refine nx_getFix rfl rfl rfl (by decide) (by rw [hW]; rfl) rfl ?_
  refine nx_ld rfl rfl rfl rfl ?_
  refine nx_iald (p := (3373, 0)) rfl rfl (Nat.le_of_ble_eq_true rfl) (Nat.le_of_ble_eq_true rfl) rfl H (fun H => ?_)
  refine nx_i2l rfl rfl ?_
  refine nx_jj rfl rfl ?_
  show nX _ _ _ _ _ _ 184 _ _ _ _ _
  refine nx_st2 (ls' := [some (eR (some (13, 0))), some (eI v1), some (eI v2), some (eJ (v3 + ((tA t 3373 0 v5.toNatClampNeg).toInt64))), none, some (eI v5)]) rfl rfl (Nat.le_of_ble_eq_true rfl) rfl ?_
  exact TB_X13_canAll_185 hW   hk2 hk78 _ _ _ _ H
def B_X13_canAll_123 (k2 : TS → Int32 → Int32 → Option Int32) (k78 : TS → Int32 → Int32 → Int64 → Int32 → Option Int32) (t : TS) (v1 : Int32) (v2 : Int32) (v3 : Int64) (v5 : Int32) : Option Int32 := (gd v5 (tL t 3372 0) (gd v2 (tL t 3372 0) (if ¬ (tA t 3372 0 v5.toNatClampNeg) = (tA t 3372 0 v2.toNatClampNeg) then (B_X13_canAll_150 k2 k78 t v1 v2 v3 v5) else (gd v5 (tL t 3373 0) (B_X13_canAll_150 k2 k78 t v1 v2 (v3 - ((tA t 3373 0 v5.toNatClampNeg).toInt64)) v5)))))
theorem TB_X13_canAll_123 {W : NW} {d : Nat} {Q : Option NV → TS → Prop} {a0 : Nat → Nat → Nat} {e0 : Nat → Nat → Bool} {t : TS} {k2 : TS → Int32 → Int32 → Option Int32} {k78 : TS → Int32 → Int32 → Int64 → Int32 → Option Int32} {bc bs : Nat} (hW : W.2.2.2 = mm_fx) (hk2 : ∀ (v1 : Int32) (v2 : Int32) (v3 : Option NV) (v5 : Option NV), wp (k2 t v1 v2) (fun r => Q (some (eI r)) t) → nX W (d + 3) tX13_canAll Q a0 e0 2 [some (eR (some (13, 0))), some (eI v1), some (eI v2), v3, none, v5] [] t bc bs) (hk78 : ∀ (v1 : Int32) (v2 : Int32) (v3 : Int64) (v5 : Int32), wp (k78 t v1 v2 v3 v5) (fun r => Q (some (eI r)) t) → nX W (d + 3) tX13_canAll Q a0 e0 78 [some (eR (some (13, 0))), some (eI v1), some (eI v2), some (eJ v3), none, some (eI v5)] [] t bc bs) : ∀ (v1 : Int32) (v2 : Int32) (v3 : Int64) (v5 : Int32), wp (B_X13_canAll_123 k2 k78 t v1 v2 v3 v5) (fun r => Q (some (eI r)) t) → nX W (d + 3) tX13_canAll Q a0 e0 123 [some (eR (some (13, 0))), some (eI v1), some (eI v2), some (eJ v3), none, some (eI v5)] [] t bc bs := by
  intro v1 v2 v3 v5 H
  unfold B_X13_canAll_123 at H
  refine nx_ld rfl rfl rfl rfl ?_
  refine nx_getFix rfl rfl rfl (by decide) (by rw [hW]; rfl) rfl ?_
  refine nx_ld rfl rfl rfl rfl ?_
  refine nx_iald (p := (3372, 0)) rfl rfl (Nat.le_of_ble_eq_true rfl) (Nat.le_of_ble_eq_true rfl) rfl H (fun H => ?_)
  refine nx_ld rfl rfl rfl rfl ?_
  refine nx_getFix rfl rfl rfl (by decide) (by rw [hW]; rfl) rfl ?_
  refine nx_ld rfl rfl rfl rfl ?_
  show nX _ _ _ _ _ _ 135 _ _ _ _ _
  refine nx_iald (p := (3372, 0)) rfl rfl (Nat.le_of_ble_eq_true rfl) (Nat.le_of_ble_eq_true rfl) rfl H (fun H => ?_)
  refine nx_icmp rfl rfl (by rfl) H (fun H => ?_) (fun H => ?_)
  · exact TB_X13_canAll_150 hW   hk2 hk78 _ _ _ _ H
  refine nx_ld rfl rfl rfl rfl ?_
  refine nx_ld rfl rfl rfl rfl ?_
  refine nx_getFix rfl rfl rfl (by decide) (by rw [hW]; rfl) rfl ?_
  refine nx_ld rfl rfl rfl rfl ?_
  refine nx_iald (p := (3373, 0)) rfl rfl (Nat.le_of_ble_eq_true rfl) (Nat.le_of_ble_eq_true rfl) rfl H (fun H => ?_)
  refine nx_i2l rfl rfl ?_
  refine nx_jj rfl rfl ?_
  show nX _ _ _ _ _ _ 149 _ _ _ _ _
  refine nx_st2 (ls' := [some (eR (some (13, 0))), some (eI v1), some (eI v2), some (eJ (v3 - ((tA t 3373 0 v5.toNatClampNeg).toInt64))), none, some (eI v5)]) rfl rfl (Nat.le_of_ble_eq_true rfl) rfl ?_
  exact TB_X13_canAll_150 hW   hk2 hk78 _ _ _ _ H
def BB_X13_canAll_78 (k2 : TS → Int32 → Int32 → Option Int32) (k78 : TS → Int32 → Int32 → Int64 → Int32 → Option Int32) (t : TS) (v1 : Int32) (v2 : Int32) (v3 : Int64) (v5 : Int32) : Option Int32 := (if (tI t 1370 0) ≤ v5 then (B_X13_canAll_191 k2 t v1 v2 v3) else (if ¬ ((v1 >>> (v5 &&& 31)) &&& 1) = 0 then (if v5 = v2 then (B_X13_canAll_123 k2 k78 t v1 v2 v3 v5) else (gd v5 (tL t 3371 0) (gd v2 (tL t 3371 0) (if ¬ (tA t 3371 0 v5.toNatClampNeg) = (tA t 3371 0 v2.toNatClampNeg) then (B_X13_canAll_123 k2 k78 t v1 v2 v3 v5) else (some (0)))))) else (B_X13_canAll_185 k2 k78 t v1 v2 v3 v5)))
theorem TBB_X13_canAll_78 {W : NW} {d : Nat} {Q : Option NV → TS → Prop} {a0 : Nat → Nat → Nat} {e0 : Nat → Nat → Bool} {t : TS} {k2 : TS → Int32 → Int32 → Option Int32} {k78 : TS → Int32 → Int32 → Int64 → Int32 → Option Int32} {bc bs : Nat} (hW : W.2.2.2 = mm_fx) (hk2 : ∀ (v1 : Int32) (v2 : Int32) (v3 : Option NV) (v5 : Option NV), wp (k2 t v1 v2) (fun r => Q (some (eI r)) t) → nX W (d + 3) tX13_canAll Q a0 e0 2 [some (eR (some (13, 0))), some (eI v1), some (eI v2), v3, none, v5] [] t bc bs) (hk78 : ∀ (v1 : Int32) (v2 : Int32) (v3 : Int64) (v5 : Int32), wp (k78 t v1 v2 v3 v5) (fun r => Q (some (eI r)) t) → nX W (d + 3) tX13_canAll Q a0 e0 78 [some (eR (some (13, 0))), some (eI v1), some (eI v2), some (eJ v3), none, some (eI v5)] [] t bc bs) : ∀ (v1 : Int32) (v2 : Int32) (v3 : Int64) (v5 : Int32), wp (BB_X13_canAll_78 k2 k78 t v1 v2 v3 v5) (fun r => Q (some (eI r)) t) → nX W (d + 3) tX13_canAll Q a0 e0 78 [some (eR (some (13, 0))), some (eI v1), some (eI v2), some (eJ v3), none, some (eI v5)] [] t bc bs := by
  intro v1 v2 v3 v5 H
  unfold BB_X13_canAll_78 at H
  refine nx_ld rfl rfl rfl rfl ?_
  refine nx_ld rfl rfl rfl rfl ?_
  refine nx_getI rfl rfl rfl (by decide) ?_
  refine nx_icmp rfl rfl (by rfl) H (fun H => ?_) (fun H => ?_)
  · exact TB_X13_canAll_191 hW   hk2 _ _ _ _ H
  refine nx_ld rfl rfl rfl rfl ?_
  refine nx_ld rfl rfl rfl rfl ?_
  refine nx_ii rfl rfl ?_
  refine nx_int (x := 1) rfl rfl ?_
  refine nx_ii rfl rfl ?_
  refine nx_if rfl rfl (by rfl) H (fun H => ?_) (fun H => ?_)
  · refine nx_ld rfl rfl rfl rfl ?_
    refine nx_ld rfl rfl rfl rfl ?_
    refine nx_icmp rfl rfl (by rfl) H (fun H => ?_) (fun H => ?_)
    · exact TB_X13_canAll_123 hW   hk2 hk78 _ _ _ _ H
    refine nx_ld rfl rfl rfl rfl ?_
    refine nx_getFix rfl rfl rfl (by decide) (by rw [hW]; rfl) rfl ?_
    refine nx_ld rfl rfl rfl rfl ?_
    refine nx_iald (p := (3371, 0)) rfl rfl (Nat.le_of_ble_eq_true rfl) (Nat.le_of_ble_eq_true rfl) rfl H (fun H => ?_)
    refine nx_ld rfl rfl rfl rfl ?_
    refine nx_getFix rfl rfl rfl (by decide) (by rw [hW]; rfl) rfl ?_
    refine nx_ld rfl rfl rfl rfl ?_
    show nX _ _ _ _ _ _ 117 _ _ _ _ _
    refine nx_iald (p := (3371, 0)) rfl rfl (Nat.le_of_ble_eq_true rfl) (Nat.le_of_ble_eq_true rfl) rfl H (fun H => ?_)
    refine nx_icmp rfl rfl (by rfl) H (fun H => ?_) (fun H => ?_)
    · exact TB_X13_canAll_123 hW   hk2 hk78 _ _ _ _ H
    refine nx_int (x := 0) rfl rfl ?_
    exact nx_rzl rfl rfl (by decide) H
  refine nx_goto rfl rfl ?_
  exact TB_X13_canAll_185 hW   hk2 hk78 _ _ _ _ H
def B_X13_canAll_78 (k2 : TS → Int32 → Int32 → Option Int32) : Nat → TS → Int32 → Int32 → Int64 → Int32 → Option Int32
  | 0 => fun _ _ _ _ _ => none
  | n + 1 => fun t v1 v2 v3 v5 => BB_X13_canAll_78 k2 (B_X13_canAll_78 k2 n) t v1 v2 v3 v5
theorem TB_X13_canAll_78 {W : NW} {d : Nat} {Q : Option NV → TS → Prop} {a0 : Nat → Nat → Nat} {e0 : Nat → Nat → Bool} {t : TS} {k2 : TS → Int32 → Int32 → Option Int32} {bc bs : Nat} (hW : W.2.2.2 = mm_fx) (hk2 : ∀ (v1 : Int32) (v2 : Int32) (v3 : Option NV) (v5 : Option NV), wp (k2 t v1 v2) (fun r => Q (some (eI r)) t) → nX W (d + 3) tX13_canAll Q a0 e0 2 [some (eR (some (13, 0))), some (eI v1), some (eI v2), v3, none, v5] [] t bc bs) : ∀ (n : Nat) (v1 : Int32) (v2 : Int32) (v3 : Int64) (v5 : Int32), wp (B_X13_canAll_78 k2 n t v1 v2 v3 v5) (fun r => Q (some (eI r)) t) → nX W (d + 3) tX13_canAll Q a0 e0 78 [some (eR (some (13, 0))), some (eI v1), some (eI v2), some (eJ v3), none, some (eI v5)] [] t bc bs := by
  intro n
  induction n with
  | zero => intro v1 v2 v3 v5 H; exact (wp_none H).elim
  | succ n ih =>
    intro v1 v2 v3 v5 H
    exact TBB_X13_canAll_78 hW   hk2 ih v1 v2 v3 v5 H
def B_X13_canAll_62 (k2 : TS → Int32 → Int32 → Option Int32) (t : TS) (v1 : Int32) (v2 : Int32) : Option Int32 := (gd v2 (tL t 3372 0) (gd (tA t 3372 0 v2.toNatClampNeg) (tL t 3310 0) (B_X13_canAll_78 k2 10000 t v1 v2 ((tA t 3310 0 (tA t 3372 0 v2.toNatClampNeg).toNatClampNeg).toInt64) 0)))
theorem TB_X13_canAll_62 {W : NW} {d : Nat} {Q : Option NV → TS → Prop} {a0 : Nat → Nat → Nat} {e0 : Nat → Nat → Bool} {t : TS} {k2 : TS → Int32 → Int32 → Option Int32} {bc bs : Nat} (hW : W.2.2.2 = mm_fx) (hk2 : ∀ (v1 : Int32) (v2 : Int32) (v3 : Option NV) (v5 : Option NV), wp (k2 t v1 v2) (fun r => Q (some (eI r)) t) → nX W (d + 3) tX13_canAll Q a0 e0 2 [some (eR (some (13, 0))), some (eI v1), some (eI v2), v3, none, v5] [] t bc bs) : ∀ (v1 : Int32) (v2 : Int32) (v3 : Option NV) (v5 : Option NV), wp (B_X13_canAll_62 k2 t v1 v2) (fun r => Q (some (eI r)) t) → nX W (d + 3) tX13_canAll Q a0 e0 62 [some (eR (some (13, 0))), some (eI v1), some (eI v2), v3, none, v5] [] t bc bs := by
  intro v1 v2 v3 v5 H
  unfold B_X13_canAll_62 at H
  refine nx_ld rfl rfl rfl rfl ?_
  refine nx_getFix rfl rfl rfl (by decide) (by rw [hW]; rfl) rfl ?_
  refine nx_ld rfl rfl rfl rfl ?_
  refine nx_getFix rfl rfl rfl (by decide) (by rw [hW]; rfl) rfl ?_
  refine nx_ld rfl rfl rfl rfl ?_
  refine nx_iald (p := (3372, 0)) rfl rfl (Nat.le_of_ble_eq_true rfl) (Nat.le_of_ble_eq_true rfl) rfl H (fun H => ?_)
  refine nx_iald (p := (3310, 0)) rfl rfl (Nat.le_of_ble_eq_true rfl) (Nat.le_of_ble_eq_true rfl) rfl H (fun H => ?_)
  show nX _ _ _ _ _ _ 73 _ _ _ _ _
  refine nx_i2l rfl rfl ?_
  refine nx_st2 (ls' := [some (eR (some (13, 0))), some (eI v1), some (eI v2), some (eJ ((tA t 3310 0 (tA t 3372 0 v2.toNatClampNeg).toNatClampNeg).toInt64)), none, v5]) rfl rfl (Nat.le_of_ble_eq_true rfl) rfl ?_
  refine nx_int (x := 0) rfl rfl ?_
  refine nx_st (ls' := [some (eR (some (13, 0))), some (eI v1), some (eI v2), some (eJ ((tA t 3310 0 (tA t 3372 0 v2.toNatClampNeg).toNatClampNeg).toInt64)), none, some (eI 0)]) rfl rfl rfl (Nat.le_of_ble_eq_true rfl) rfl ?_
  exact TB_X13_canAll_78 hW   hk2 10000 _ _ _ _ H
def BB_X13_canAll_2 (k2 : TS → Int32 → Int32 → Option Int32) (t : TS) (v1 : Int32) (v2 : Int32) : Option Int32 := (if (tI t 1370 0) ≤ v2 then (some (1)) else (if ¬ ((v1 >>> (v2 &&& 31)) &&& 1) = 0 then (gd v2 (tL t 3371 0) (Option.bind (F_X13_ownerOn t (tA t 3371 0 v2.toNatClampNeg) (tI t 1301 0)) (fun r21 => (if r21 < 0 then (some (0)) else (gd v2 (tL t 3374 0) (if (tA t 3374 0 v2.toNatClampNeg) < 0 then (B_X13_canAll_62 k2 t v1 v2) else (gd v2 (tL t 3374 0) (if ¬ ((v1 >>> ((tA t 3374 0 v2.toNatClampNeg) &&& 31)) &&& 1) = 0 then (B_X13_canAll_62 k2 t v1 v2) else (some (0)))))))))) else (B_X13_canAll_199 k2 t v1 v2)))
theorem TBB_X13_canAll_2 {W : NW} {d : Nat} {Q : Option NV → TS → Prop} {a0 : Nat → Nat → Nat} {e0 : Nat → Nat → Bool} {t : TS} {k2 : TS → Int32 → Int32 → Option Int32} {bc bs : Nat} (hW : W.2.2.2 = mm_fx) (hk2 : ∀ (v1 : Int32) (v2 : Int32) (v3 : Option NV) (v5 : Option NV), wp (k2 t v1 v2) (fun r => Q (some (eI r)) t) → nX W (d + 3) tX13_canAll Q a0 e0 2 [some (eR (some (13, 0))), some (eI v1), some (eI v2), v3, none, v5] [] t bc bs) : ∀ (v1 : Int32) (v2 : Int32) (v3 : Option NV) (v5 : Option NV), wp (BB_X13_canAll_2 k2 t v1 v2) (fun r => Q (some (eI r)) t) → nX W (d + 3) tX13_canAll Q a0 e0 2 [some (eR (some (13, 0))), some (eI v1), some (eI v2), v3, none, v5] [] t bc bs := by
  intro v1 v2 v3 v5 H
  unfold BB_X13_canAll_2 at H
  refine nx_ld rfl rfl rfl rfl ?_
  refine nx_ld rfl rfl rfl rfl ?_
  refine nx_getI rfl rfl rfl (by decide) ?_
  refine nx_icmp rfl rfl (by rfl) H (fun H => ?_) (fun H => ?_)
  · refine nx_int (x := 1) rfl rfl ?_
    exact nx_rzl rfl rfl (by decide) H
  refine nx_ld rfl rfl rfl rfl ?_
  refine nx_ld rfl rfl rfl rfl ?_
  refine nx_ii rfl rfl ?_
  refine nx_int (x := 1) rfl rfl ?_
  refine nx_ii rfl rfl ?_
  refine nx_if rfl rfl (by rfl) H (fun H => ?_) (fun H => ?_)
  · refine nx_ld rfl rfl rfl rfl ?_
    refine nx_ld rfl rfl rfl rfl ?_
    refine nx_getFix rfl rfl rfl (by decide) (by rw [hW]; rfl) rfl ?_
    refine nx_ld rfl rfl rfl rfl ?_
    refine nx_iald (p := (3371, 0)) rfl rfl (Nat.le_of_ble_eq_true rfl) (Nat.le_of_ble_eq_true rfl) rfl H (fun H => ?_)
    refine nx_ld rfl rfl rfl rfl ?_
    refine nx_getI rfl rfl rfl (by decide) ?_
    show nX _ _ _ _ _ _ 32 _ _ _ _ _
    refine nx_cVI (as := [eI (tA t 3371 0 v2.toNatClampNeg), eI (tI t 1301 0)]) (st' := []) rfl rfl (Nat.le_of_ble_eq_true rfl) rfl rfl (Nat.le_of_ble_eq_true rfl) (c0 := 13) rfl (by decide) H (fun Q H => TF_X13_ownerOn hW  H) (fun r21 H => ?_)
    refine nx_if rfl rfl (by rfl) H (fun H => ?_) (fun H => ?_)
    · refine nx_int (x := 0) rfl rfl ?_
      exact nx_rzl rfl rfl (by decide) H
    refine nx_ld rfl rfl rfl rfl ?_
    refine nx_getFix rfl rfl rfl (by decide) (by rw [hW]; rfl) rfl ?_
    refine nx_ld rfl rfl rfl rfl ?_
    refine nx_iald (p := (3374, 0)) rfl rfl (Nat.le_of_ble_eq_true rfl) (Nat.le_of_ble_eq_true rfl) rfl H (fun H => ?_)
    refine nx_if rfl rfl (by rfl) H (fun H => ?_) (fun H => ?_)
    · exact TB_X13_canAll_62 hW   hk2 _ _ _ _ H
    refine nx_ld rfl rfl rfl rfl ?_
    refine nx_ld rfl rfl rfl rfl ?_
    refine nx_getFix rfl rfl rfl (by decide) (by rw [hW]; rfl) rfl ?_
    refine nx_ld rfl rfl rfl rfl ?_
    refine nx_iald (p := (3374, 0)) rfl rfl (Nat.le_of_ble_eq_true rfl) (Nat.le_of_ble_eq_true rfl) rfl H (fun H => ?_)
    refine nx_ii rfl rfl ?_
    refine nx_int (x := 1) rfl rfl ?_
    show nX _ _ _ _ _ _ 56 _ _ _ _ _
    refine nx_ii rfl rfl ?_
    refine nx_if rfl rfl (by rfl) H (fun H => ?_) (fun H => ?_)
    · exact TB_X13_canAll_62 hW   hk2 _ _ _ _ H
    refine nx_int (x := 0) rfl rfl ?_
    exact nx_rzl rfl rfl (by decide) H
  refine nx_goto rfl rfl ?_
  exact TB_X13_canAll_199 hW   hk2 _ _ _ _ H
def B_X13_canAll_2 : Nat → TS → Int32 → Int32 → Option Int32
  | 0 => fun _ _ _ => none
  | n + 1 => fun t v1 v2 => BB_X13_canAll_2 (B_X13_canAll_2 n) t v1 v2
theorem TB_X13_canAll_2 {W : NW} {d : Nat} {Q : Option NV → TS → Prop} {a0 : Nat → Nat → Nat} {e0 : Nat → Nat → Bool} {t : TS} {bc bs : Nat} (hW : W.2.2.2 = mm_fx) : ∀ (n : Nat) (v1 : Int32) (v2 : Int32) (v3 : Option NV) (v5 : Option NV), wp (B_X13_canAll_2 n t v1 v2) (fun r => Q (some (eI r)) t) → nX W (d + 3) tX13_canAll Q a0 e0 2 [some (eR (some (13, 0))), some (eI v1), some (eI v2), v3, none, v5] [] t bc bs := by
  intro n
  induction n with
  | zero => intro v1 v2 v3 v5 H; exact (wp_none H).elim
  | succ n ih =>
    intro v1 v2 v3 v5 H
    exact TBB_X13_canAll_2 hW    ih v1 v2 v3 v5 H
def F_X13_canAll (t : TS) (x1 : Int32) : Option Int32 := (B_X13_canAll_2  10000 t x1 0)
theorem TF_X13_canAll {W : NW} {d : Nat} {t : TS} {x1 : Int32} {Q : Option NV → TS → Prop} {bc bs : Nat} (hW : W.2.2.2 = mm_fx) (H : wp (F_X13_canAll t x1) (fun r => Q (some (eI r)) t)) : nC W (d + 4) 235 [eR (some (13, 0)), eI x1] t bc bs Q := by
  refine nC_in (d := (d + 3)) (T := tX13_canAll) (ls := [some (eR (some (13, 0))), some (eI x1), none, none, none, none]) rfl (Nat.le_of_ble_eq_true rfl) rfl (fun a0 e0 => ?_)
  unfold F_X13_canAll at H
  refine nx_int (x := 0) rfl rfl ?_
  refine nx_st (ls' := [some (eR (some (13, 0))), some (eI x1), some (eI 0), none, none, none]) rfl rfl rfl (Nat.le_of_ble_eq_true rfl) rfl ?_
  exact TB_X13_canAll_2 hW    10000 _ _ _ _ H
def BB_X13_bitsOf_4 (k4 : TS → Int32 → Int32 → Option Int32) (t : TS) (v1 : Int32) (v2 : Int32) : Option Int32 := (if v2 = 0 then (some (v1)) else (k4 t (v1 + 1) (v2 &&& (v2 - 1))))
theorem TBB_X13_bitsOf_4 {W : NW} {d : Nat} {Q : Option NV → TS → Prop} {a0 : Nat → Nat → Nat} {e0 : Nat → Nat → Bool} {t : TS} {k4 : TS → Int32 → Int32 → Option Int32} {bc bs : Nat} (hW : W.2.2.2 = mm_fx) (hk4 : ∀ (v0 : Int32) (v1 : Int32) (v2 : Int32), wp (k4 t v1 v2) (fun r => Q (some (eI r)) t) → nX W d tX13_bitsOf Q a0 e0 4 [some (eI v0), some (eI v1), some (eI v2)] [] t bc bs) : ∀ (v0 : Int32) (v1 : Int32) (v2 : Int32), wp (BB_X13_bitsOf_4 k4 t v1 v2) (fun r => Q (some (eI r)) t) → nX W d tX13_bitsOf Q a0 e0 4 [some (eI v0), some (eI v1), some (eI v2)] [] t bc bs := by
  intro v0 v1 v2 H
  unfold BB_X13_bitsOf_4 at H
  refine nx_ld rfl rfl rfl rfl ?_
  refine nx_if rfl rfl (by rfl) H (fun H => ?_) (fun H => ?_)
  · refine nx_ld rfl rfl rfl rfl ?_
    exact nx_ri rfl rfl H
  refine nx_iinc2 1 (ls' := [some (eI v0), some (eI (v1 + 1)), some (eI v2)]) rfl rfl rfl rfl rfl ?_
  refine nx_ld rfl rfl rfl rfl ?_
  refine nx_ld rfl rfl rfl rfl ?_
  refine nx_int (x := 1) rfl rfl ?_
  refine nx_ii rfl rfl ?_
  refine nx_ii rfl rfl ?_
  refine nx_st (ls' := [some (eI v0), some (eI (v1 + 1)), some (eI (v2 &&& (v2 - 1)))]) rfl rfl rfl (Nat.le_of_ble_eq_true rfl) rfl ?_
  show nX _ _ _ _ _ _ 17 _ _ _ _ _
  refine nx_goto rfl rfl ?_
  exact hk4 _ _ _ H
def B_X13_bitsOf_4 : Nat → TS → Int32 → Int32 → Option Int32
  | 0 => fun _ _ _ => none
  | n + 1 => fun t v1 v2 => BB_X13_bitsOf_4 (B_X13_bitsOf_4 n) t v1 v2
theorem TB_X13_bitsOf_4 {W : NW} {d : Nat} {Q : Option NV → TS → Prop} {a0 : Nat → Nat → Nat} {e0 : Nat → Nat → Bool} {t : TS} {bc bs : Nat} (hW : W.2.2.2 = mm_fx) : ∀ (n : Nat) (v0 : Int32) (v1 : Int32) (v2 : Int32), wp (B_X13_bitsOf_4 n t v1 v2) (fun r => Q (some (eI r)) t) → nX W d tX13_bitsOf Q a0 e0 4 [some (eI v0), some (eI v1), some (eI v2)] [] t bc bs := by
  intro n
  induction n with
  | zero => intro v0 v1 v2 H; exact (wp_none H).elim
  | succ n ih =>
    intro v0 v1 v2 H
    exact TBB_X13_bitsOf_4 hW    ih v0 v1 v2 H
def F_X13_bitsOf (t : TS) (x1 : Int32) : Option Int32 := (B_X13_bitsOf_4  10000 t 0 x1)
theorem TF_X13_bitsOf {W : NW} {d : Nat} {t : TS} {x1 : Int32} {Q : Option NV → TS → Prop} {bc bs : Nat} (hW : W.2.2.2 = mm_fx) (H : wp (F_X13_bitsOf t x1) (fun r => Q (some (eI r)) t)) : nC W (d + 1) 236 [eI x1] t bc bs Q := by
  refine nC_in (d := d) (T := tX13_bitsOf) (ls := [some (eI x1), none, none]) rfl (Nat.le_of_ble_eq_true rfl) rfl (fun a0 e0 => ?_)
  unfold F_X13_bitsOf at H
  refine nx_int (x := 0) rfl rfl ?_
  refine nx_st (ls' := [some (eI x1), some (eI 0), none]) rfl rfl rfl (Nat.le_of_ble_eq_true rfl) rfl ?_
  refine nx_ld rfl rfl rfl rfl ?_
  refine nx_st (ls' := [some (eI x1), some (eI 0), some (eI x1)]) rfl rfl rfl (Nat.le_of_ble_eq_true rfl) rfl ?_
  exact TB_X13_bitsOf_4 hW    10000 _ _ _ H
def B_X13_chain_122 (t : TS) (v1 : Int32) : Option (Int32 × TS) := (nxt (uI t 1370 0 0) (fun t21 => (some (v1, t21))))
theorem TB_X13_chain_122 {W : NW} {d : Nat} {Q : Option NV → TS → Prop} {a0 : Nat → Nat → Nat} {e0 : Nat → Nat → Bool} {bc bs : Nat} (hW : W.2.2.2 = mm_fx) : ∀ (t : TS) (v1 : Int32) (v2 : Int32) (v3 : Int32) (v4 : Option NV) (v5 : Option NV), wp (B_X13_chain_122 t v1) (fun r => Q (some (eI r.1)) r.2) → nX W (d + 4) tX13_chain Q a0 e0 122 [some (eR (some (13, 0))), some (eI v1), some (eI v2), some (eI v3), v4, v5] [] t bc bs := by
  intro t v1 v2 v3 v4 v5 H
  unfold B_X13_chain_122 at H
  refine nx_ld rfl rfl rfl rfl ?_
  refine nx_int (x := 0) rfl rfl ?_
  refine nx_putI rfl rfl rfl (by decide) H (fun t21 H => ?_)
  refine nx_ld rfl rfl rfl rfl ?_
  exact nx_rit rfl rfl H
def B_X13_chain_116 (k15 : TS → Int32 → Int32 → Int32 → Option (Int32 × TS)) (t : TS) (v1 : Int32) (v2 : Int32) (v3 : Int32) : Option (Int32 × TS) := (k15 t v1 v2 (v3 + 1))
theorem TB_X13_chain_116 {W : NW} {d : Nat} {Q : Option NV → TS → Prop} {a0 : Nat → Nat → Nat} {e0 : Nat → Nat → Bool} {k15 : TS → Int32 → Int32 → Int32 → Option (Int32 × TS)} {bc bs : Nat} (hW : W.2.2.2 = mm_fx) (hk15 : ∀ (t : TS) (v1 : Int32) (v2 : Int32) (v3 : Int32) (v4 : Option NV) (v5 : Option NV), wp (k15 t v1 v2 v3) (fun r => Q (some (eI r.1)) r.2) → nX W (d + 4) tX13_chain Q a0 e0 15 [some (eR (some (13, 0))), some (eI v1), some (eI v2), some (eI v3), v4, v5] [] t bc bs) : ∀ (t : TS) (v1 : Int32) (v2 : Int32) (v3 : Int32) (v4 : Int32) (v5 : Int32), wp (B_X13_chain_116 k15 t v1 v2 v3) (fun r => Q (some (eI r.1)) r.2) → nX W (d + 4) tX13_chain Q a0 e0 116 [some (eR (some (13, 0))), some (eI v1), some (eI v2), some (eI v3), some (eI v4), some (eI v5)] [] t bc bs := by
  intro t v1 v2 v3 v4 v5 H
  unfold B_X13_chain_116 at H
  refine nx_iinc2 1 (ls' := [some (eR (some (13, 0))), some (eI v1), some (eI v2), some (eI (v3 + 1)), some (eI v4), some (eI v5)]) rfl rfl rfl rfl rfl ?_
  refine nx_goto rfl rfl ?_
  exact hk15 _ _ _ _ _ _ H
def B_X13_chain_100 (k15 : TS → Int32 → Int32 → Int32 → Option (Int32 × TS)) (t : TS) (v1 : Int32) (v2 : Int32) (v3 : Int32) (v4 : Int32) : Option (Int32 × TS) := (Option.bind (F_X13_canAll t v3) (fun r21 => (if ¬ r21 = 0 then (B_X13_chain_116 k15 t v3 v4 v3) else (B_X13_chain_116 k15 t v1 v2 v3))))
theorem TB_X13_chain_100 {W : NW} {d : Nat} {Q : Option NV → TS → Prop} {a0 : Nat → Nat → Nat} {e0 : Nat → Nat → Bool} {k15 : TS → Int32 → Int32 → Int32 → Option (Int32 × TS)} {bc bs : Nat} (hW : W.2.2.2 = mm_fx) (hk15 : ∀ (t : TS) (v1 : Int32) (v2 : Int32) (v3 : Int32) (v4 : Option NV) (v5 : Option NV), wp (k15 t v1 v2 v3) (fun r => Q (some (eI r.1)) r.2) → nX W (d + 4) tX13_chain Q a0 e0 15 [some (eR (some (13, 0))), some (eI v1), some (eI v2), some (eI v3), v4, v5] [] t bc bs) : ∀ (t : TS) (v1 : Int32) (v2 : Int32) (v3 : Int32) (v4 : Int32) (v5 : Int32), wp (B_X13_chain_100 k15 t v1 v2 v3 v4) (fun r => Q (some (eI r.1)) r.2) → nX W (d + 4) tX13_chain Q a0 e0 100 [some (eR (some (13, 0))), some (eI v1), some (eI v2), some (eI v3), some (eI v4), some (eI v5)] [] t bc bs := by
  intro t v1 v2 v3 v4 v5 H
  unfold B_X13_chain_100 at H
  refine nx_ld rfl rfl rfl rfl ?_
  refine nx_ld rfl rfl rfl rfl ?_
  refine nx_cVI (as := [eI v3]) (st' := []) rfl rfl (Nat.le_of_ble_eq_true rfl) rfl rfl (Nat.le_of_ble_eq_true rfl) (c0 := 13) rfl (by decide) H (fun Q H => TF_X13_canAll hW  H) (fun r21 H => ?_)
  refine nx_if rfl rfl (by rfl) H (fun H => ?_) (fun H => ?_)
  · refine nx_ld rfl rfl rfl rfl ?_
    refine nx_st (ls' := [some (eR (some (13, 0))), some (eI v3), some (eI v2), some (eI v3), some (eI v4), some (eI v5)]) rfl rfl rfl (Nat.le_of_ble_eq_true rfl) rfl ?_
    refine nx_ld rfl rfl rfl rfl ?_
    refine nx_st (ls' := [some (eR (some (13, 0))), some (eI v3), some (eI v4), some (eI v3), some (eI v4), some (eI v5)]) rfl rfl rfl (Nat.le_of_ble_eq_true rfl) rfl ?_
    exact TB_X13_chain_116 hW   hk15 _ _ _ _ _ _ H
  refine nx_goto rfl rfl ?_
  exact TB_X13_chain_116 hW   hk15 _ _ _ _ _ _ H
def B_X13_chain_72 (k15 : TS → Int32 → Int32 → Int32 → Option (Int32 × TS)) (t : TS) (v1 : Int32) (v2 : Int32) (v3 : Int32) (v4 : Int32) : Option (Int32 × TS) := (Option.bind (F_X13_bitsOf t v3) (fun r21 => (Option.bind (F_X13_bitsOf t v1) (fun r22 => (if r21 < r22 then (B_X13_chain_116 k15 t v1 v2 v3) else (Option.bind (F_X13_bitsOf t v3) (fun r23 => (Option.bind (F_X13_bitsOf t v1) (fun r24 => (if ¬ r23 = r24 then (B_X13_chain_100 k15 t v1 v2 v3 v4) else (if v2 ≤ v4 then (B_X13_chain_116 k15 t v1 v2 v3) else (B_X13_chain_100 k15 t v1 v2 v3 v4))))))))))))
theorem TB_X13_chain_72 {W : NW} {d : Nat} {Q : Option NV → TS → Prop} {a0 : Nat → Nat → Nat} {e0 : Nat → Nat → Bool} {k15 : TS → Int32 → Int32 → Int32 → Option (Int32 × TS)} {bc bs : Nat} (hW : W.2.2.2 = mm_fx) (hk15 : ∀ (t : TS) (v1 : Int32) (v2 : Int32) (v3 : Int32) (v4 : Option NV) (v5 : Option NV), wp (k15 t v1 v2 v3) (fun r => Q (some (eI r.1)) r.2) → nX W (d + 4) tX13_chain Q a0 e0 15 [some (eR (some (13, 0))), some (eI v1), some (eI v2), some (eI v3), v4, v5] [] t bc bs) : ∀ (t : TS) (v1 : Int32) (v2 : Int32) (v3 : Int32) (v4 : Int32) (v5 : Int32), wp (B_X13_chain_72 k15 t v1 v2 v3 v4) (fun r => Q (some (eI r.1)) r.2) → nX W (d + 4) tX13_chain Q a0 e0 72 [some (eR (some (13, 0))), some (eI v1), some (eI v2), some (eI v3), some (eI v4), some (eI v5)] [] t bc bs := by
  intro t v1 v2 v3 v4 v5 H
  unfold B_X13_chain_72 at H
  refine nx_ld rfl rfl rfl rfl ?_
  refine nx_cSI (as := [eI v3]) (st' := []) rfl rfl (Nat.le_of_ble_eq_true rfl) rfl rfl (Nat.le_of_ble_eq_true rfl) H (fun Q H => TF_X13_bitsOf hW  H) (fun r21 H => ?_)
  refine nx_ld rfl rfl rfl rfl ?_
  refine nx_cSI (as := [eI v1]) (st' := [eI r21]) rfl rfl (Nat.le_of_ble_eq_true rfl) rfl rfl (Nat.le_of_ble_eq_true rfl) H (fun Q H => TF_X13_bitsOf hW  H) (fun r22 H => ?_)
  refine nx_icmp rfl rfl (by rfl) H (fun H => ?_) (fun H => ?_)
  · exact TB_X13_chain_116 hW   hk15 _ _ _ _ _ _ H
  refine nx_ld rfl rfl rfl rfl ?_
  refine nx_cSI (as := [eI v3]) (st' := []) rfl rfl (Nat.le_of_ble_eq_true rfl) rfl rfl (Nat.le_of_ble_eq_true rfl) H (fun Q H => TF_X13_bitsOf hW  H) (fun r23 H => ?_)
  refine nx_ld rfl rfl rfl rfl ?_
  refine nx_cSI (as := [eI v1]) (st' := [eI r23]) rfl rfl (Nat.le_of_ble_eq_true rfl) rfl rfl (Nat.le_of_ble_eq_true rfl) H (fun Q H => TF_X13_bitsOf hW  H) (fun r24 H => ?_)
  refine nx_icmp rfl rfl (by rfl) H (fun H => ?_) (fun H => ?_)
  · exact TB_X13_chain_100 hW   hk15 _ _ _ _ _ _ H
  refine nx_ld rfl rfl rfl rfl ?_
  refine nx_ld rfl rfl rfl rfl ?_
  refine nx_icmp rfl rfl (by rfl) H (fun H => ?_) (fun H => ?_)
  · exact TB_X13_chain_116 hW   hk15 _ _ _ _ _ _ H
  exact TB_X13_chain_100 hW   hk15 _ _ _ _ _ _ H
def B_X13_chain_63 (k15 : TS → Int32 → Int32 → Int32 → Option (Int32 × TS)) (k31 : TS → Int32 → Int32 → Int32 → Int32 → Int32 → Option (Int32 × TS)) (t : TS) (v1 : Int32) (v2 : Int32) (v3 : Int32) (v5 : Int32) (s0 : Int32) (s1 : Int32) : Option (Int32 × TS) := (k31 t v1 v2 v3 (s1 + s0) (v5 + 1))
theorem TB_X13_chain_63 {W : NW} {d : Nat} {Q : Option NV → TS → Prop} {a0 : Nat → Nat → Nat} {e0 : Nat → Nat → Bool} {k15 : TS → Int32 → Int32 → Int32 → Option (Int32 × TS)} {k31 : TS → Int32 → Int32 → Int32 → Int32 → Int32 → Option (Int32 × TS)} {bc bs : Nat} (hW : W.2.2.2 = mm_fx) (hk15 : ∀ (t : TS) (v1 : Int32) (v2 : Int32) (v3 : Int32) (v4 : Option NV) (v5 : Option NV), wp (k15 t v1 v2 v3) (fun r => Q (some (eI r.1)) r.2) → nX W (d + 4) tX13_chain Q a0 e0 15 [some (eR (some (13, 0))), some (eI v1), some (eI v2), some (eI v3), v4, v5] [] t bc bs) (hk31 : ∀ (t : TS) (v1 : Int32) (v2 : Int32) (v3 : Int32) (v4 : Int32) (v5 : Int32), wp (k31 t v1 v2 v3 v4 v5) (fun r => Q (some (eI r.1)) r.2) → nX W (d + 4) tX13_chain Q a0 e0 31 [some (eR (some (13, 0))), some (eI v1), some (eI v2), some (eI v3), some (eI v4), some (eI v5)] [] t bc bs) : ∀ (t : TS) (v1 : Int32) (v2 : Int32) (v3 : Int32) (v4 : Int32) (v5 : Int32) (s0 : Int32) (s1 : Int32), wp (B_X13_chain_63 k15 k31 t v1 v2 v3 v5 s0 s1) (fun r => Q (some (eI r.1)) r.2) → nX W (d + 4) tX13_chain Q a0 e0 63 [some (eR (some (13, 0))), some (eI v1), some (eI v2), some (eI v3), some (eI v4), some (eI v5)] [eI s0, eI s1] t bc bs := by
  intro t v1 v2 v3 v4 v5 s0 s1 H
  unfold B_X13_chain_63 at H
  refine nx_ii rfl rfl ?_
  refine nx_st (ls' := [some (eR (some (13, 0))), some (eI v1), some (eI v2), some (eI v3), some (eI (s1 + s0)), some (eI v5)]) rfl rfl rfl (Nat.le_of_ble_eq_true rfl) rfl ?_
  refine nx_iinc2 1 (ls' := [some (eR (some (13, 0))), some (eI v1), some (eI v2), some (eI v3), some (eI (s1 + s0)), some (eI (v5 + 1))]) rfl rfl rfl rfl rfl ?_
  refine nx_goto rfl rfl ?_
  exact hk31 _ _ _ _ _ _ H
def BB_X13_chain_31 (k15 : TS → Int32 → Int32 → Int32 → Option (Int32 × TS)) (k31 : TS → Int32 → Int32 → Int32 → Int32 → Int32 → Option (Int32 × TS)) (t : TS) (v1 : Int32) (v2 : Int32) (v3 : Int32) (v4 : Int32) (v5 : Int32) : Option (Int32 × TS) := (if (tI t 1370 0) ≤ v5 then (B_X13_chain_72 k15 t v1 v2 v3 v4) else (if ¬ ((v3 >>> (v5 &&& 31)) &&& 1) = 1 then (B_X13_chain_63 k15 k31 t v1 v2 v3 v5 0 v4) else (gd v5 (tL t 3373 0) (B_X13_chain_63 k15 k31 t v1 v2 v3 v5 (tA t 3373 0 v5.toNatClampNeg) v4))))
theorem TBB_X13_chain_31 {W : NW} {d : Nat} {Q : Option NV → TS → Prop} {a0 : Nat → Nat → Nat} {e0 : Nat → Nat → Bool} {k15 : TS → Int32 → Int32 → Int32 → Option (Int32 × TS)} {k31 : TS → Int32 → Int32 → Int32 → Int32 → Int32 → Option (Int32 × TS)} {bc bs : Nat} (hW : W.2.2.2 = mm_fx) (hk15 : ∀ (t : TS) (v1 : Int32) (v2 : Int32) (v3 : Int32) (v4 : Option NV) (v5 : Option NV), wp (k15 t v1 v2 v3) (fun r => Q (some (eI r.1)) r.2) → nX W (d + 4) tX13_chain Q a0 e0 15 [some (eR (some (13, 0))), some (eI v1), some (eI v2), some (eI v3), v4, v5] [] t bc bs) (hk31 : ∀ (t : TS) (v1 : Int32) (v2 : Int32) (v3 : Int32) (v4 : Int32) (v5 : Int32), wp (k31 t v1 v2 v3 v4 v5) (fun r => Q (some (eI r.1)) r.2) → nX W (d + 4) tX13_chain Q a0 e0 31 [some (eR (some (13, 0))), some (eI v1), some (eI v2), some (eI v3), some (eI v4), some (eI v5)] [] t bc bs) : ∀ (t : TS) (v1 : Int32) (v2 : Int32) (v3 : Int32) (v4 : Int32) (v5 : Int32), wp (BB_X13_chain_31 k15 k31 t v1 v2 v3 v4 v5) (fun r => Q (some (eI r.1)) r.2) → nX W (d + 4) tX13_chain Q a0 e0 31 [some (eR (some (13, 0))), some (eI v1), some (eI v2), some (eI v3), some (eI v4), some (eI v5)] [] t bc bs := by
  intro t v1 v2 v3 v4 v5 H
  unfold BB_X13_chain_31 at H
  refine nx_ld rfl rfl rfl rfl ?_
  refine nx_ld rfl rfl rfl rfl ?_
  refine nx_getI rfl rfl rfl (by decide) ?_
  refine nx_icmp rfl rfl (by rfl) H (fun H => ?_) (fun H => ?_)
  · exact TB_X13_chain_72 hW   hk15 _ _ _ _ _ _ H
  refine nx_ld rfl rfl rfl rfl ?_
  refine nx_ld rfl rfl rfl rfl ?_
  refine nx_ld rfl rfl rfl rfl ?_
  refine nx_ii rfl rfl ?_
  refine nx_int (x := 1) rfl rfl ?_
  refine nx_ii rfl rfl ?_
  refine nx_int (x := 1) rfl rfl ?_
  show nX _ _ _ _ _ _ 49 _ _ _ _ _
  refine nx_icmp rfl rfl (by rfl) H (fun H => ?_) (fun H => ?_)
  · refine nx_int (x := 0) rfl rfl ?_
    exact TB_X13_chain_63 hW   hk15 hk31 _ _ _ _ _ _ _ _ H
  refine nx_ld rfl rfl rfl rfl ?_
  refine nx_getFix rfl rfl rfl (by decide) (by rw [hW]; rfl) rfl ?_
  refine nx_ld rfl rfl rfl rfl ?_
  refine nx_iald (p := (3373, 0)) rfl rfl (Nat.le_of_ble_eq_true rfl) (Nat.le_of_ble_eq_true rfl) rfl H (fun H => ?_)
  refine nx_goto rfl rfl ?_
  exact TB_X13_chain_63 hW   hk15 hk31 _ _ _ _ _ _ _ _ H
def B_X13_chain_31 (k15 : TS → Int32 → Int32 → Int32 → Option (Int32 × TS)) : Nat → TS → Int32 → Int32 → Int32 → Int32 → Int32 → Option (Int32 × TS)
  | 0 => fun _ _ _ _ _ _ => none
  | n + 1 => fun t v1 v2 v3 v4 v5 => BB_X13_chain_31 k15 (B_X13_chain_31 k15 n) t v1 v2 v3 v4 v5
theorem TB_X13_chain_31 {W : NW} {d : Nat} {Q : Option NV → TS → Prop} {a0 : Nat → Nat → Nat} {e0 : Nat → Nat → Bool} {k15 : TS → Int32 → Int32 → Int32 → Option (Int32 × TS)} {bc bs : Nat} (hW : W.2.2.2 = mm_fx) (hk15 : ∀ (t : TS) (v1 : Int32) (v2 : Int32) (v3 : Int32) (v4 : Option NV) (v5 : Option NV), wp (k15 t v1 v2 v3) (fun r => Q (some (eI r.1)) r.2) → nX W (d + 4) tX13_chain Q a0 e0 15 [some (eR (some (13, 0))), some (eI v1), some (eI v2), some (eI v3), v4, v5] [] t bc bs) : ∀ (n : Nat) (t : TS) (v1 : Int32) (v2 : Int32) (v3 : Int32) (v4 : Int32) (v5 : Int32), wp (B_X13_chain_31 k15 n t v1 v2 v3 v4 v5) (fun r => Q (some (eI r.1)) r.2) → nX W (d + 4) tX13_chain Q a0 e0 31 [some (eR (some (13, 0))), some (eI v1), some (eI v2), some (eI v3), some (eI v4), some (eI v5)] [] t bc bs := by
  intro n
  induction n with
  | zero => intro t v1 v2 v3 v4 v5 H; exact (wp_none H).elim
  | succ n ih =>
    intro t v1 v2 v3 v4 v5 H
    exact TBB_X13_chain_31 hW   hk15 ih t v1 v2 v3 v4 v5 H
def BB_X13_chain_15 (k15 : TS → Int32 → Int32 → Int32 → Option (Int32 × TS)) (t : TS) (v1 : Int32) (v2 : Int32) (v3 : Int32) : Option (Int32 × TS) := (if ((1 : Int32) <<< ((tI t 1370 0) &&& 31)) ≤ v3 then (B_X13_chain_122  t v1) else (B_X13_chain_31 k15 10000 t v1 v2 v3 0 0))
theorem TBB_X13_chain_15 {W : NW} {d : Nat} {Q : Option NV → TS → Prop} {a0 : Nat → Nat → Nat} {e0 : Nat → Nat → Bool} {k15 : TS → Int32 → Int32 → Int32 → Option (Int32 × TS)} {bc bs : Nat} (hW : W.2.2.2 = mm_fx) (hk15 : ∀ (t : TS) (v1 : Int32) (v2 : Int32) (v3 : Int32) (v4 : Option NV) (v5 : Option NV), wp (k15 t v1 v2 v3) (fun r => Q (some (eI r.1)) r.2) → nX W (d + 4) tX13_chain Q a0 e0 15 [some (eR (some (13, 0))), some (eI v1), some (eI v2), some (eI v3), v4, v5] [] t bc bs) : ∀ (t : TS) (v1 : Int32) (v2 : Int32) (v3 : Int32) (v4 : Option NV) (v5 : Option NV), wp (BB_X13_chain_15 k15 t v1 v2 v3) (fun r => Q (some (eI r.1)) r.2) → nX W (d + 4) tX13_chain Q a0 e0 15 [some (eR (some (13, 0))), some (eI v1), some (eI v2), some (eI v3), v4, v5] [] t bc bs := by
  intro t v1 v2 v3 v4 v5 H
  unfold BB_X13_chain_15 at H
  refine nx_ld rfl rfl rfl rfl ?_
  refine nx_int (x := 1) rfl rfl ?_
  refine nx_ld rfl rfl rfl rfl ?_
  refine nx_getI rfl rfl rfl (by decide) ?_
  refine nx_ii rfl rfl ?_
  refine nx_icmp rfl rfl (by rfl) H (fun H => ?_) (fun H => ?_)
  · exact TB_X13_chain_122 hW    _ _ _ _ _ _ H
  refine nx_int (x := 0) rfl rfl ?_
  refine nx_st (ls' := [some (eR (some (13, 0))), some (eI v1), some (eI v2), some (eI v3), some (eI 0), v5]) rfl rfl rfl (Nat.le_of_ble_eq_true rfl) rfl ?_
  refine nx_int (x := 0) rfl rfl ?_
  refine nx_st (ls' := [some (eR (some (13, 0))), some (eI v1), some (eI v2), some (eI v3), some (eI 0), some (eI 0)]) rfl rfl rfl (Nat.le_of_ble_eq_true rfl) rfl ?_
  exact TB_X13_chain_31 hW   hk15 10000 _ _ _ _ _ _ H
def B_X13_chain_15 : Nat → TS → Int32 → Int32 → Int32 → Option (Int32 × TS)
  | 0 => fun _ _ _ _ => none
  | n + 1 => fun t v1 v2 v3 => BB_X13_chain_15 (B_X13_chain_15 n) t v1 v2 v3
theorem TB_X13_chain_15 {W : NW} {d : Nat} {Q : Option NV → TS → Prop} {a0 : Nat → Nat → Nat} {e0 : Nat → Nat → Bool} {bc bs : Nat} (hW : W.2.2.2 = mm_fx) : ∀ (n : Nat) (t : TS) (v1 : Int32) (v2 : Int32) (v3 : Int32) (v4 : Option NV) (v5 : Option NV), wp (B_X13_chain_15 n t v1 v2 v3) (fun r => Q (some (eI r.1)) r.2) → nX W (d + 4) tX13_chain Q a0 e0 15 [some (eR (some (13, 0))), some (eI v1), some (eI v2), some (eI v3), v4, v5] [] t bc bs := by
  intro n
  induction n with
  | zero => intro t v1 v2 v3 v4 v5 H; exact (wp_none H).elim
  | succ n ih =>
    intro t v1 v2 v3 v4 v5 H
    exact TBB_X13_chain_15 hW    ih t v1 v2 v3 v4 v5 H
def F_X13_chain (t : TS) : Option (Int32 × TS) := (if ¬ (tI t 1370 0) = 0 then (B_X13_chain_15  10000 t 0 0 1) else (some ((-1), t)))
theorem TF_X13_chain {W : NW} {d : Nat} {t : TS} {Q : Option NV → TS → Prop} {bc bs : Nat} (hW : W.2.2.2 = mm_fx) (H : wp (F_X13_chain t) (fun r => Q (some (eI r.1)) r.2)) : nC W (d + 5) 237 [eR (some (13, 0))] t bc bs Q := by
  refine nC_in (d := (d + 4)) (T := tX13_chain) (ls := [some (eR (some (13, 0))), none, none, none, none, none]) rfl (Nat.le_of_ble_eq_true rfl) rfl (fun a0 e0 => ?_)
  unfold F_X13_chain at H
  refine nx_ld rfl rfl rfl rfl ?_
  refine nx_getI rfl rfl rfl (by decide) ?_
  refine nx_if rfl rfl (by rfl) H (fun H => ?_) (fun H => ?_)
  · refine nx_int (x := 0) rfl rfl ?_
    refine nx_st (ls' := [some (eR (some (13, 0))), some (eI 0), none, none, none, none]) rfl rfl rfl (Nat.le_of_ble_eq_true rfl) rfl ?_
    refine nx_int (x := 0) rfl rfl ?_
    refine nx_st (ls' := [some (eR (some (13, 0))), some (eI 0), some (eI 0), none, none, none]) rfl rfl rfl (Nat.le_of_ble_eq_true rfl) rfl ?_
    refine nx_int (x := 1) rfl rfl ?_
    refine nx_st (ls' := [some (eR (some (13, 0))), some (eI 0), some (eI 0), some (eI 1), none, none]) rfl rfl rfl (Nat.le_of_ble_eq_true rfl) rfl ?_
    exact TB_X13_chain_15 hW    10000 _ _ _ _ _ _ H
  refine nx_int (x := (-1)) rfl rfl ?_
  exact nx_rit rfl rfl H
