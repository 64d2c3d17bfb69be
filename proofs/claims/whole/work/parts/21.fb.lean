/-! functions of methods over the typed heap, and that the runs follow them (by program: wip/whole/walk.py) -/
def B_X3_pay_130 (t : TS) (v1 : Int32) (v2 : Int32) : Option (Int32 × TS) := (nxt (uI t 304 0 (tI t 302 0)) (fun t21 => (nxt (uI t21 302 0 0) (fun t22 => (some ((v1 - v2), t22))))))
theorem TB_X3_pay_130 {W : NW} {d : Nat} {Q : Option NV → TS → Prop} {a0 : Nat → Nat → Nat} {e0 : Nat → Nat → Bool} {bc bs : Nat} (hW : W.2.2.2 = mm_fx) : ∀ (t : TS) (v1 : Int32) (v2 : Int32) (v3 : Int32) (v4 : Option NV) (v5 : Option NV), wp (B_X3_pay_130 t v1 v2) (fun r => Q (some (eI r.1)) r.2) → nX W (d + 1) tX3_pay Q a0 e0 130 [some (eR (some (3, 0))), some (eI v1), some (eI v2), some (eI v3), v4, v5] [] t bc bs := by
  intro t v1 v2 v3 v4 v5 H
  unfold B_X3_pay_130 at H
  refine nx_ld rfl rfl rfl rfl ?_
  refine nx_ld rfl rfl rfl rfl ?_
  refine nx_getI rfl rfl rfl (by decide) ?_
  refine nx_putI rfl rfl rfl (by decide) H (fun t21 H => ?_)
  refine nx_ld rfl rfl rfl rfl ?_
  refine nx_int (x := 0) rfl rfl ?_
  refine nx_putI rfl rfl rfl (by decide) H (fun t22 H => ?_)
  show nX _ _ _ _ _ _ 143 _ _ _ _ _
  refine nx_ld rfl rfl rfl rfl ?_
  refine nx_ld rfl rfl rfl rfl ?_
  refine nx_ii rfl rfl ?_
  exact nx_rit rfl rfl H
def B_X3_pay_94 (k27 : TS → Int32 → Int32 → Int32 → Option (Int32 × TS)) (t : TS) (v1 : Int32) (v2 : Int32) (v3 : Int32) (v4 : Int32) : Option (Int32 × TS) := (Option.bind (F_X12_addParts t (if v4 < v2 then v4 else v2) (2305, 0) (tI t 302 0) (2303, 0)) (fun r21 => (k27 r21 v1 (v2 - (if v4 < v2 then v4 else v2)) (v3 + 1))))
theorem TB_X3_pay_94 {W : NW} {d : Nat} {Q : Option NV → TS → Prop} {a0 : Nat → Nat → Nat} {e0 : Nat → Nat → Bool} {k27 : TS → Int32 → Int32 → Int32 → Option (Int32 × TS)} {bc bs : Nat} (hW : W.2.2.2 = mm_fx) (hk27 : ∀ (t : TS) (v1 : Int32) (v2 : Int32) (v3 : Int32) (v4 : Option NV) (v5 : Option NV), wp (k27 t v1 v2 v3) (fun r => Q (some (eI r.1)) r.2) → nX W (d + 1) tX3_pay Q a0 e0 27 [some (eR (some (3, 0))), some (eI v1), some (eI v2), some (eI v3), v4, v5] [] t bc bs) : ∀ (t : TS) (v1 : Int32) (v2 : Int32) (v3 : Int32) (v4 : Int32) (v5 : Int32), wp (B_X3_pay_94 k27 t v1 v2 v3 v4) (fun r => Q (some (eI r.1)) r.2) → nX W (d + 1) tX3_pay Q a0 e0 94 [some (eR (some (3, 0))), some (eI v1), some (eI v2), some (eI v3), some (eI v4), some (eI v5)] [] t bc bs := by
  intro t v1 v2 v3 v4 v5 H
  unfold B_X3_pay_94 at H
  refine nx_ld rfl rfl rfl rfl ?_
  refine nx_ld rfl rfl rfl rfl ?_
  refine nx_ext2 rfl rfl (Nat.le_of_ble_eq_true rfl) ?_
  refine nx_st (ls' := [some (eR (some (3, 0))), some (eI v1), some (eI v2), some (eI v3), some (eI v4), some (eI (if v4 < v2 then v4 else v2))]) rfl rfl rfl (Nat.le_of_ble_eq_true rfl) rfl ?_
  refine nx_ld rfl rfl rfl rfl ?_
  refine nx_ld rfl rfl rfl rfl ?_
  refine nx_getFix rfl rfl rfl (by decide) (by rw [hW]; rfl) rfl ?_
  show nX _ _ _ _ _ _ 108 _ _ _ _ _
  refine nx_ld rfl rfl rfl rfl ?_
  refine nx_getI rfl rfl rfl (by decide) ?_
  refine nx_ld rfl rfl rfl rfl ?_
  refine nx_getFix rfl rfl rfl (by decide) (by rw [hW]; rfl) rfl ?_
  refine nx_cSVt (as := [eI (if v4 < v2 then v4 else v2), eR (some (2305, 0)), eI (tI t 302 0), eR (some (2303, 0))]) (st' := []) rfl rfl (Nat.le_of_ble_eq_true rfl) rfl rfl (Nat.le_of_ble_eq_true rfl) H (fun Q H => TF_X12_addParts hW (Nat.le_of_ble_eq_true rfl) (Nat.le_of_ble_eq_true rfl) rfl (Nat.le_of_ble_eq_true rfl) (Nat.le_of_ble_eq_true rfl) rfl H) (fun r21 H => ?_)
  refine nx_ld rfl rfl rfl rfl ?_
  refine nx_ld rfl rfl rfl rfl ?_
  refine nx_ii rfl rfl ?_
  show nX _ _ _ _ _ _ 123 _ _ _ _ _
  refine nx_st (ls' := [some (eR (some (3, 0))), some (eI v1), some (eI (v2 - (if v4 < v2 then v4 else v2))), some (eI v3), some (eI v4), some (eI (if v4 < v2 then v4 else v2))]) rfl rfl rfl (Nat.le_of_ble_eq_true rfl) rfl ?_
  refine nx_iinc2 1 (ls' := [some (eR (some (3, 0))), some (eI v1), some (eI (v2 - (if v4 < v2 then v4 else v2))), some (eI (v3 + 1)), some (eI v4), some (eI (if v4 < v2 then v4 else v2))]) rfl rfl rfl rfl rfl ?_
  refine nx_goto rfl rfl ?_
  exact hk27 _ _ _ _ _ _ H
def B_X3_pay_75 (k27 : TS → Int32 → Int32 → Int32 → Option (Int32 × TS)) (k38 : TS → Int32 → Int32 → Int32 → Int32 → Int32 → Option (Int32 × TS)) (t : TS) (v1 : Int32) (v2 : Int32) (v3 : Int32) (v4 : Int32) (v5 : Int32) (s0 : Int32) (s1 : Int32) : Option (Int32 × TS) := (gd s1 (tL t 2305 0) (nxt (uA t 2305 0 s1.toNatClampNeg s0) (fun t21 => (gd v5 (tL t21 2305 0) (k38 t21 v1 v2 v3 (v4 + (tA t21 2305 0 v5.toNatClampNeg)) (v5 + 1))))))
theorem TB_X3_pay_75 {W : NW} {d : Nat} {Q : Option NV → TS → Prop} {a0 : Nat → Nat → Nat} {e0 : Nat → Nat → Bool} {k27 : TS → Int32 → Int32 → Int32 → Option (Int32 × TS)} {k38 : TS → Int32 → Int32 → Int32 → Int32 → Int32 → Option (Int32 × TS)} {bc bs : Nat} (hW : W.2.2.2 = mm_fx) (hk27 : ∀ (t : TS) (v1 : Int32) (v2 : Int32) (v3 : Int32) (v4 : Option NV) (v5 : Option NV), wp (k27 t v1 v2 v3) (fun r => Q (some (eI r.1)) r.2) → nX W (d + 1) tX3_pay Q a0 e0 27 [some (eR (some (3, 0))), some (eI v1), some (eI v2), some (eI v3), v4, v5] [] t bc bs) (hk38 : ∀ (t : TS) (v1 : Int32) (v2 : Int32) (v3 : Int32) (v4 : Int32) (v5 : Int32), wp (k38 t v1 v2 v3 v4 v5) (fun r => Q (some (eI r.1)) r.2) → nX W (d + 1) tX3_pay Q a0 e0 38 [some (eR (some (3, 0))), some (eI v1), some (eI v2), some (eI v3), some (eI v4), some (eI v5)] [] t bc bs) : ∀ (t : TS) (v1 : Int32) (v2 : Int32) (v3 : Int32) (v4 : Int32) (v5 : Int32) (s0 : Int32) (s1 : Int32), wp (B_X3_pay_75 k27 k38 t v1 v2 v3 v4 v5 s0 s1) (fun r => Q (some (eI r.1)) r.2) → nX W (d + 1) tX3_pay Q a0 e0 75 [some (eR (some (3, 0))), some (eI v1), some (eI v2), some (eI v3), some (eI v4), some (eI v5)] [eI s0, eI s1, eR (some (2305, 0))] t bc bs := by
  intro t v1 v2 v3 v4 v5 s0 s1 H
  unfold B_X3_pay_75 at H
  refine nx_iast (p := (2305, 0)) rfl rfl (Nat.le_of_ble_eq_true rfl) (Nat.le_of_ble_eq_true rfl) rfl H (fun t21 H => ?_)
  refine nx_ld rfl rfl rfl rfl ?_
  refine nx_ld rfl rfl rfl rfl ?_
  refine nx_getFix rfl rfl rfl (by decide) (by rw [hW]; rfl) rfl ?_
  refine nx_ld rfl rfl rfl rfl ?_
  refine nx_iald (p := (2305, 0)) rfl rfl (Nat.le_of_ble_eq_true rfl) (Nat.le_of_ble_eq_true rfl) rfl H (fun H => ?_)
  refine nx_ii rfl rfl ?_
  show nX _ _ _ _ _ _ 86 _ _ _ _ _
  refine nx_st (ls' := [some (eR (some (3, 0))), some (eI v1), some (eI v2), some (eI v3), some (eI (v4 + (tA t21 2305 0 v5.toNatClampNeg))), some (eI v5)]) rfl rfl rfl (Nat.le_of_ble_eq_true rfl) rfl ?_
  refine nx_iinc2 1 (ls' := [some (eR (some (3, 0))), some (eI v1), some (eI v2), some (eI v3), some (eI (v4 + (tA t21 2305 0 v5.toNatClampNeg))), some (eI (v5 + 1))]) rfl rfl rfl rfl rfl ?_
  refine nx_goto rfl rfl ?_
  exact hk38 _ _ _ _ _ _ H
def BB_X3_pay_38 (k27 : TS → Int32 → Int32 → Int32 → Option (Int32 × TS)) (k38 : TS → Int32 → Int32 → Int32 → Int32 → Int32 → Option (Int32 × TS)) (t : TS) (v1 : Int32) (v2 : Int32) (v3 : Int32) (v4 : Int32) (v5 : Int32) : Option (Int32 × TS) := (if (tI t 302 0) ≤ v5 then (B_X3_pay_94 k27 t v1 v2 v3 v4) else (gd v5 (tL t 2300 0) (if ¬ (tA t 2300 0 v5.toNatClampNeg) = v3 then (B_X3_pay_75 k27 k38 t v1 v2 v3 v4 v5 0 v5) else (gd v5 (tL t 2301 0) (B_X3_pay_75 k27 k38 t v1 v2 v3 v4 v5 (tA t 2301 0 v5.toNatClampNeg) v5)))))
theorem TBB_X3_pay_38 {W : NW} {d : Nat} {Q : Option NV → TS → Prop} {a0 : Nat → Nat → Nat} {e0 : Nat → Nat → Bool} {k27 : TS → Int32 → Int32 → Int32 → Option (Int32 × TS)} {k38 : TS → Int32 → Int32 → Int32 → Int32 → Int32 → Option (Int32 × TS)} {bc bs : Nat} (hW : W.2.2.2 = mm_fx) (hk27 : ∀ (t : TS) (v1 : Int32) (v2 : Int32) (v3 : Int32) (v4 : Option NV) (v5 : Option NV), wp (k27 t v1 v2 v3) (fun r => Q (some (eI r.1)) r.2) → nX W (d + 1) tX3_pay Q a0 e0 27 [some (eR (some (3, 0))), some (eI v1), some (eI v2), some (eI v3), v4, v5] [] t bc bs) (hk38 : ∀ (t : TS) (v1 : Int32) (v2 : Int32) (v3 : Int32) (v4 : Int32) (v5 : Int32), wp (k38 t v1 v2 v3 v4 v5) (fun r => Q (some (eI r.1)) r.2) → nX W (d + 1) tX3_pay Q a0 e0 38 [some (eR (some (3, 0))), some (eI v1), some (eI v2), some (eI v3), some (eI v4), some (eI v5)] [] t bc bs) : ∀ (t : TS) (v1 : Int32) (v2 : Int32) (v3 : Int32) (v4 : Int32) (v5 : Int32), wp (BB_X3_pay_38 k27 k38 t v1 v2 v3 v4 v5) (fun r => Q (some (eI r.1)) r.2) → nX W (d + 1) tX3_pay Q a0 e0 38 [some (eR (some (3, 0))), some (eI v1), some (eI v2), some (eI v3), some (eI v4), some (eI v5)] [] t bc bs := by
  intro t v1 v2 v3 v4 v5 H
  unfold BB_X3_pay_38 at H
  refine nx_ld rfl rfl rfl rfl ?_
  refine nx_ld rfl rfl rfl rfl ?_
  refine nx_getI rfl rfl rfl (by decide) ?_
  refine nx_icmp rfl rfl (by rfl) H (fun H => ?_) (fun H => ?_)
  · exact TB_X3_pay_94 hW   hk27 _ _ _ _ _ _ H
  refine nx_ld rfl rfl rfl rfl ?_
  refine nx_getFix rfl rfl rfl (by decide) (by rw [hW]; rfl) rfl ?_
  refine nx_ld rfl rfl rfl rfl ?_
  refine nx_ld rfl rfl rfl rfl ?_
  refine nx_getFix rfl rfl rfl (by decide) (by rw [hW]; rfl) rfl ?_
  refine nx_ld rfl rfl rfl rfl ?_
  refine nx_iald (p := (2300, 0)) rfl rfl (Nat.le_of_ble_eq_true rfl) (Nat.le_of_ble_eq_true rfl) rfl H (fun H => ?_)
  show nX _ _ _ _ _ _ 60 _ _ _ _ _
  refine nx_ld rfl rfl rfl rfl ?_
  refine nx_icmp rfl rfl (by rfl) H (fun H => ?_) (fun H => ?_)
  · refine nx_int (x := 0) rfl rfl ?_
    exact TB_X3_pay_75 hW   hk27 hk38 _ _ _ _ _ _ _ _ H
  refine nx_ld rfl rfl rfl rfl ?_
  refine nx_getFix rfl rfl rfl (by decide) (by rw [hW]; rfl) rfl ?_
  refine nx_ld rfl rfl rfl rfl ?_
  refine nx_iald (p := (2301, 0)) rfl rfl (Nat.le_of_ble_eq_true rfl) (Nat.le_of_ble_eq_true rfl) rfl H (fun H => ?_)
  refine nx_goto rfl rfl ?_
  exact TB_X3_pay_75 hW   hk27 hk38 _ _ _ _ _ _ _ _ H
def B_X3_pay_38 (k27 : TS → Int32 → Int32 → Int32 → Option (Int32 × TS)) : Nat → TS → Int32 → Int32 → Int32 → Int32 → Int32 → Option (Int32 × TS)
  | 0 => fun _ _ _ _ _ _ => none
  | n + 1 => fun t v1 v2 v3 v4 v5 => BB_X3_pay_38 k27 (B_X3_pay_38 k27 n) t v1 v2 v3 v4 v5
theorem TB_X3_pay_38 {W : NW} {d : Nat} {Q : Option NV → TS → Prop} {a0 : Nat → Nat → Nat} {e0 : Nat → Nat → Bool} {k27 : TS → Int32 → Int32 → Int32 → Option (Int32 × TS)} {bc bs : Nat} (hW : W.2.2.2 = mm_fx) (hk27 : ∀ (t : TS) (v1 : Int32) (v2 : Int32) (v3 : Int32) (v4 : Option NV) (v5 : Option NV), wp (k27 t v1 v2 v3) (fun r => Q (some (eI r.1)) r.2) → nX W (d + 1) tX3_pay Q a0 e0 27 [some (eR (some (3, 0))), some (eI v1), some (eI v2), some (eI v3), v4, v5] [] t bc bs) : ∀ (n : Nat) (t : TS) (v1 : Int32) (v2 : Int32) (v3 : Int32) (v4 : Int32) (v5 : Int32), wp (B_X3_pay_38 k27 n t v1 v2 v3 v4 v5) (fun r => Q (some (eI r.1)) r.2) → nX W (d + 1) tX3_pay Q a0 e0 38 [some (eR (some (3, 0))), some (eI v1), some (eI v2), some (eI v3), some (eI v4), some (eI v5)] [] t bc bs := by
  intro n
  induction n with
  | zero => intro t v1 v2 v3 v4 v5 H; exact (wp_none H).elim
  | succ n ih =>
    intro t v1 v2 v3 v4 v5 H
    exact TBB_X3_pay_38 hW   hk27 ih t v1 v2 v3 v4 v5 H
def BB_X3_pay_27 (k27 : TS → Int32 → Int32 → Int32 → Option (Int32 × TS)) (t : TS) (v1 : Int32) (v2 : Int32) (v3 : Int32) : Option (Int32 × TS) := (if 3 < v3 then (B_X3_pay_130  t v1 v2) else (B_X3_pay_38 k27 10000 t v1 v2 v3 0 0))
theorem TBB_X3_pay_27 {W : NW} {d : Nat} {Q : Option NV → TS → Prop} {a0 : Nat → Nat → Nat} {e0 : Nat → Nat → Bool} {k27 : TS → Int32 → Int32 → Int32 → Option (Int32 × TS)} {bc bs : Nat} (hW : W.2.2.2 = mm_fx) (hk27 : ∀ (t : TS) (v1 : Int32) (v2 : Int32) (v3 : Int32) (v4 : Option NV) (v5 : Option NV), wp (k27 t v1 v2 v3) (fun r => Q (some (eI r.1)) r.2) → nX W (d + 1) tX3_pay Q a0 e0 27 [some (eR (some (3, 0))), some (eI v1), some (eI v2), some (eI v3), v4, v5] [] t bc bs) : ∀ (t : TS) (v1 : Int32) (v2 : Int32) (v3 : Int32) (v4 : Option NV) (v5 : Option NV), wp (BB_X3_pay_27 k27 t v1 v2 v3) (fun r => Q (some (eI r.1)) r.2) → nX W (d + 1) tX3_pay Q a0 e0 27 [some (eR (some (3, 0))), some (eI v1), some (eI v2), some (eI v3), v4, v5] [] t bc bs := by
  intro t v1 v2 v3 v4 v5 H
  unfold BB_X3_pay_27 at H
  refine nx_ld rfl rfl rfl rfl ?_
  refine nx_int (x := 3) rfl rfl ?_
  refine nx_icmp rfl rfl (by rfl) H (fun H => ?_) (fun H => ?_)
  · exact TB_X3_pay_130 hW    _ _ _ _ _ _ H
  refine nx_int (x := 0) rfl rfl ?_
  refine nx_st (ls' := [some (eR (some (3, 0))), some (eI v1), some (eI v2), some (eI v3), some (eI 0), v5]) rfl rfl rfl (Nat.le_of_ble_eq_true rfl) rfl ?_
  refine nx_int (x := 0) rfl rfl ?_
  refine nx_st (ls' := [some (eR (some (3, 0))), some (eI v1), some (eI v2), some (eI v3), some (eI 0), some (eI 0)]) rfl rfl rfl (Nat.le_of_ble_eq_true rfl) rfl ?_
  exact TB_X3_pay_38 hW   hk27 10000 _ _ _ _ _ _ H
def B_X3_pay_27 : Nat → TS → Int32 → Int32 → Int32 → Option (Int32 × TS)
  | 0 => fun _ _ _ _ => none
  | n + 1 => fun t v1 v2 v3 => BB_X3_pay_27 (B_X3_pay_27 n) t v1 v2 v3
theorem TB_X3_pay_27 {W : NW} {d : Nat} {Q : Option NV → TS → Prop} {a0 : Nat → Nat → Nat} {e0 : Nat → Nat → Bool} {bc bs : Nat} (hW : W.2.2.2 = mm_fx) : ∀ (n : Nat) (t : TS) (v1 : Int32) (v2 : Int32) (v3 : Int32) (v4 : Option NV) (v5 : Option NV), wp (B_X3_pay_27 n t v1 v2 v3) (fun r => Q (some (eI r.1)) r.2) → nX W (d + 1) tX3_pay Q a0 e0 27 [some (eR (some (3, 0))), some (eI v1), some (eI v2), some (eI v3), v4, v5] [] t bc bs := by
  intro n
  induction n with
  | zero => intro t v1 v2 v3 v4 v5 H; exact (wp_none H).elim
  | succ n ih =>
    intro t v1 v2 v3 v4 v5 H
    exact TBB_X3_pay_27 hW    ih t v1 v2 v3 v4 v5 H
def B_X3_pay_25 (t : TS) (v1 : Int32) (v2 : Int32) : Option (Int32 × TS) := (B_X3_pay_27  10000 t v1 v2 0)
theorem TB_X3_pay_25 {W : NW} {d : Nat} {Q : Option NV → TS → Prop} {a0 : Nat → Nat → Nat} {e0 : Nat → Nat → Bool} {bc bs : Nat} (hW : W.2.2.2 = mm_fx) : ∀ (t : TS) (v1 : Int32) (v2 : Int32) (v3 : Int32), wp (B_X3_pay_25 t v1 v2) (fun r => Q (some (eI r.1)) r.2) → nX W (d + 1) tX3_pay Q a0 e0 25 [some (eR (some (3, 0))), some (eI v1), some (eI v2), some (eI v3), none, none] [] t bc bs := by
  intro t v1 v2 v3 H
  unfold B_X3_pay_25 at H
  refine nx_int (x := 0) rfl rfl ?_
  refine nx_st (ls' := [some (eR (some (3, 0))), some (eI v1), some (eI v2), some (eI 0), none, none]) rfl rfl rfl (Nat.le_of_ble_eq_true rfl) rfl ?_
  exact TB_X3_pay_27 hW    10000 _ _ _ _ _ _ H
def BB_X3_pay_4 (k4 : TS → Int32 → Int32 → Int32 → Option (Int32 × TS)) (t : TS) (v1 : Int32) (v2 : Int32) (v3 : Int32) : Option (Int32 × TS) := (if (tI t 302 0) ≤ v3 then (B_X3_pay_25  t v1 v2) else (gd v3 (tL t 2303 0) (nxt (uA t 2303 0 v3.toNatClampNeg 0) (fun t21 => (k4 t21 v1 v2 (v3 + 1))))))
theorem TBB_X3_pay_4 {W : NW} {d : Nat} {Q : Option NV → TS → Prop} {a0 : Nat → Nat → Nat} {e0 : Nat → Nat → Bool} {k4 : TS → Int32 → Int32 → Int32 → Option (Int32 × TS)} {bc bs : Nat} (hW : W.2.2.2 = mm_fx) (hk4 : ∀ (t : TS) (v1 : Int32) (v2 : Int32) (v3 : Int32), wp (k4 t v1 v2 v3) (fun r => Q (some (eI r.1)) r.2) → nX W (d + 1) tX3_pay Q a0 e0 4 [some (eR (some (3, 0))), some (eI v1), some (eI v2), some (eI v3), none, none] [] t bc bs) : ∀ (t : TS) (v1 : Int32) (v2 : Int32) (v3 : Int32), wp (BB_X3_pay_4 k4 t v1 v2 v3) (fun r => Q (some (eI r.1)) r.2) → nX W (d + 1) tX3_pay Q a0 e0 4 [some (eR (some (3, 0))), some (eI v1), some (eI v2), some (eI v3), none, none] [] t bc bs := by
  intro t v1 v2 v3 H
  unfold BB_X3_pay_4 at H
  refine nx_ld rfl rfl rfl rfl ?_
  refine nx_ld rfl rfl rfl rfl ?_
  refine nx_getI rfl rfl rfl (by decide) ?_
  refine nx_icmp rfl rfl (by rfl) H (fun H => ?_) (fun H => ?_)
  · exact TB_X3_pay_25 hW    _ _ _ _ H
  refine nx_ld rfl rfl rfl rfl ?_
  refine nx_getFix rfl rfl rfl (by decide) (by rw [hW]; rfl) rfl ?_
  refine nx_ld rfl rfl rfl rfl ?_
  refine nx_int (x := 0) rfl rfl ?_
  refine nx_iast (p := (2303, 0)) rfl rfl (Nat.le_of_ble_eq_true rfl) (Nat.le_of_ble_eq_true rfl) rfl H (fun t21 H => ?_)
  refine nx_iinc2 1 (ls' := [some (eR (some (3, 0))), some (eI v1), some (eI v2), some (eI (v3 + 1)), none, none]) rfl rfl rfl rfl rfl ?_
  refine nx_goto rfl rfl ?_
  exact hk4 _ _ _ _ H
def B_X3_pay_4 : Nat → TS → Int32 → Int32 → Int32 → Option (Int32 × TS)
  | 0 => fun _ _ _ _ => none
  | n + 1 => fun t v1 v2 v3 => BB_X3_pay_4 (B_X3_pay_4 n) t v1 v2 v3
theorem TB_X3_pay_4 {W : NW} {d : Nat} {Q : Option NV → TS → Prop} {a0 : Nat → Nat → Nat} {e0 : Nat → Nat → Bool} {bc bs : Nat} (hW : W.2.2.2 = mm_fx) : ∀ (n : Nat) (t : TS) (v1 : Int32) (v2 : Int32) (v3 : Int32), wp (B_X3_pay_4 n t v1 v2 v3) (fun r => Q (some (eI r.1)) r.2) → nX W (d + 1) tX3_pay Q a0 e0 4 [some (eR (some (3, 0))), some (eI v1), some (eI v2), some (eI v3), none, none] [] t bc bs := by
  intro n
  induction n with
  | zero => intro t v1 v2 v3 H; exact (wp_none H).elim
  | succ n ih =>
    intro t v1 v2 v3 H
    exact TBB_X3_pay_4 hW    ih t v1 v2 v3 H
def F_X3_pay (t : TS) (x1 : Int32) : Option (Int32 × TS) := (B_X3_pay_4  10000 t x1 x1 0)
theorem TF_X3_pay {W : NW} {d : Nat} {t : TS} {x1 : Int32} {Q : Option NV → TS → Prop} {bc bs : Nat} (hW : W.2.2.2 = mm_fx) (H : wp (F_X3_pay t x1) (fun r => Q (some (eI r.1)) r.2)) : nC W (d + 2) 19 [eR (some (3, 0)), eI x1] t bc bs Q := by
  refine nC_in (d := (d + 1)) (T := tX3_pay) (ls := [some (eR (some (3, 0))), some (eI x1), none, none, none, none]) rfl (Nat.le_of_ble_eq_true rfl) rfl (fun a0 e0 => ?_)
  unfold F_X3_pay at H
  refine nx_ld rfl rfl rfl rfl ?_
  refine nx_st (ls' := [some (eR (some (3, 0))), some (eI x1), some (eI x1), none, none, none]) rfl rfl rfl (Nat.le_of_ble_eq_true rfl) rfl ?_
  refine nx_int (x := 0) rfl rfl ?_
  refine nx_st (ls' := [some (eR (some (3, 0))), some (eI x1), some (eI x1), some (eI 0), none, none]) rfl rfl rfl (Nat.le_of_ble_eq_true rfl) rfl ?_
  exact TB_X3_pay_4 hW    10000 _ _ _ _ H
def F_X4_init (t : TS) : Option TS := (gE (tE t 2400 0) (nxt (uN t 2400 0 6) (fun t21 => (nxt (uR t21 400 0 (some 0)) (fun t22 => (gE (tE t22 2401 0) (nxt (uN t22 2401 0 6) (fun t23 => (nxt (uR t23 401 0 (some 0)) (fun t24 => (gE (tE t24 2402 0) (nxt (uN t24 2402 0 6) (fun t25 => (nxt (uR t25 402 0 (some 0)) (fun t26 => (gE (tE t26 2403 0) (nxt (uN t26 2403 0 6) (fun t27 => (nxt (uR t27 403 0 (some 0)) (fun t28 => (gE (tE t28 2404 0) (nxt (uN t28 2404 0 6) (fun t29 => (nxt (uR t29 404 0 (some 0)) (fun t30 => (some t30))))))))))))))))))))))))))
theorem TF_X4_init {W : NW} {d : Nat} {t : TS} {Q : Option NV → TS → Prop} {bc bs : Nat} (hW : W.2.2.2 = (fun _ => false)) (H : wp (F_X4_init t) (fun r => Q none r)) : nC W (d + 1) 20 [eR (some (4, 0))] t (bc + 5) (bs + 30) Q := by
  refine nC_in (d := d) (T := tX4_init) (ls := [some (eR (some (4, 0)))]) rfl (Nat.le_of_ble_eq_true rfl) rfl (fun a0 e0 => ?_)
  unfold F_X4_init at H
  refine nx_ld rfl rfl rfl rfl ?_
  refine nx_objI rfl rfl (Nat.le_of_ble_eq_true rfl) ?_
  refine nx_ld rfl rfl rfl rfl ?_
  refine nx_int (x := 6) rfl rfl ?_
  refine nx_newaL 2400 0 6 rfl rfl (Nat.le_of_ble_eq_true rfl) (Nat.le_of_ble_eq_true rfl) rfl rfl (by decide) (Nat.le_of_ble_eq_true rfl) (by omega) (by omega) H (fun t21 H => ?_)
  refine nx_eq (bc' := bc + 4) (bs' := bs + 24) (by omega) (by omega) ?_
  refine nx_putR (f := 400) (o := (some 0)) rfl rfl rfl (by decide) (by rw [hW]) rfl (by decide) H (fun t22 H => ?_)
  refine nx_ld rfl rfl rfl rfl ?_
  show nX _ _ _ _ _ _ 14 _ _ _ _ _
  refine nx_int (x := 6) rfl rfl ?_
  refine nx_newaL 2401 0 6 rfl rfl (Nat.le_of_ble_eq_true rfl) (Nat.le_of_ble_eq_true rfl) rfl rfl (by decide) (Nat.le_of_ble_eq_true rfl) (by omega) (by omega) H (fun t23 H => ?_)
  refine nx_eq (bc' := bc + 3) (bs' := bs + 18) (by omega) (by omega) ?_
  refine nx_putR (f := 401) (o := (some 0)) rfl rfl rfl (by decide) (by rw [hW]) rfl (by decide) H (fun t24 H => ?_)
  refine nx_ld rfl rfl rfl rfl ?_
  refine nx_int (x := 6) rfl rfl ?_
  refine nx_newaL 2402 0 6 rfl rfl (Nat.le_of_ble_eq_true rfl) (Nat.le_of_ble_eq_true rfl) rfl rfl (by decide) (Nat.le_of_ble_eq_true rfl) (by omega) (by omega) H (fun t25 H => ?_)
  refine nx_eq (bc' := bc + 2) (bs' := bs + 12) (by omega) (by omega) ?_
  refine nx_putR (f := 402) (o := (some 0)) rfl rfl rfl (by decide) (by rw [hW]) rfl (by decide) H (fun t26 H => ?_)
  refine nx_ld rfl rfl rfl rfl ?_
  show nX _ _ _ _ _ _ 32 _ _ _ _ _
  refine nx_int (x := 6) rfl rfl ?_
  refine nx_newaL 2403 0 6 rfl rfl (Nat.le_of_ble_eq_true rfl) (Nat.le_of_ble_eq_true rfl) rfl rfl (by decide) (Nat.le_of_ble_eq_true rfl) (by omega) (by omega) H (fun t27 H => ?_)
  refine nx_eq (bc' := bc + 1) (bs' := bs + 6) (by omega) (by omega) ?_
  refine nx_putR (f := 403) (o := (some 0)) rfl rfl rfl (by decide) (by rw [hW]) rfl (by decide) H (fun t28 H => ?_)
  refine nx_ld rfl rfl rfl rfl ?_
  refine nx_int (x := 6) rfl rfl ?_
  refine nx_newaL 2404 0 6 rfl rfl (Nat.le_of_ble_eq_true rfl) (Nat.le_of_ble_eq_true rfl) rfl rfl (by decide) (Nat.le_of_ble_eq_true rfl) (by omega) (by omega) H (fun t29 H => ?_)
  refine nx_eq (bc' := bc) (bs' := bs) (by omega) (by omega) ?_
  refine nx_putR (f := 404) (o := (some 0)) rfl rfl rfl (by decide) (by rw [hW]) rfl (by decide) H (fun t30 H => ?_)
  exact nx_rv rfl rfl H
def F_X4_add (t : TS) (o1 : Option Nat) (o2 : Option Nat) (x3 : Int32) (x4 : Int32) : Option (Int32 × TS) := (if (tI t 405 0) < (Int32.ofNat (tL t 2403 0)) then (gd (tI t 405 0) (tL t 2400 0) (nxt (uQ t 2400 0 (tI t 405 0).toNatClampNeg o1) (fun t21 => (gd (tI t21 405 0) (tL t21 2402 0) (nxt (uQ t21 2402 0 (tI t21 405 0).toNatClampNeg o2) (fun t22 => (gd (tI t22 405 0) (tL t22 2403 0) (nxt (uA t22 2403 0 (tI t22 405 0).toNatClampNeg x3) (fun t23 => (gd (tI t23 405 0) (tL t23 2404 0) (nxt (uA t23 2404 0 (tI t23 405 0).toNatClampNeg x4) (fun t24 => (nxt (uI t24 405 0 ((tI t24 405 0) + 1)) (fun t25 => (some (1, t25)))))))))))))))) else (some (0, t)))
theorem TF_X4_add {W : NW} {d : Nat} {t : TS} {o1 : Option Nat} {o2 : Option Nat} {x3 : Int32} {x4 : Int32} {Q : Option NV → TS → Prop} {bc bs : Nat} (hW : W.2.2.2 = mm_fx) (H : wp (F_X4_add t o1 o2 x3 x4) (fun r => Q (some (eI r.1)) r.2)) : nC W (d + 1) 21 [eR (some (4, 0)), eO 1 o1, eO 1 o2, eI x3, eI x4] t bc bs Q := by
  refine nC_in (d := d) (T := tX4_add) (ls := [some (eR (some (4, 0))), some (eO 1 o1), some (eO 1 o2), some (eI x3), some (eI x4)]) rfl (Nat.le_of_ble_eq_true rfl) rfl (fun a0 e0 => ?_)
  unfold F_X4_add at H
  refine nx_ld rfl rfl rfl rfl ?_
  refine nx_getI rfl rfl rfl (by decide) ?_
  refine nx_ld rfl rfl rfl rfl ?_
  refine nx_getFix rfl rfl rfl (by decide) (by rw [hW]; rfl) rfl ?_
  refine nx_alen (p := (2403, 0)) rfl rfl (Nat.le_of_ble_eq_true rfl) (Nat.le_of_ble_eq_true rfl) (Nat.le_of_ble_eq_true rfl) ?_
  refine nx_icmp rfl rfl (by rfl) H (fun H => ?_) (fun H => ?_)
  · refine nx_ld rfl rfl rfl rfl ?_
    refine nx_getFix rfl rfl rfl (by decide) (by rw [hW]; rfl) rfl ?_
    refine nx_ld rfl rfl rfl rfl ?_
    refine nx_getI rfl rfl rfl (by decide) ?_
    refine nx_ld rfl rfl rfl rfl ?_
    refine nx_aast (c := 2400) (i := 0) (e := 1) (o := o1) rfl rfl (Nat.le_of_ble_eq_true rfl) (Nat.le_of_ble_eq_true rfl) (Nat.le_of_ble_eq_true rfl) rfl (by decide) H (fun t21 H => ?_)
    refine nx_ld rfl rfl rfl rfl ?_
    show nX _ _ _ _ _ _ 25 _ _ _ _ _
    refine nx_getFix rfl rfl rfl (by decide) (by rw [hW]; rfl) rfl ?_
    refine nx_ld rfl rfl rfl rfl ?_
    refine nx_getI rfl rfl rfl (by decide) ?_
    refine nx_ld rfl rfl rfl rfl ?_
    refine nx_aast (c := 2402) (i := 0) (e := 1) (o := o2) rfl rfl (Nat.le_of_ble_eq_true rfl) (Nat.le_of_ble_eq_true rfl) (Nat.le_of_ble_eq_true rfl) rfl (by decide) H (fun t22 H => ?_)
    refine nx_ld rfl rfl rfl rfl ?_
    refine nx_getFix rfl rfl rfl (by decide) (by rw [hW]; rfl) rfl ?_
    refine nx_ld rfl rfl rfl rfl ?_
    show nX _ _ _ _ _ _ 39 _ _ _ _ _
    refine nx_getI rfl rfl rfl (by decide) ?_
    refine nx_ld rfl rfl rfl rfl ?_
    refine nx_iast (p := (2403, 0)) rfl rfl (Nat.le_of_ble_eq_true rfl) (Nat.le_of_ble_eq_true rfl) rfl H (fun t23 H => ?_)
    refine nx_ld rfl rfl rfl rfl ?_
    refine nx_getFix rfl rfl rfl (by decide) (by rw [hW]; rfl) rfl ?_
    refine nx_ld rfl rfl rfl rfl ?_
    refine nx_getI rfl rfl rfl (by decide) ?_
    refine nx_ld rfl rfl rfl rfl ?_
    show nX _ _ _ _ _ _ 54 _ _ _ _ _
    refine nx_iast (p := (2404, 0)) rfl rfl (Nat.le_of_ble_eq_true rfl) (Nat.le_of_ble_eq_true rfl) rfl H (fun t24 H => ?_)
    refine nx_ld rfl rfl rfl rfl ?_
    refine nx_dup rfl rfl (Nat.ne_of_beq_eq_false rfl) ?_
    refine nx_getI rfl rfl rfl (by decide) ?_
    refine nx_int (x := 1) rfl rfl ?_
    refine nx_ii rfl rfl ?_
    refine nx_putI rfl rfl rfl (by decide) H (fun t25 H => ?_)
    refine nx_int (x := 1) rfl rfl ?_
    show nX _ _ _ _ _ _ 66 _ _ _ _ _
    exact nx_rzlt rfl rfl (by decide) H
  refine nx_int (x := 0) rfl rfl ?_
  exact nx_rzlt rfl rfl (by decide) H
def BB_X4_feesOf_4 (k4 : TS → Int32 → Int32 → Int32 → Option Int32) (t : TS) (v1 : Int32) (v2 : Int32) (v3 : Int32) : Option Int32 := (if (tI t 405 0) ≤ v3 then (some (v2)) else (gd v3 (tL t 2403 0) (k4 t v1 (v2 + (((v1 >>> (v3 &&& 31)) &&& 1) * (tA t 2403 0 v3.toNatClampNeg))) (v3 + 1))))
theorem TBB_X4_feesOf_4 {W : NW} {d : Nat} {Q : Option NV → TS → Prop} {a0 : Nat → Nat → Nat} {e0 : Nat → Nat → Bool} {t : TS} {k4 : TS → Int32 → Int32 → Int32 → Option Int32} {bc bs : Nat} (hW : W.2.2.2 = mm_fx) (hk4 : ∀ (v1 : Int32) (v2 : Int32) (v3 : Int32), wp (k4 t v1 v2 v3) (fun r => Q (some (eI r)) t) → nX W d tX4_feesOf Q a0 e0 4 [some (eR (some (4, 0))), some (eI v1), some (eI v2), some (eI v3)] [] t bc bs) : ∀ (v1 : Int32) (v2 : Int32) (v3 : Int32), wp (BB_X4_feesOf_4 k4 t v1 v2 v3) (fun r => Q (some (eI r)) t) → nX W d tX4_feesOf Q a0 e0 4 [some (eR (some (4, 0))), some (eI v1), some (eI v2), some (eI v3)] [] t bc bs := by
  intro v1 v2 v3 H
  unfold BB_X4_feesOf_4 at H
  refine nx_ld rfl rfl rfl rfl ?_
  refine nx_ld rfl rfl rfl rfl ?_
  refine nx_getI rfl rfl rfl (by decide) ?_
  refine nx_icmp rfl rfl (by rfl) H (fun H => ?_) (fun H => ?_)
  · refine nx_ld rfl rfl rfl rfl ?_
    exact nx_ri rfl rfl H
  refine nx_ld rfl rfl rfl rfl ?_
  refine nx_ld rfl rfl rfl rfl ?_
  refine nx_ld rfl rfl rfl rfl ?_
  refine nx_ii rfl rfl ?_
  refine nx_int (x := 1) rfl rfl ?_
  refine nx_ii rfl rfl ?_
  refine nx_ld rfl rfl rfl rfl ?_
  show nX _ _ _ _ _ _ 19 _ _ _ _ _
  refine nx_getFix rfl rfl rfl (by decide) (by rw [hW]; rfl) rfl ?_
  refine nx_ld rfl rfl rfl rfl ?_
  refine nx_iald (p := (2403, 0)) rfl rfl (Nat.le_of_ble_eq_true rfl) (Nat.le_of_ble_eq_true rfl) rfl H (fun H => ?_)
  refine nx_ii rfl rfl ?_
  refine nx_ii rfl rfl ?_
  refine nx_st (ls' := [some (eR (some (4, 0))), some (eI v1), some (eI (v2 + (((v1 >>> (v3 &&& 31)) &&& 1) * (tA t 2403 0 v3.toNatClampNeg)))), some (eI v3)]) rfl rfl rfl (Nat.le_of_ble_eq_true rfl) rfl ?_
  refine nx_iinc2 1 (ls' := [some (eR (some (4, 0))), some (eI v1), some (eI (v2 + (((v1 >>> (v3 &&& 31)) &&& 1) * (tA t 2403 0 v3.toNatClampNeg)))), some (eI (v3 + 1))]) rfl rfl rfl rfl rfl ?_
  refine nx_goto rfl rfl ?_
  exact hk4 _ _ _ H
def B_X4_feesOf_4 : Nat → TS → Int32 → Int32 → Int32 → Option Int32
  | 0 => fun _ _ _ _ => none
  | n + 1 => fun t v1 v2 v3 => BB_X4_feesOf_4 (B_X4_feesOf_4 n) t v1 v2 v3
theorem TB_X4_feesOf_4 {W : NW} {d : Nat} {Q : Option NV → TS → Prop} {a0 : Nat → Nat → Nat} {e0 : Nat → Nat → Bool} {t : TS} {bc bs : Nat} (hW : W.2.2.2 = mm_fx) : ∀ (n : Nat) (v1 : Int32) (v2 : Int32) (v3 : Int32), wp (B_X4_feesOf_4 n t v1 v2 v3) (fun r => Q (some (eI r)) t) → nX W d tX4_feesOf Q a0 e0 4 [some (eR (some (4, 0))), some (eI v1), some (eI v2), some (eI v3)] [] t bc bs := by
  intro n
  induction n with
  | zero => intro v1 v2 v3 H; exact (wp_none H).elim
  | succ n ih =>
    intro v1 v2 v3 H
    exact TBB_X4_feesOf_4 hW    ih v1 v2 v3 H
def F_X4_feesOf (t : TS) (x1 : Int32) : Option Int32 := (B_X4_feesOf_4  10000 t x1 0 0)
theorem TF_X4_feesOf {W : NW} {d : Nat} {t : TS} {x1 : Int32} {Q : Option NV → TS → Prop} {bc bs : Nat} (hW : W.2.2.2 = mm_fx) (H : wp (F_X4_feesOf t x1) (fun r => Q (some (eI r)) t)) : nC W (d + 1) 23 [eR (some (4, 0)), eI x1] t bc bs Q := by
  refine nC_in (d := d) (T := tX4_feesOf) (ls := [some (eR (some (4, 0))), some (eI x1), none, none]) rfl (Nat.le_of_ble_eq_true rfl) rfl (fun a0 e0 => ?_)
  unfold F_X4_feesOf at H
  refine nx_int (x := 0) rfl rfl ?_
  refine nx_st (ls' := [some (eR (some (4, 0))), some (eI x1), some (eI 0), none]) rfl rfl rfl (Nat.le_of_ble_eq_true rfl) rfl ?_
  refine nx_int (x := 0) rfl rfl ?_
  refine nx_st (ls' := [some (eR (some (4, 0))), some (eI x1), some (eI 0), some (eI 0)]) rfl rfl rfl (Nat.le_of_ble_eq_true rfl) rfl ?_
  exact TB_X4_feesOf_4 hW    10000 _ _ _ H
def B_X4_fits_157 (t : TS) (v3 : Int32) : Option Int32 := (if v3 < 0 then (some (0)) else (some (1)))
theorem TB_X4_fits_157 {W : NW} {d : Nat} {Q : Option NV → TS → Prop} {a0 : Nat → Nat → Nat} {e0 : Nat → Nat → Bool} {t : TS} {bc bs : Nat} (hW : W.2.2.2 = mm_fx) : ∀ (v1 : Int32) (v2 : Int32) (v3 : Int32) (v4 : Int32), wp (B_X4_fits_157 t v3) (fun r => Q (some (eI r)) t) → nX W d tX4_fits Q a0 e0 157 [some (eR (some (4, 0))), some (eI v1), some (eI v2), some (eI v3), some (eI v4)] [] t bc bs := by
  intro v1 v2 v3 v4 H
  unfold B_X4_fits_157 at H
  refine nx_ld rfl rfl rfl rfl ?_
  refine nx_if rfl rfl (by rfl) H (fun H => ?_) (fun H => ?_)
  · refine nx_int (x := 0) rfl rfl ?_
    exact nx_rzl rfl rfl (by decide) H
  refine nx_int (x := 1) rfl rfl ?_
  refine nx_goto rfl rfl ?_
  exact nx_rzl rfl rfl (by decide) H
def B_X4_fits_151 (k46 : TS → Int32 → Int32 → Int32 → Int32 → Option Int32) (t : TS) (v1 : Int32) (v2 : Int32) (v3 : Int32) (v4 : Int32) : Option Int32 := (k46 t v1 v2 v3 (v4 + 1))
theorem TB_X4_fits_151 {W : NW} {d : Nat} {Q : Option NV → TS → Prop} {a0 : Nat → Nat → Nat} {e0 : Nat → Nat → Bool} {t : TS} {k46 : TS → Int32 → Int32 → Int32 → Int32 → Option Int32} {bc bs : Nat} (hW : W.2.2.2 = mm_fx) (hk46 : ∀ (v1 : Int32) (v2 : Int32) (v3 : Int32) (v4 : Int32), wp (k46 t v1 v2 v3 v4) (fun r => Q (some (eI r)) t) → nX W d tX4_fits Q a0 e0 46 [some (eR (some (4, 0))), some (eI v1), some (eI v2), some (eI v3), some (eI v4)] [] t bc bs) : ∀ (v1 : Int32) (v2 : Int32) (v3 : Int32) (v4 : Int32), wp (B_X4_fits_151 k46 t v1 v2 v3 v4) (fun r => Q (some (eI r)) t) → nX W d tX4_fits Q a0 e0 151 [some (eR (some (4, 0))), some (eI v1), some (eI v2), some (eI v3), some (eI v4)] [] t bc bs := by
  intro v1 v2 v3 v4 H
  unfold B_X4_fits_151 at H
  refine nx_iinc2 1 (ls' := [some (eR (some (4, 0))), some (eI v1), some (eI v2), some (eI v3), some (eI (v4 + 1))]) rfl rfl rfl rfl rfl ?_
  refine nx_goto rfl rfl ?_
  exact hk46 _ _ _ _ H
def B_X4_fits_149 (k46 : TS → Int32 → Int32 → Int32 → Int32 → Option Int32) (t : TS) (v1 : Int32) (v2 : Int32) (v4 : Int32) (s0 : Int32) (s1 : Int32) : Option Int32 := (B_X4_fits_151 k46 t v1 v2 (s1 - s0) v4)
theorem TB_X4_fits_149 {W : NW} {d : Nat} {Q : Option NV → TS → Prop} {a0 : Nat → Nat → Nat} {e0 : Nat → Nat → Bool} {t : TS} {k46 : TS → Int32 → Int32 → Int32 → Int32 → Option Int32} {bc bs : Nat} (hW : W.2.2.2 = mm_fx) (hk46 : ∀ (v1 : Int32) (v2 : Int32) (v3 : Int32) (v4 : Int32), wp (k46 t v1 v2 v3 v4) (fun r => Q (some (eI r)) t) → nX W d tX4_fits Q a0 e0 46 [some (eR (some (4, 0))), some (eI v1), some (eI v2), some (eI v3), some (eI v4)] [] t bc bs) : ∀ (v1 : Int32) (v2 : Int32) (v3 : Int32) (v4 : Int32) (s0 : Int32) (s1 : Int32), wp (B_X4_fits_149 k46 t v1 v2 v4 s0 s1) (fun r => Q (some (eI r)) t) → nX W d tX4_fits Q a0 e0 149 [some (eR (some (4, 0))), some (eI v1), some (eI v2), some (eI v3), some (eI v4)] [eI s0, eI s1] t bc bs := by
  intro v1 v2 v3 v4 s0 s1 H
  unfold B_X4_fits_149 at H
  refine nx_ii rfl rfl ?_
  refine nx_st (ls' := [some (eR (some (4, 0))), some (eI v1), some (eI v2), some (eI (s1 - s0)), some (eI v4)]) rfl rfl rfl (Nat.le_of_ble_eq_true rfl) rfl ?_
  exact TB_X4_fits_151 hW   hk46 _ _ _ _ H
def B_X4_fits_119 (k46 : TS → Int32 → Int32 → Int32 → Int32 → Option Int32) (t : TS) (v1 : Int32) (v2 : Int32) (v4 : Int32) (s0 : Int32) (s1 : Int32) : Option Int32 := (gd v4 (tL t 2402 0) (nxt (tQ t 2402 0 v4.toNatClampNeg) (fun o21 => (gd v2 (tL t 2402 0) (nxt (tQ t 2402 0 v2.toNatClampNeg) (fun o22 => (if (o21 : Option Nat) = o22 then (gd v4 (tL t 2403 0) (B_X4_fits_149 k46 t v1 v2 v4 (tA t 2403 0 v4.toNatClampNeg) (s1 + s0))) else (B_X4_fits_149 k46 t v1 v2 v4 0 (s1 + s0)))))))))
theorem TB_X4_fits_119 {W : NW} {d : Nat} {Q : Option NV → TS → Prop} {a0 : Nat → Nat → Nat} {e0 : Nat → Nat → Bool} {t : TS} {k46 : TS → Int32 → Int32 → Int32 → Int32 → Option Int32} {bc bs : Nat} (hW : W.2.2.2 = mm_fx) (hk46 : ∀ (v1 : Int32) (v2 : Int32) (v3 : Int32) (v4 : Int32), wp (k46 t v1 v2 v3 v4) (fun r => Q (some (eI r)) t) → nX W d tX4_fits Q a0 e0 46 [some (eR (some (4, 0))), some (eI v1), some (eI v2), some (eI v3), some (eI v4)] [] t bc bs) : ∀ (v1 : Int32) (v2 : Int32) (v3 : Int32) (v4 : Int32) (s0 : Int32) (s1 : Int32), wp (B_X4_fits_119 k46 t v1 v2 v4 s0 s1) (fun r => Q (some (eI r)) t) → nX W d tX4_fits Q a0 e0 119 [some (eR (some (4, 0))), some (eI v1), some (eI v2), some (eI v3), some (eI v4)] [eI s0, eI s1] t bc bs := by
  intro v1 v2 v3 v4 s0 s1 H
  unfold B_X4_fits_119 at H
  refine nx_ii rfl rfl ?_
  refine nx_st (ls' := [some (eR (some (4, 0))), some (eI v1), some (eI v2), some (eI (s1 + s0)), some (eI v4)]) rfl rfl rfl (Nat.le_of_ble_eq_true rfl) rfl ?_
  refine nx_ld rfl rfl rfl rfl ?_
  refine nx_ld rfl rfl rfl rfl ?_
  refine nx_getFix rfl rfl rfl (by decide) (by rw [hW]; rfl) rfl ?_
  refine nx_ld rfl rfl rfl rfl ?_
  refine nx_aald (c := 2402) (i := 0) rfl rfl (Nat.le_of_ble_eq_true rfl) (Nat.le_of_ble_eq_true rfl) (Nat.le_of_ble_eq_true rfl) rfl H (fun o21 H => ?_)
  show nX _ _ _ _ _ _ 129 _ _ _ _ _
  refine nx_ld rfl rfl rfl rfl ?_
  refine nx_getFix rfl rfl rfl (by decide) (by rw [hW]; rfl) rfl ?_
  refine nx_ld rfl rfl rfl rfl ?_
  refine nx_aald (c := 2402) (i := 0) rfl rfl (Nat.le_of_ble_eq_true rfl) (Nat.le_of_ble_eq_true rfl) (Nat.le_of_ble_eq_true rfl) rfl H (fun o22 H => ?_)
  refine nx_ane (c := 1) (o1 := o21) (o2 := o22) rfl rfl (by decide) H (fun H => ?_) (fun H => ?_)
  · refine nx_int (x := 0) rfl rfl ?_
    exact TB_X4_fits_149 hW   hk46 _ _ _ _ _ _ H
  refine nx_ld rfl rfl rfl rfl ?_
  refine nx_getFix rfl rfl rfl (by decide) (by rw [hW]; rfl) rfl ?_
  refine nx_ld rfl rfl rfl rfl ?_
  refine nx_iald (p := (2403, 0)) rfl rfl (Nat.le_of_ble_eq_true rfl) (Nat.le_of_ble_eq_true rfl) rfl H (fun H => ?_)
  refine nx_goto rfl rfl ?_
  exact TB_X4_fits_149 hW   hk46 _ _ _ _ _ _ H
def B_X4_fits_91 (k46 : TS → Int32 → Int32 → Int32 → Int32 → Option Int32) (t : TS) (v1 : Int32) (v2 : Int32) (v3 : Int32) (v4 : Int32) : Option Int32 := (gd v4 (tL t 2401 0) (nxt (tQ t 2401 0 v4.toNatClampNeg) (fun o21 => (gd v2 (tL t 2402 0) (nxt (tQ t 2402 0 v2.toNatClampNeg) (fun o22 => (if (o21 : Option Nat) = o22 then (gd v4 (tL t 2403 0) (B_X4_fits_119 k46 t v1 v2 v4 (tA t 2403 0 v4.toNatClampNeg) v3)) else (B_X4_fits_119 k46 t v1 v2 v4 0 v3))))))))
theorem TB_X4_fits_91 {W : NW} {d : Nat} {Q : Option NV → TS → Prop} {a0 : Nat → Nat → Nat} {e0 : Nat → Nat → Bool} {t : TS} {k46 : TS → Int32 → Int32 → Int32 → Int32 → Option Int32} {bc bs : Nat} (hW : W.2.2.2 = mm_fx) (hk46 : ∀ (v1 : Int32) (v2 : Int32) (v3 : Int32) (v4 : Int32), wp (k46 t v1 v2 v3 v4) (fun r => Q (some (eI r)) t) → nX W d tX4_fits Q a0 e0 46 [some (eR (some (4, 0))), some (eI v1), some (eI v2), some (eI v3), some (eI v4)] [] t bc bs) : ∀ (v1 : Int32) (v2 : Int32) (v3 : Int32) (v4 : Int32), wp (B_X4_fits_91 k46 t v1 v2 v3 v4) (fun r => Q (some (eI r)) t) → nX W d tX4_fits Q a0 e0 91 [some (eR (some (4, 0))), some (eI v1), some (eI v2), some (eI v3), some (eI v4)] [] t bc bs := by
  intro v1 v2 v3 v4 H
  unfold B_X4_fits_91 at H
  refine nx_ld rfl rfl rfl rfl ?_
  refine nx_ld rfl rfl rfl rfl ?_
  refine nx_getFix rfl rfl rfl (by decide) (by rw [hW]; rfl) rfl ?_
  refine nx_ld rfl rfl rfl rfl ?_
  refine nx_aald (c := 2401) (i := 0) rfl rfl (Nat.le_of_ble_eq_true rfl) (Nat.le_of_ble_eq_true rfl) (Nat.le_of_ble_eq_true rfl) rfl H (fun o21 H => ?_)
  refine nx_ld rfl rfl rfl rfl ?_
  refine nx_getFix rfl rfl rfl (by decide) (by rw [hW]; rfl) rfl ?_
  show nX _ _ _ _ _ _ 103 _ _ _ _ _
  refine nx_ld rfl rfl rfl rfl ?_
  refine nx_aald (c := 2402) (i := 0) rfl rfl (Nat.le_of_ble_eq_true rfl) (Nat.le_of_ble_eq_true rfl) (Nat.le_of_ble_eq_true rfl) rfl H (fun o22 H => ?_)
  refine nx_ane (c := 1) (o1 := o21) (o2 := o22) rfl rfl (by decide) H (fun H => ?_) (fun H => ?_)
  · refine nx_int (x := 0) rfl rfl ?_
    exact TB_X4_fits_119 hW   hk46 _ _ _ _ _ _ H
  refine nx_ld rfl rfl rfl rfl ?_
  refine nx_getFix rfl rfl rfl (by decide) (by rw [hW]; rfl) rfl ?_
  refine nx_ld rfl rfl rfl rfl ?_
  refine nx_iald (p := (2403, 0)) rfl rfl (Nat.le_of_ble_eq_true rfl) (Nat.le_of_ble_eq_true rfl) rfl H (fun H => ?_)
  refine nx_goto rfl rfl ?_
  exact TB_X4_fits_119 hW   hk46 _ _ _ _ _ _ H
def BB_X4_fits_46 (k46 : TS → Int32 → Int32 → Int32 → Int32 → Option Int32) (t : TS) (v1 : Int32) (v2 : Int32) (v3 : Int32) (v4 : Int32) : Option Int32 := (if (tI t 405 0) ≤ v4 then (B_X4_fits_157  t v3) else (if ¬ ((v1 >>> (v4 &&& 31)) &&& 1) = 0 then (if v4 = v2 then (B_X4_fits_91 k46 t v1 v2 v3 v4) else (gd v4 (tL t 2400 0) (nxt (tQ t 2400 0 v4.toNatClampNeg) (fun o21 => (gd v2 (tL t 2400 0) (nxt (tQ t 2400 0 v2.toNatClampNeg) (fun o22 => (if (o21 : Option Nat) = o22 then (some (0)) else (B_X4_fits_91 k46 t v1 v2 v3 v4))))))))) else (B_X4_fits_151 k46 t v1 v2 v3 v4)))
theorem TBB_X4_fits_46 {W : NW} {d : Nat} {Q : Option NV → TS → Prop} {a0 : Nat → Nat → Nat} {e0 : Nat → Nat → Bool} {t : TS} {k46 : TS → Int32 → Int32 → Int32 → Int32 → Option Int32} {bc bs : Nat} (hW : W.2.2.2 = mm_fx) (hk46 : ∀ (v1 : Int32) (v2 : Int32) (v3 : Int32) (v4 : Int32), wp (k46 t v1 v2 v3 v4) (fun r => Q (some (eI r)) t) → nX W d tX4_fits Q a0 e0 46 [some (eR (some (4, 0))), some (eI v1), some (eI v2), some (eI v3), some (eI v4)] [] t bc bs) : ∀ (v1 : Int32) (v2 : Int32) (v3 : Int32) (v4 : Int32), wp (BB_X4_fits_46 k46 t v1 v2 v3 v4) (fun r => Q (some (eI r)) t) → nX W d tX4_fits Q a0 e0 46 [some (eR (some (4, 0))), some (eI v1), some (eI v2), some (eI v3), some (eI v4)] [] t bc bs := by
  intro v1 v2 v3 v4 H
  unfold BB_X4_fits_46 at H
  refine nx_ld rfl rfl rfl rfl ?_
  refine nx_ld rfl rfl rfl rfl ?_
  refine nx_getI rfl rfl rfl (by decide) ?_
  refine nx_icmp rfl rfl (by rfl) H (fun H => ?_) (fun H => ?_)
  · exact TB_X4_fits_157 hW    _ _ _ _ H
  refine nx_ld rfl rfl rfl rfl ?_
  refine nx_ld rfl rfl rfl rfl ?_
  refine nx_ii rfl rfl ?_
  refine nx_int (x := 1) rfl rfl ?_
  refine nx_ii rfl rfl ?_
  refine nx_if rfl rfl (by rfl) H (fun H => ?_) (fun H => ?_)
  · refine nx_ld rfl rfl rfl rfl ?_
    refine nx_ld rfl rfl rfl rfl ?_
    refine nx_icmp rfl rfl (by rfl) H (fun H => ?_) (fun H => ?_)
    · exact TB_X4_fits_91 hW   hk46 _ _ _ _ H
    refine nx_ld rfl rfl rfl rfl ?_
    refine nx_getFix rfl rfl rfl (by decide) (by rw [hW]; rfl) rfl ?_
    refine nx_ld rfl rfl rfl rfl ?_
    refine nx_aald (c := 2400) (i := 0) rfl rfl (Nat.le_of_ble_eq_true rfl) (Nat.le_of_ble_eq_true rfl) (Nat.le_of_ble_eq_true rfl) rfl H (fun o21 H => ?_)
    refine nx_ld rfl rfl rfl rfl ?_
    refine nx_getFix rfl rfl rfl (by decide) (by rw [hW]; rfl) rfl ?_
    refine nx_ld rfl rfl rfl rfl ?_
    show nX _ _ _ _ _ _ 85 _ _ _ _ _
    refine nx_aald (c := 2400) (i := 0) rfl rfl (Nat.le_of_ble_eq_true rfl) (Nat.le_of_ble_eq_true rfl) (Nat.le_of_ble_eq_true rfl) rfl H (fun o22 H => ?_)
    refine nx_ane (c := 1) (o1 := o21) (o2 := o22) rfl rfl (by decide) H (fun H => ?_) (fun H => ?_)
    · exact TB_X4_fits_91 hW   hk46 _ _ _ _ H
    refine nx_int (x := 0) rfl rfl ?_
    exact nx_rzl rfl rfl (by decide) H
  refine nx_goto rfl rfl ?_
  exact TB_X4_fits_151 hW   hk46 _ _ _ _ H
def B_X4_fits_46 : Nat → TS → Int32 → Int32 → Int32 → Int32 → Option Int32
  | 0 => fun _ _ _ _ _ => none
  | n + 1 => fun t v1 v2 v3 v4 => BB_X4_fits_46 (B_X4_fits_46 n) t v1 v2 v3 v4
theorem TB_X4_fits_46 {W : NW} {d : Nat} {Q : Option NV → TS → Prop} {a0 : Nat → Nat → Nat} {e0 : Nat → Nat → Bool} {t : TS} {bc bs : Nat} (hW : W.2.2.2 = mm_fx) : ∀ (n : Nat) (v1 : Int32) (v2 : Int32) (v3 : Int32) (v4 : Int32), wp (B_X4_fits_46 n t v1 v2 v3 v4) (fun r => Q (some (eI r)) t) → nX W d tX4_fits Q a0 e0 46 [some (eR (some (4, 0))), some (eI v1), some (eI v2), some (eI v3), some (eI v4)] [] t bc bs := by
  intro n
  induction n with
  | zero => intro v1 v2 v3 v4 H; exact (wp_none H).elim
  | succ n ih =>
    intro v1 v2 v3 v4 H
    exact TBB_X4_fits_46 hW    ih v1 v2 v3 v4 H
def B_X4_fits_33 (t : TS) (v1 : Int32) (v2 : Int32) : Option Int32 := (gd v2 (tL t 2402 0) (nxt (tQ t 2402 0 v2.toNatClampNeg) (fun o21 => (oc o21 none (fun j22 => (B_X4_fits_46  10000 t v1 v2 (tI t 103 j22) 0))))))
theorem TB_X4_fits_33 {W : NW} {d : Nat} {Q : Option NV → TS → Prop} {a0 : Nat → Nat → Nat} {e0 : Nat → Nat → Bool} {t : TS} {bc bs : Nat} (hW : W.2.2.2 = mm_fx) : ∀ (v1 : Int32) (v2 : Int32), wp (B_X4_fits_33 t v1 v2) (fun r => Q (some (eI r)) t) → nX W d tX4_fits Q a0 e0 33 [some (eR (some (4, 0))), some (eI v1), some (eI v2), none, none] [] t bc bs := by
  intro v1 v2 H
  unfold B_X4_fits_33 at H
  refine nx_ld rfl rfl rfl rfl ?_
  refine nx_getFix rfl rfl rfl (by decide) (by rw [hW]; rfl) rfl ?_
  refine nx_ld rfl rfl rfl rfl ?_
  refine nx_aald (c := 2402) (i := 0) rfl rfl (Nat.le_of_ble_eq_true rfl) (Nat.le_of_ble_eq_true rfl) (Nat.le_of_ble_eq_true rfl) rfl H (fun o21 H => ?_)
  rcases o21 with _ | j22
  · exact (wp_none (oc_no H)).elim
  replace H := oc_so H
  refine nx_getI rfl rfl rfl (by decide) ?_
  refine nx_st (ls' := [some (eR (some (4, 0))), some (eI v1), some (eI v2), some (eI (tI t 103 j22)), none]) rfl rfl rfl (Nat.le_of_ble_eq_true rfl) rfl ?_
  refine nx_int (x := 0) rfl rfl ?_
  show nX _ _ _ _ _ _ 44 _ _ _ _ _
  refine nx_st (ls' := [some (eR (some (4, 0))), some (eI v1), some (eI v2), some (eI (tI t 103 j22)), some (eI 0)]) rfl rfl rfl (Nat.le_of_ble_eq_true rfl) rfl ?_
  exact TB_X4_fits_46 hW    10000 _ _ _ _ H
def F_X4_fits (t : TS) (x1 : Int32) (x2 : Int32) : Option Int32 := (gd x2 (tL t 2401 0) (nxt (tQ t 2401 0 x2.toNatClampNeg) (fun o21 => (oc o21 (some (0)) (fun j22 => (gd x2 (tL t 2404 0) (if (tA t 2404 0 x2.toNatClampNeg) < 0 then (B_X4_fits_33  t x1 x2) else (gd x2 (tL t 2404 0) (if ¬ ((x1 >>> ((tA t 2404 0 x2.toNatClampNeg) &&& 31)) &&& 1) = 0 then (B_X4_fits_33  t x1 x2) else (some (0)))))))))))
theorem TF_X4_fits {W : NW} {d : Nat} {t : TS} {x1 : Int32} {x2 : Int32} {Q : Option NV → TS → Prop} {bc bs : Nat} (hW : W.2.2.2 = mm_fx) (H : wp (F_X4_fits t x1 x2) (fun r => Q (some (eI r)) t)) : nC W (d + 1) 25 [eR (some (4, 0)), eI x1, eI x2] t bc bs Q := by
  refine nC_in (d := d) (T := tX4_fits) (ls := [some (eR (some (4, 0))), some (eI x1), some (eI x2), none, none]) rfl (Nat.le_of_ble_eq_true rfl) rfl (fun a0 e0 => ?_)
  unfold F_X4_fits at H
  refine nx_ld rfl rfl rfl rfl ?_
  refine nx_getFix rfl rfl rfl (by decide) (by rw [hW]; rfl) rfl ?_
  refine nx_ld rfl rfl rfl rfl ?_
  refine nx_aald (c := 2401) (i := 0) rfl rfl (Nat.le_of_ble_eq_true rfl) (Nat.le_of_ble_eq_true rfl) (Nat.le_of_ble_eq_true rfl) rfl H (fun o21 H => ?_)
  rcases o21 with _ | j22
  · replace H := oc_no H
    refine nx_null0 (c := 1) rfl rfl ?_
    refine nx_int (x := 0) rfl rfl ?_
    exact nx_rzl rfl rfl (by decide) H
  replace H := oc_so H
  refine nx_null1 rfl rfl ?_
  refine nx_ld rfl rfl rfl rfl ?_
  refine nx_getFix rfl rfl rfl (by decide) (by rw [hW]; rfl) rfl ?_
  refine nx_ld rfl rfl rfl rfl ?_
  refine nx_iald (p := (2404, 0)) rfl rfl (Nat.le_of_ble_eq_true rfl) (Nat.le_of_ble_eq_true rfl) rfl H (fun H => ?_)
  refine nx_if rfl rfl (by rfl) H (fun H => ?_) (fun H => ?_)
  · exact TB_X4_fits_33 hW    _ _ H
  refine nx_ld rfl rfl rfl rfl ?_
  refine nx_ld rfl rfl rfl rfl ?_
  refine nx_getFix rfl rfl rfl (by decide) (by rw [hW]; rfl) rfl ?_
  refine nx_ld rfl rfl rfl rfl ?_
  refine nx_iald (p := (2404, 0)) rfl rfl (Nat.le_of_ble_eq_true rfl) (Nat.le_of_ble_eq_true rfl) rfl H (fun H => ?_)
  refine nx_ii rfl rfl ?_
  refine nx_int (x := 1) rfl rfl ?_
  show nX _ _ _ _ _ _ 27 _ _ _ _ _
  refine nx_ii rfl rfl ?_
  refine nx_if rfl rfl (by rfl) H (fun H => ?_) (fun H => ?_)
  · exact TB_X4_fits_33 hW    _ _ H
  refine nx_int (x := 0) rfl rfl ?_
  exact nx_rzl rfl rfl (by decide) H
def B_X4_canHappen_29 (k2 : TS → Int32 → Int32 → Option Int32) (t : TS) (v1 : Int32) (v2 : Int32) : Option Int32 := (k2 t v1 (v2 + 1))
theorem TB_X4_canHappen_29 {W : NW} {d : Nat} {Q : Option NV → TS → Prop} {a0 : Nat → Nat → Nat} {e0 : Nat → Nat → Bool} {t : TS} {k2 : TS → Int32 → Int32 → Option Int32} {bc bs : Nat} (hW : W.2.2.2 = mm_fx) (hk2 : ∀ (v1 : Int32) (v2 : Int32), wp (k2 t v1 v2) (fun r => Q (some (eI r)) t) → nX W (d + 1) tX4_canHappen Q a0 e0 2 [some (eR (some (4, 0))), some (eI v1), some (eI v2)] [] t bc bs) : ∀ (v1 : Int32) (v2 : Int32), wp (B_X4_canHappen_29 k2 t v1 v2) (fun r => Q (some (eI r)) t) → nX W (d + 1) tX4_canHappen Q a0 e0 29 [some (eR (some (4, 0))), some (eI v1), some (eI v2)] [] t bc bs := by
  intro v1 v2 H
  unfold B_X4_canHappen_29 at H
  refine nx_iinc2 1 (ls' := [some (eR (some (4, 0))), some (eI v1), some (eI (v2 + 1))]) rfl rfl rfl rfl rfl ?_
  refine nx_goto rfl rfl ?_
  exact hk2 _ _ H
def BB_X4_canHappen_2 (k2 : TS → Int32 → Int32 → Option Int32) (t : TS) (v1 : Int32) (v2 : Int32) : Option Int32 := (if (tI t 405 0) ≤ v2 then (some (1)) else (if ((v1 >>> (v2 &&& 31)) &&& 1) = 0 then (B_X4_canHappen_29 k2 t v1 v2) else (Option.bind (F_X4_fits t v1 v2) (fun r21 => (if ¬ r21 = 0 then (B_X4_canHappen_29 k2 t v1 v2) else (some (0)))))))
theorem TBB_X4_canHappen_2 {W : NW} {d : Nat} {Q : Option NV → TS → Prop} {a0 : Nat → Nat → Nat} {e0 : Nat → Nat → Bool} {t : TS} {k2 : TS → Int32 → Int32 → Option Int32} {bc bs : Nat} (hW : W.2.2.2 = mm_fx) (hk2 : ∀ (v1 : Int32) (v2 : Int32), wp (k2 t v1 v2) (fun r => Q (some (eI r)) t) → nX W (d + 1) tX4_canHappen Q a0 e0 2 [some (eR (some (4, 0))), some (eI v1), some (eI v2)] [] t bc bs) : ∀ (v1 : Int32) (v2 : Int32), wp (BB_X4_canHappen_2 k2 t v1 v2) (fun r => Q (some (eI r)) t) → nX W (d + 1) tX4_canHappen Q a0 e0 2 [some (eR (some (4, 0))), some (eI v1), some (eI v2)] [] t bc bs := by
  intro v1 v2 H
  unfold BB_X4_canHappen_2 at H
  refine nx_ld rfl rfl rfl rfl ?_
  refine nx_ld rfl rfl rfl rfl ?_
  refine nx_getI rfl rfl rfl (by decide) ?_
  refine nx_icmp rfl rfl (by rfl) H (fun H => ?_) (fun H => ?_)
  · refine nx_int (x := 1) rfl rfl ?_
    exact nx_rzl rfl rfl (by decide) H
  refine nx_ld rfl rfl rfl rfl ?_
  refine nx_ld rfl rfl rfl rfl ?_
  refine nx_ii rfl rfl ?_
  refine nx_int (x := 1) rfl rfl ?_
  refine nx_ii rfl rfl ?_
  refine nx_if rfl rfl (by rfl) H (fun H => ?_) (fun H => ?_)
  · exact TB_X4_canHappen_29 hW   hk2 _ _ H
  refine nx_ld rfl rfl rfl rfl ?_
  refine nx_ld rfl rfl rfl rfl ?_
  refine nx_ld rfl rfl rfl rfl ?_
  refine nx_cVI (as := [eI v1, eI v2]) (st' := []) rfl rfl (Nat.le_of_ble_eq_true rfl) rfl rfl (Nat.le_of_ble_eq_true rfl) (c0 := 4) rfl (by decide) H (fun Q H => TF_X4_fits hW  H) (fun r21 H => ?_)
  refine nx_if rfl rfl (by rfl) H (fun H => ?_) (fun H => ?_)
  · exact TB_X4_canHappen_29 hW   hk2 _ _ H
  refine nx_int (x := 0) rfl rfl ?_
  exact nx_rzl rfl rfl (by decide) H
def B_X4_canHappen_2 : Nat → TS → Int32 → Int32 → Option Int32
  | 0 => fun _ _ _ => none
  | n + 1 => fun t v1 v2 => BB_X4_canHappen_2 (B_X4_canHappen_2 n) t v1 v2
theorem TB_X4_canHappen_2 {W : NW} {d : Nat} {Q : Option NV → TS → Prop} {a0 : Nat → Nat → Nat} {e0 : Nat → Nat → Bool} {t : TS} {bc bs : Nat} (hW : W.2.2.2 = mm_fx) : ∀ (n : Nat) (v1 : Int32) (v2 : Int32), wp (B_X4_canHappen_2 n t v1 v2) (fun r => Q (some (eI r)) t) → nX W (d + 1) tX4_canHappen Q a0 e0 2 [some (eR (some (4, 0))), some (eI v1), some (eI v2)] [] t bc bs := by
  intro n
  induction n with
  | zero => intro v1 v2 H; exact (wp_none H).elim
  | succ n ih =>
    intro v1 v2 H
    exact TBB_X4_canHappen_2 hW    ih v1 v2 H
def F_X4_canHappen (t : TS) (x1 : Int32) : Option Int32 := (B_X4_canHappen_2  10000 t x1 0)
theorem TF_X4_canHappen {W : NW} {d : Nat} {t : TS} {x1 : Int32} {Q : Option NV → TS → Prop} {bc bs : Nat} (hW : W.2.2.2 = mm_fx) (H : wp (F_X4_canHappen t x1) (fun r => Q (some (eI r)) t)) : nC W (d + 2) 24 [eR (some (4, 0)), eI x1] t bc bs Q := by
  refine nC_in (d := (d + 1)) (T := tX4_canHappen) (ls := [some (eR (some (4, 0))), some (eI x1), none]) rfl (Nat.le_of_ble_eq_true rfl) rfl (fun a0 e0 => ?_)
  unfold F_X4_canHappen at H
  refine nx_int (x := 0) rfl rfl ?_
  refine nx_st (ls' := [some (eR (some (4, 0))), some (eI x1), some (eI 0)]) rfl rfl rfl (Nat.le_of_ble_eq_true rfl) rfl ?_
  exact TB_X4_canHappen_2 hW    10000 _ _ H
def B_X4_takeGreatest_120 (t : TS) (v2 : Int32) : Option (Int32 × TS) := (nxt (uI t 405 0 0) (fun t21 => (some (v2, t21))))
theorem TB_X4_takeGreatest_120 {W : NW} {d : Nat} {Q : Option NV → TS → Prop} {a0 : Nat → Nat → Nat} {e0 : Nat → Nat → Bool} {bc bs : Nat} (hW : W.2.2.2 = mm_fx) : ∀ (t : TS) (v1 : Int32) (v2 : Int32) (v3 : Int32) (v4 : Int32) (v5 : Option NV) (v6 : Option NV), wp (B_X4_takeGreatest_120 t v2) (fun r => Q (some (eI r.1)) r.2) → nX W (d + 2) tX4_takeGreatest Q a0 e0 120 [some (eR (some (4, 0))), some (eI v1), some (eI v2), some (eI v3), some (eI v4), v5, v6] [] t bc bs := by
  intro t v1 v2 v3 v4 v5 v6 H
  unfold B_X4_takeGreatest_120 at H
  refine nx_ld rfl rfl rfl rfl ?_
  refine nx_int (x := 0) rfl rfl ?_
  refine nx_putI rfl rfl rfl (by decide) H (fun t21 H => ?_)
  refine nx_ld rfl rfl rfl rfl ?_
  exact nx_rit rfl rfl H
def B_X4_takeGreatest_114 (k52 : TS → Int32 → Int32 → Int32 → Option (Int32 × TS)) (t : TS) (v2 : Int32) (v3 : Int32) (v4 : Int32) : Option (Int32 × TS) := (k52 t v2 v3 (v4 + 1))
theorem TB_X4_takeGreatest_114 {W : NW} {d : Nat} {Q : Option NV → TS → Prop} {a0 : Nat → Nat → Nat} {e0 : Nat → Nat → Bool} {k52 : TS → Int32 → Int32 → Int32 → Option (Int32 × TS)} {bc bs : Nat} (hW : W.2.2.2 = mm_fx) (hk52 : ∀ (t : TS) (v1 : Int32) (v2 : Int32) (v3 : Int32) (v4 : Int32) (v5 : Option NV) (v6 : Option NV), wp (k52 t v2 v3 v4) (fun r => Q (some (eI r.1)) r.2) → nX W (d + 2) tX4_takeGreatest Q a0 e0 52 [some (eR (some (4, 0))), some (eI v1), some (eI v2), some (eI v3), some (eI v4), v5, v6] [] t bc bs) : ∀ (t : TS) (v1 : Int32) (v2 : Int32) (v3 : Int32) (v4 : Int32) (v5 : Int32) (v6 : Int32), wp (B_X4_takeGreatest_114 k52 t v2 v3 v4) (fun r => Q (some (eI r.1)) r.2) → nX W (d + 2) tX4_takeGreatest Q a0 e0 114 [some (eR (some (4, 0))), some (eI v1), some (eI v2), some (eI v3), some (eI v4), some (eI v5), some (eI v6)] [] t bc bs := by
  intro t v1 v2 v3 v4 v5 v6 H
  unfold B_X4_takeGreatest_114 at H
  refine nx_iinc2 1 (ls' := [some (eR (some (4, 0))), some (eI v1), some (eI v2), some (eI v3), some (eI (v4 + 1)), some (eI v5), some (eI v6)]) rfl rfl rfl rfl rfl ?_
  refine nx_goto rfl rfl ?_
  exact hk52 _ _ _ _ _ _ _ H
def B_X4_takeGreatest_99 (k52 : TS → Int32 → Int32 → Int32 → Option (Int32 × TS)) (t : TS) (v2 : Int32) (v3 : Int32) (v4 : Int32) (v6 : Int32) : Option (Int32 × TS) := (Option.bind (F_X4_canHappen t v4) (fun r21 => (if r21 = 0 then (B_X4_takeGreatest_114 k52 t v2 v3 v4) else (B_X4_takeGreatest_114 k52 t v4 v6 v4))))
theorem TB_X4_takeGreatest_99 {W : NW} {d : Nat} {Q : Option NV → TS → Prop} {a0 : Nat → Nat → Nat} {e0 : Nat → Nat → Bool} {k52 : TS → Int32 → Int32 → Int32 → Option (Int32 × TS)} {bc bs : Nat} (hW : W.2.2.2 = mm_fx) (hk52 : ∀ (t : TS) (v1 : Int32) (v2 : Int32) (v3 : Int32) (v4 : Int32) (v5 : Option NV) (v6 : Option NV), wp (k52 t v2 v3 v4) (fun r => Q (some (eI r.1)) r.2) → nX W (d + 2) tX4_takeGreatest Q a0 e0 52 [some (eR (some (4, 0))), some (eI v1), some (eI v2), some (eI v3), some (eI v4), v5, v6] [] t bc bs) : ∀ (t : TS) (v1 : Int32) (v2 : Int32) (v3 : Int32) (v4 : Int32) (v5 : Int32) (v6 : Int32), wp (B_X4_takeGreatest_99 k52 t v2 v3 v4 v6) (fun r => Q (some (eI r.1)) r.2) → nX W (d + 2) tX4_takeGreatest Q a0 e0 99 [some (eR (some (4, 0))), some (eI v1), some (eI v2), some (eI v3), some (eI v4), some (eI v5), some (eI v6)] [] t bc bs := by
  intro t v1 v2 v3 v4 v5 v6 H
  unfold B_X4_takeGreatest_99 at H
  refine nx_ld rfl rfl rfl rfl ?_
  refine nx_ld rfl rfl rfl rfl ?_
  refine nx_cVI (as := [eI v4]) (st' := []) rfl rfl (Nat.le_of_ble_eq_true rfl) rfl rfl (Nat.le_of_ble_eq_true rfl) (c0 := 4) rfl (by decide) H (fun Q H => TF_X4_canHappen hW  H) (fun r21 H => ?_)
  refine nx_if rfl rfl (by rfl) H (fun H => ?_) (fun H => ?_)
  · exact TB_X4_takeGreatest_114 hW   hk52 _ _ _ _ _ _ _ H
  refine nx_ld rfl rfl rfl rfl ?_
  refine nx_st (ls' := [some (eR (some (4, 0))), some (eI v1), some (eI v4), some (eI v3), some (eI v4), some (eI v5), some (eI v6)]) rfl rfl rfl (Nat.le_of_ble_eq_true rfl) rfl ?_
  refine nx_ld rfl rfl rfl rfl ?_
  refine nx_st (ls' := [some (eR (some (4, 0))), some (eI v1), some (eI v4), some (eI v6), some (eI v4), some (eI v5), some (eI v6)]) rfl rfl rfl (Nat.le_of_ble_eq_true rfl) rfl ?_
  exact TB_X4_takeGreatest_114 hW   hk52 _ _ _ _ _ _ _ H
def BB_X4_takeGreatest_52 (k52 : TS → Int32 → Int32 → Int32 → Option (Int32 × TS)) (t : TS) (v2 : Int32) (v3 : Int32) (v4 : Int32) : Option (Int32 × TS) := (if ((1 : Int32) <<< ((tI t 405 0) &&& 31)) ≤ v4 then (B_X4_takeGreatest_120  t v2) else (Option.bind (F_J6_bitCount_0f7a4 t v4) (fun r21 => (Option.bind (F_J6_bitCount_0f7a4 t v2) (fun r22 => (Option.bind (F_X4_feesOf t v4) (fun r23 => (if 0 < (r21 - r22) then (B_X4_takeGreatest_99 k52 t v2 v3 v4 r23) else (if ¬ (r21 - r22) = 0 then (B_X4_takeGreatest_114 k52 t v2 v3 v4) else (if v3 ≤ r23 then (B_X4_takeGreatest_114 k52 t v2 v3 v4) else (B_X4_takeGreatest_99 k52 t v2 v3 v4 r23)))))))))))
theorem TBB_X4_takeGreatest_52 {W : NW} {d : Nat} {Q : Option NV → TS → Prop} {a0 : Nat → Nat → Nat} {e0 : Nat → Nat → Bool} {k52 : TS → Int32 → Int32 → Int32 → Option (Int32 × TS)} {bc bs : Nat} (hW : W.2.2.2 = mm_fx) (hk52 : ∀ (t : TS) (v1 : Int32) (v2 : Int32) (v3 : Int32) (v4 : Int32) (v5 : Option NV) (v6 : Option NV), wp (k52 t v2 v3 v4) (fun r => Q (some (eI r.1)) r.2) → nX W (d + 2) tX4_takeGreatest Q a0 e0 52 [some (eR (some (4, 0))), some (eI v1), some (eI v2), some (eI v3), some (eI v4), v5, v6] [] t bc bs) : ∀ (t : TS) (v1 : Int32) (v2 : Int32) (v3 : Int32) (v4 : Int32) (v5 : Option NV) (v6 : Option NV), wp (BB_X4_takeGreatest_52 k52 t v2 v3 v4) (fun r => Q (some (eI r.1)) r.2) → nX W (d + 2) tX4_takeGreatest Q a0 e0 52 [some (eR (some (4, 0))), some (eI v1), some (eI v2), some (eI v3), some (eI v4), v5, v6] [] t bc bs := by
  intro t v1 v2 v3 v4 v5 v6 H
  unfold BB_X4_takeGreatest_52 at H
  refine nx_ld rfl rfl rfl rfl ?_
  refine nx_int (x := 1) rfl rfl ?_
  refine nx_ld rfl rfl rfl rfl ?_
  refine nx_getI rfl rfl rfl (by decide) ?_
  refine nx_ii rfl rfl ?_
  refine nx_icmp rfl rfl (by rfl) H (fun H => ?_) (fun H => ?_)
  · exact TB_X4_takeGreatest_120 hW    _ _ _ _ _ _ _ H
  refine nx_ld rfl rfl rfl rfl ?_
  refine nx_cSI (as := [eI v4]) (st' := []) rfl rfl (Nat.le_of_ble_eq_true rfl) rfl rfl (Nat.le_of_ble_eq_true rfl) H (fun Q H => TF_J6_bitCount_0f7a4 hW  H) (fun r21 H => ?_)
  refine nx_ld rfl rfl rfl rfl ?_
  refine nx_cSI (as := [eI v2]) (st' := [eI r21]) rfl rfl (Nat.le_of_ble_eq_true rfl) rfl rfl (Nat.le_of_ble_eq_true rfl) H (fun Q H => TF_J6_bitCount_0f7a4 hW  H) (fun r22 H => ?_)
  refine nx_ii rfl rfl ?_
  refine nx_st (ls' := [some (eR (some (4, 0))), some (eI v1), some (eI v2), some (eI v3), some (eI v4), some (eI (r21 - r22)), v6]) rfl rfl rfl (Nat.le_of_ble_eq_true rfl) rfl ?_
  refine nx_ld rfl rfl rfl rfl ?_
  show nX _ _ _ _ _ _ 76 _ _ _ _ _
  refine nx_ld rfl rfl rfl rfl ?_
  refine nx_cVI (as := [eI v4]) (st' := []) rfl rfl (Nat.le_of_ble_eq_true rfl) rfl rfl (Nat.le_of_ble_eq_true rfl) (c0 := 4) rfl (by decide) H (fun Q H => TF_X4_feesOf hW  H) (fun r23 H => ?_)
  refine nx_st (ls' := [some (eR (some (4, 0))), some (eI v1), some (eI v2), some (eI v3), some (eI v4), some (eI (r21 - r22)), some (eI r23)]) rfl rfl rfl (Nat.le_of_ble_eq_true rfl) rfl ?_
  refine nx_ld rfl rfl rfl rfl ?_
  refine nx_if rfl rfl (by rfl) H (fun H => ?_) (fun H => ?_)
  · exact TB_X4_takeGreatest_99 hW   hk52 _ _ _ _ _ _ _ H
  refine nx_ld rfl rfl rfl rfl ?_
  refine nx_if rfl rfl (by rfl) H (fun H => ?_) (fun H => ?_)
  · exact TB_X4_takeGreatest_114 hW   hk52 _ _ _ _ _ _ _ H
  refine nx_ld rfl rfl rfl rfl ?_
  refine nx_ld rfl rfl rfl rfl ?_
  refine nx_icmp rfl rfl (by rfl) H (fun H => ?_) (fun H => ?_)
  · exact TB_X4_takeGreatest_114 hW   hk52 _ _ _ _ _ _ _ H
  exact TB_X4_takeGreatest_99 hW   hk52 _ _ _ _ _ _ _ H
def B_X4_takeGreatest_52 : Nat → TS → Int32 → Int32 → Int32 → Option (Int32 × TS)
  | 0 => fun _ _ _ _ => none
  | n + 1 => fun t v2 v3 v4 => BB_X4_takeGreatest_52 (B_X4_takeGreatest_52 n) t v2 v3 v4
theorem TB_X4_takeGreatest_52 {W : NW} {d : Nat} {Q : Option NV → TS → Prop} {a0 : Nat → Nat → Nat} {e0 : Nat → Nat → Bool} {bc bs : Nat} (hW : W.2.2.2 = mm_fx) : ∀ (n : Nat) (t : TS) (v1 : Int32) (v2 : Int32) (v3 : Int32) (v4 : Int32) (v5 : Option NV) (v6 : Option NV), wp (B_X4_takeGreatest_52 n t v2 v3 v4) (fun r => Q (some (eI r.1)) r.2) → nX W (d + 2) tX4_takeGreatest Q a0 e0 52 [some (eR (some (4, 0))), some (eI v1), some (eI v2), some (eI v3), some (eI v4), v5, v6] [] t bc bs := by
  intro n
  induction n with
  | zero => intro t v1 v2 v3 v4 v5 v6 H; exact (wp_none H).elim
  | succ n ih =>
    intro t v1 v2 v3 v4 v5 v6 H
    exact TBB_X4_takeGreatest_52 hW    ih t v1 v2 v3 v4 v5 v6 H
def B_X4_takeGreatest_45 (t : TS) : Option (Int32 × TS) := (B_X4_takeGreatest_52  10000 t 0 0 1)
theorem TB_X4_takeGreatest_45 {W : NW} {d : Nat} {Q : Option NV → TS → Prop} {a0 : Nat → Nat → Nat} {e0 : Nat → Nat → Bool} {bc bs : Nat} (hW : W.2.2.2 = mm_fx) : ∀ (t : TS) (v1 : Int32) (v2 : Int32) (v3 : Option NV), wp (B_X4_takeGreatest_45 t) (fun r => Q (some (eI r.1)) r.2) → nX W (d + 2) tX4_takeGreatest Q a0 e0 45 [some (eR (some (4, 0))), some (eI v1), some (eI v2), v3, none, none, none] [] t bc bs := by
  intro t v1 v2 v3 H
  unfold B_X4_takeGreatest_45 at H
  refine nx_int (x := 0) rfl rfl ?_
  refine nx_st (ls' := [some (eR (some (4, 0))), some (eI v1), some (eI 0), v3, none, none, none]) rfl rfl rfl (Nat.le_of_ble_eq_true rfl) rfl ?_
  refine nx_int (x := 0) rfl rfl ?_
  refine nx_st (ls' := [some (eR (some (4, 0))), some (eI v1), some (eI 0), some (eI 0), none, none, none]) rfl rfl rfl (Nat.le_of_ble_eq_true rfl) rfl ?_
  refine nx_int (x := 1) rfl rfl ?_
  refine nx_st (ls' := [some (eR (some (4, 0))), some (eI v1), some (eI 0), some (eI 0), some (eI 1), none, none]) rfl rfl rfl (Nat.le_of_ble_eq_true rfl) rfl ?_
  exact TB_X4_takeGreatest_52 hW    10000 _ _ _ _ _ _ _ H
def B_X4_takeGreatest_38 (k2 : TS → Int32 → Int32 → Option (Int32 × TS)) (t : TS) (v1 : Int32) (v2 : Int32) (s0 : Option Nat) (s1 : Int32) : Option (Int32 × TS) := (gd s1 (tL t 2401 0) (nxt (uQ t 2401 0 s1.toNatClampNeg s0) (fun t21 => (k2 t21 v1 (v2 + 1)))))
theorem TB_X4_takeGreatest_38 {W : NW} {d : Nat} {Q : Option NV → TS → Prop} {a0 : Nat → Nat → Nat} {e0 : Nat → Nat → Bool} {k2 : TS → Int32 → Int32 → Option (Int32 × TS)} {bc bs : Nat} (hW : W.2.2.2 = mm_fx) (hk2 : ∀ (t : TS) (v1 : Int32) (v2 : Int32) (v3 : Option NV), wp (k2 t v1 v2) (fun r => Q (some (eI r.1)) r.2) → nX W (d + 2) tX4_takeGreatest Q a0 e0 2 [some (eR (some (4, 0))), some (eI v1), some (eI v2), v3, none, none, none] [] t bc bs) : ∀ (t : TS) (v1 : Int32) (v2 : Int32) (v3 : Option Nat) (s0 : Option Nat) (s1 : Int32), wp (B_X4_takeGreatest_38 k2 t v1 v2 s0 s1) (fun r => Q (some (eI r.1)) r.2) → nX W (d + 2) tX4_takeGreatest Q a0 e0 38 [some (eR (some (4, 0))), some (eI v1), some (eI v2), some (eO 11 v3), none, none, none] [eO 1 s0, eI s1, eR (some (2401, 0))] t bc bs := by
  intro t v1 v2 v3 s0 s1 H
  unfold B_X4_takeGreatest_38 at H
  refine nx_aast (c := 2401) (i := 0) (e := 1) (o := s0) rfl rfl (Nat.le_of_ble_eq_true rfl) (Nat.le_of_ble_eq_true rfl) (Nat.le_of_ble_eq_true rfl) rfl (by decide) H (fun t21 H => ?_)
  refine nx_iinc2 1 (ls' := [some (eR (some (4, 0))), some (eI v1), some (eI (v2 + 1)), some (eO 11 v3), none, none, none]) rfl rfl rfl rfl rfl ?_
  refine nx_goto rfl rfl ?_
  exact hk2 _ _ _ _ H
def BB_X4_takeGreatest_2 (k2 : TS → Int32 → Int32 → Option (Int32 × TS)) (t : TS) (v1 : Int32) (v2 : Int32) : Option (Int32 × TS) := (if (tI t 405 0) ≤ v2 then (B_X4_takeGreatest_45  t) else (gd v2 (tL t 2400 0) (nxt (tQ t 2400 0 v2.toNatClampNeg) (fun o21 => (oc o21 none (fun j22 => (Option.bind (F_X1_owning t j22 v1) (fun r23 => (oc r23 (B_X4_takeGreatest_38 k2 t v1 v2 none v2) (fun j24 => (nxt (tR t 1101 j24) (fun o25 => (B_X4_takeGreatest_38 k2 t v1 v2 o25 v2)))))))))))))
theorem TBB_X4_takeGreatest_2 {W : NW} {d : Nat} {Q : Option NV → TS → Prop} {a0 : Nat → Nat → Nat} {e0 : Nat → Nat → Bool} {k2 : TS → Int32 → Int32 → Option (Int32 × TS)} {bc bs : Nat} (hW : W.2.2.2 = mm_fx) (hk2 : ∀ (t : TS) (v1 : Int32) (v2 : Int32) (v3 : Option NV), wp (k2 t v1 v2) (fun r => Q (some (eI r.1)) r.2) → nX W (d + 2) tX4_takeGreatest Q a0 e0 2 [some (eR (some (4, 0))), some (eI v1), some (eI v2), v3, none, none, none] [] t bc bs) : ∀ (t : TS) (v1 : Int32) (v2 : Int32) (v3 : Option NV), wp (BB_X4_takeGreatest_2 k2 t v1 v2) (fun r => Q (some (eI r.1)) r.2) → nX W (d + 2) tX4_takeGreatest Q a0 e0 2 [some (eR (some (4, 0))), some (eI v1), some (eI v2), v3, none, none, none] [] t bc bs := by
  intro t v1 v2 v3 H
  unfold BB_X4_takeGreatest_2 at H
  refine nx_ld rfl rfl rfl rfl ?_
  refine nx_ld rfl rfl rfl rfl ?_
  refine nx_getI rfl rfl rfl (by decide) ?_
  refine nx_icmp rfl rfl (by rfl) H (fun H => ?_) (fun H => ?_)
  · exact TB_X4_takeGreatest_45 hW    _ _ _ _ H
  refine nx_ld rfl rfl rfl rfl ?_
  refine nx_getFix rfl rfl rfl (by decide) (by rw [hW]; rfl) rfl ?_
  refine nx_ld rfl rfl rfl rfl ?_
  refine nx_aald (c := 2400) (i := 0) rfl rfl (Nat.le_of_ble_eq_true rfl) (Nat.le_of_ble_eq_true rfl) (Nat.le_of_ble_eq_true rfl) rfl H (fun o21 H => ?_)
  refine nx_ld rfl rfl rfl rfl ?_
  rcases o21 with _ | j22
  · exact (wp_none (oc_no H)).elim
  replace H := oc_so H
  refine nx_cVO 11 (as := [eI v1]) (st' := []) rfl rfl (Nat.le_of_ble_eq_true rfl) rfl rfl (Nat.le_of_ble_eq_true rfl) (c0 := 1) rfl (by decide) H (fun Q H => TF_X1_owning hW  H) (fun r23 H => ?_)
  refine nx_st (ls' := [some (eR (some (4, 0))), some (eI v1), some (eI v2), some (eO 11 r23), none, none, none]) rfl rfl rfl (Nat.le_of_ble_eq_true rfl) rfl ?_
  show nX _ _ _ _ _ _ 21 _ _ _ _ _
  refine nx_ld rfl rfl rfl rfl ?_
  refine nx_getFix rfl rfl rfl (by decide) (by rw [hW]; rfl) rfl ?_
  refine nx_ld rfl rfl rfl rfl ?_
  refine nx_ld rfl rfl rfl rfl ?_
  rcases r23 with _ | j24
  · replace H := oc_no H
    refine nx_non0 (c := 11) rfl rfl ?_
    refine nx_nul 1 rfl rfl ?_
    refine nx_goto rfl rfl ?_
    exact TB_X4_takeGreatest_38 hW   hk2 _ _ _ _ _ _ H
  replace H := oc_so H
  refine nx_non1 rfl rfl ?_
  refine nx_ld rfl rfl rfl rfl ?_
  refine nx_getR rfl rfl rfl (by decide) rfl H (fun o25 H => ?_)
  exact TB_X4_takeGreatest_38 hW   hk2 _ _ _ ((some j24)) _ _ H
def B_X4_takeGreatest_2 : Nat → TS → Int32 → Int32 → Option (Int32 × TS)
  | 0 => fun _ _ _ => none
  | n + 1 => fun t v1 v2 => BB_X4_takeGreatest_2 (B_X4_takeGreatest_2 n) t v1 v2
theorem TB_X4_takeGreatest_2 {W : NW} {d : Nat} {Q : Option NV → TS → Prop} {a0 : Nat → Nat → Nat} {e0 : Nat → Nat → Bool} {bc bs : Nat} (hW : W.2.2.2 = mm_fx) : ∀ (n : Nat) (t : TS) (v1 : Int32) (v2 : Int32) (v3 : Option NV), wp (B_X4_takeGreatest_2 n t v1 v2) (fun r => Q (some (eI r.1)) r.2) → nX W (d + 2) tX4_takeGreatest Q a0 e0 2 [some (eR (some (4, 0))), some (eI v1), some (eI v2), v3, none, none, none] [] t bc bs := by
  intro n
  induction n with
  | zero => intro t v1 v2 v3 H; exact (wp_none H).elim
  | succ n ih =>
    intro t v1 v2 v3 H
    exact TBB_X4_takeGreatest_2 hW    ih t v1 v2 v3 H
def F_X4_takeGreatest (t : TS) (x1 : Int32) : Option (Int32 × TS) := (B_X4_takeGreatest_2  10000 t x1 0)
theorem TF_X4_takeGreatest {W : NW} {d : Nat} {t : TS} {x1 : Int32} {Q : Option NV → TS → Prop} {bc bs : Nat} (hW : W.2.2.2 = mm_fx) (H : wp (F_X4_takeGreatest t x1) (fun r => Q (some (eI r.1)) r.2)) : nC W (d + 3) 22 [eR (some (4, 0)), eI x1] t bc bs Q := by
  refine nC_in (d := (d + 2)) (T := tX4_takeGreatest) (ls := [some (eR (some (4, 0))), some (eI x1), none, none, none, none, none]) rfl (Nat.le_of_ble_eq_true rfl) rfl (fun a0 e0 => ?_)
  unfold F_X4_takeGreatest at H
  refine nx_int (x := 0) rfl rfl ?_
  refine nx_st (ls' := [some (eR (some (4, 0))), some (eI x1), some (eI 0), none, none, none, none]) rfl rfl rfl (Nat.le_of_ble_eq_true rfl) rfl ?_
  exact TB_X4_takeGreatest_2 hW    10000 _ _ _ _ H
def F_X5_init (t : TS) (i0 : Nat) : Option TS := (gE (tE t 2500 i0) (nxt (uN t 2500 i0 6) (fun t21 => (nxt (uR t21 500 i0 (some i0)) (fun t22 => (gE (tE t22 2501 i0) (nxt (uN t22 2501 i0 6) (fun t23 => (nxt (uR t23 501 i0 (some i0)) (fun t24 => (nxt (uI t24 503 i0 1439) (fun t25 => (some t25)))))))))))))
theorem TF_X5_init {W : NW} {d : Nat} {t : TS} {i0 : Nat} {Q : Option NV → TS → Prop} {bc bs : Nat} (hW : W.2.2.2 = (fun _ => false)) (H : wp (F_X5_init t i0) (fun r => Q none r)) : nC W (d + 1) 26 [eR (some (5, i0))] t (bc + 2) (bs + 12) Q := by
  refine nC_in (d := d) (T := tX5_init) (ls := [some (eR (some (5, i0)))]) rfl (Nat.le_of_ble_eq_true rfl) rfl (fun a0 e0 => ?_)
  unfold F_X5_init at H
  refine nx_ld rfl rfl rfl rfl ?_
  refine nx_objI rfl rfl (Nat.le_of_ble_eq_true rfl) ?_
  refine nx_ld rfl rfl rfl rfl ?_
  refine nx_int (x := 6) rfl rfl ?_
  refine nx_newaL 2500 i0 6 rfl rfl (Nat.le_of_ble_eq_true rfl) (Nat.le_of_ble_eq_true rfl) rfl rfl (by decide) (Nat.le_of_ble_eq_true rfl) (by omega) (by omega) H (fun t21 H => ?_)
  refine nx_eq (bc' := bc + 1) (bs' := bs + 6) (by omega) (by omega) ?_
  refine nx_putR (f := 500) (o := (some i0)) rfl rfl rfl (by decide) (by rw [hW]) rfl (by decide) H (fun t22 H => ?_)
  refine nx_ld rfl rfl rfl rfl ?_
  show nX _ _ _ _ _ _ 13 _ _ _ _ _
  refine nx_int (x := 6) rfl rfl ?_
  refine nx_newaL 2501 i0 6 rfl rfl (Nat.le_of_ble_eq_true rfl) (Nat.le_of_ble_eq_true rfl) rfl rfl (by decide) (Nat.le_of_ble_eq_true rfl) (by omega) (by omega) H (fun t23 H => ?_)
  refine nx_eq (bc' := bc) (bs' := bs) (by omega) (by omega) ?_
  refine nx_putR (f := 501) (o := (some i0)) rfl rfl rfl (by decide) (by rw [hW]) rfl (by decide) H (fun t24 H => ?_)
  refine nx_ld rfl rfl rfl rfl ?_
  refine nx_int (x := 1439) rfl rfl ?_
  refine nx_putI rfl rfl rfl (by decide) H (fun t25 H => ?_)
  exact nx_rv rfl rfl H
def F_X5_addWindow (t : TS) (i0 : Nat) (x1 : Int32) (x2 : Int32) : Option (Int32 × TS) := (if (tI t 502 i0) < (Int32.ofNat (tL t 2500 i0)) then (gd (tI t 502 i0) (tL t 2500 i0) (nxt (uA t 2500 i0 (tI t 502 i0).toNatClampNeg x1) (fun t21 => (gd (tI t21 502 i0) (tL t21 2501 i0) (nxt (uA t21 2501 i0 (tI t21 502 i0).toNatClampNeg x2) (fun t22 => (nxt (uI t22 502 i0 ((tI t22 502 i0) + 1)) (fun t23 => (some (1, t23)))))))))) else (some (0, t)))
theorem TF_X5_addWindow {W : NW} {d : Nat} {t : TS} {i0 : Nat} {x1 : Int32} {x2 : Int32} {Q : Option NV → TS → Prop} {bc bs : Nat} (hW : W.2.2.2 = mm_fx) (H : wp (F_X5_addWindow t i0 x1 x2) (fun r => Q (some (eI r.1)) r.2)) : nC W (d + 1) 27 [eR (some (5, i0)), eI x1, eI x2] t bc bs Q := by
  refine nC_in (d := d) (T := tX5_addWindow) (ls := [some (eR (some (5, i0))), some (eI x1), some (eI x2)]) rfl (Nat.le_of_ble_eq_true rfl) rfl (fun a0 e0 => ?_)
  unfold F_X5_addWindow at H
  refine nx_ld rfl rfl rfl rfl ?_
  refine nx_getI rfl rfl rfl (by decide) ?_
  refine nx_ld rfl rfl rfl rfl ?_
  refine nx_getFix rfl rfl rfl (by decide) (by rw [hW]; rfl) rfl ?_
  refine nx_alen (p := (2500, i0)) rfl rfl (Nat.le_of_ble_eq_true rfl) (Nat.le_of_ble_eq_true rfl) (Nat.le_of_ble_eq_true rfl) ?_
  refine nx_icmp rfl rfl (by rfl) H (fun H => ?_) (fun H => ?_)
  · refine nx_ld rfl rfl rfl rfl ?_
    refine nx_getFix rfl rfl rfl (by decide) (by rw [hW]; rfl) rfl ?_
    refine nx_ld rfl rfl rfl rfl ?_
    refine nx_getI rfl rfl rfl (by decide) ?_
    refine nx_ld rfl rfl rfl rfl ?_
    refine nx_iast (p := (2500, i0)) rfl rfl (Nat.le_of_ble_eq_true rfl) (Nat.le_of_ble_eq_true rfl) rfl H (fun t21 H => ?_)
    refine nx_ld rfl rfl rfl rfl ?_
    show nX _ _ _ _ _ _ 25 _ _ _ _ _
    refine nx_getFix rfl rfl rfl (by decide) (by rw [hW]; rfl) rfl ?_
    refine nx_ld rfl rfl rfl rfl ?_
    refine nx_getI rfl rfl rfl (by decide) ?_
    refine nx_ld rfl rfl rfl rfl ?_
    refine nx_iast (p := (2501, i0)) rfl rfl (Nat.le_of_ble_eq_true rfl) (Nat.le_of_ble_eq_true rfl) rfl H (fun t22 H => ?_)
    refine nx_ld rfl rfl rfl rfl ?_
    refine nx_dup rfl rfl (Nat.ne_of_beq_eq_false rfl) ?_
    refine nx_getI rfl rfl rfl (by decide) ?_
    show nX _ _ _ _ _ _ 39 _ _ _ _ _
    refine nx_int (x := 1) rfl rfl ?_
    refine nx_ii rfl rfl ?_
    refine nx_putI rfl rfl rfl (by decide) H (fun t23 H => ?_)
    refine nx_int (x := 1) rfl rfl ?_
    exact nx_rzlt rfl rfl (by decide) H
  refine nx_int (x := 0) rfl rfl ?_
  exact nx_rzlt rfl rfl (by decide) H
def F_X12_within (t : TS) (x1 : Int32) (x2 : Int32) (x3 : Int32) : Option Int32 := (if x1 < x2 then (some (0)) else (if x3 < x1 then (some (0)) else (some (1))))
theorem TF_X12_within {W : NW} {d : Nat} {t : TS} {x1 : Int32} {x2 : Int32} {x3 : Int32} {Q : Option NV → TS → Prop} {bc bs : Nat} (hW : W.2.2.2 = mm_fx) (H : wp (F_X12_within t x1 x2 x3) (fun r => Q (some (eI r)) t)) : nC W (d + 1) 113 [eI x1, eI x2, eI x3] t bc bs Q := by
  refine nC_in (d := d) (T := tX12_within) (ls := [some (eI x1), some (eI x2), some (eI x3)]) rfl (Nat.le_of_ble_eq_true rfl) rfl (fun a0 e0 => ?_)
  unfold F_X12_within at H
  refine nx_ld rfl rfl rfl rfl ?_
  refine nx_ld rfl rfl rfl rfl ?_
  refine nx_icmp rfl rfl (by rfl) H (fun H => ?_) (fun H => ?_)
  · refine nx_int (x := 0) rfl rfl ?_
    exact nx_rzl rfl rfl (by decide) H
  refine nx_ld rfl rfl rfl rfl ?_
  refine nx_ld rfl rfl rfl rfl ?_
  refine nx_icmp rfl rfl (by rfl) H (fun H => ?_) (fun H => ?_)
  · refine nx_int (x := 0) rfl rfl ?_
    exact nx_rzl rfl rfl (by decide) H
  refine nx_int (x := 1) rfl rfl ?_
  refine nx_goto rfl rfl ?_
  exact nx_rzl rfl rfl (by decide) H
def BB_X5_isOpen_2 (k2 : TS → Nat → Int32 → Int32 → Option Int32) (t : TS) (v0 : Nat) (v1 : Int32) (v2 : Int32) : Option Int32 := (if (tI t 502 v0) ≤ v2 then (some (0)) else (gd v2 (tL t 2500 v0) (gd v2 (tL t 2501 v0) (Option.bind (F_X12_within t v1 (tA t 2500 v0 v2.toNatClampNeg) (tA t 2501 v0 v2.toNatClampNeg)) (fun r21 => (if r21 = 0 then (k2 t v0 v1 (v2 + 1)) else (some (1))))))))
theorem TBB_X5_isOpen_2 {W : NW} {d : Nat} {Q : Option NV → TS → Prop} {a0 : Nat → Nat → Nat} {e0 : Nat → Nat → Bool} {t : TS} {k2 : TS → Nat → Int32 → Int32 → Option Int32} {bc bs : Nat} (hW : W.2.2.2 = mm_fx) (hk2 : ∀ (v0 : Nat) (v1 : Int32) (v2 : Int32), wp (k2 t v0 v1 v2) (fun r => Q (some (eI r)) t) → nX W (d + 1) tX5_isOpen Q a0 e0 2 [some (eR (some (5, v0))), some (eI v1), some (eI v2)] [] t bc bs) : ∀ (v0 : Nat) (v1 : Int32) (v2 : Int32), wp (BB_X5_isOpen_2 k2 t v0 v1 v2) (fun r => Q (some (eI r)) t) → nX W (d + 1) tX5_isOpen Q a0 e0 2 [some (eR (some (5, v0))), some (eI v1), some (eI v2)] [] t bc bs := by
  intro v0 v1 v2 H
  unfold BB_X5_isOpen_2 at H
  refine nx_ld rfl rfl rfl rfl ?_
  refine nx_ld rfl rfl rfl rfl ?_
  refine nx_getI rfl rfl rfl (by decide) ?_
  refine nx_icmp rfl rfl (by rfl) H (fun H => ?_) (fun H => ?_)
  · refine nx_int (x := 0) rfl rfl ?_
    exact nx_rzl rfl rfl (by decide) H
  refine nx_ld rfl rfl rfl rfl ?_
  refine nx_ld rfl rfl rfl rfl ?_
  refine nx_getFix rfl rfl rfl (by decide) (by rw [hW]; rfl) rfl ?_
  refine nx_ld rfl rfl rfl rfl ?_
  refine nx_iald (p := (2500, v0)) rfl rfl (Nat.le_of_ble_eq_true rfl) (Nat.le_of_ble_eq_true rfl) rfl H (fun H => ?_)
  refine nx_ld rfl rfl rfl rfl ?_
  refine nx_getFix rfl rfl rfl (by decide) (by rw [hW]; rfl) rfl ?_
  show nX _ _ _ _ _ _ 21 _ _ _ _ _
  refine nx_ld rfl rfl rfl rfl ?_
  refine nx_iald (p := (2501, v0)) rfl rfl (Nat.le_of_ble_eq_true rfl) (Nat.le_of_ble_eq_true rfl) rfl H (fun H => ?_)
  refine nx_cSI (as := [eI v1, eI (tA t 2500 v0 v2.toNatClampNeg), eI (tA t 2501 v0 v2.toNatClampNeg)]) (st' := []) rfl rfl (Nat.le_of_ble_eq_true rfl) rfl rfl (Nat.le_of_ble_eq_true rfl) H (fun Q H => TF_X12_within hW  H) (fun r21 H => ?_)
  refine nx_if rfl rfl (by rfl) H (fun H => ?_) (fun H => ?_)
  · refine nx_iinc2 1 (ls' := [some (eR (some (5, v0))), some (eI v1), some (eI (v2 + 1))]) rfl rfl rfl rfl rfl ?_
    refine nx_goto rfl rfl ?_
    exact hk2 _ _ _ H
  refine nx_int (x := 1) rfl rfl ?_
  exact nx_rzl rfl rfl (by decide) H
def B_X5_isOpen_2 : Nat → TS → Nat → Int32 → Int32 → Option Int32
  | 0 => fun _ _ _ _ => none
  | n + 1 => fun t v0 v1 v2 => BB_X5_isOpen_2 (B_X5_isOpen_2 n) t v0 v1 v2
theorem TB_X5_isOpen_2 {W : NW} {d : Nat} {Q : Option NV → TS → Prop} {a0 : Nat → Nat → Nat} {e0 : Nat → Nat → Bool} {t : TS} {bc bs : Nat} (hW : W.2.2.2 = mm_fx) : ∀ (n : Nat) (v0 : Nat) (v1 : Int32) (v2 : Int32), wp (B_X5_isOpen_2 n t v0 v1 v2) (fun r => Q (some (eI r)) t) → nX W (d + 1) tX5_isOpen Q a0 e0 2 [some (eR (some (5, v0))), some (eI v1), some (eI v2)] [] t bc bs := by
  intro n
  induction n with
  | zero => intro v0 v1 v2 H; exact (wp_none H).elim
  | succ n ih =>
    intro v0 v1 v2 H
    exact TBB_X5_isOpen_2 hW    ih v0 v1 v2 H
def F_X5_isOpen (t : TS) (i0 : Nat) (x1 : Int32) : Option Int32 := (B_X5_isOpen_2  10000 t i0 x1 0)
theorem TF_X5_isOpen {W : NW} {d : Nat} {t : TS} {i0 : Nat} {x1 : Int32} {Q : Option NV → TS → Prop} {bc bs : Nat} (hW : W.2.2.2 = mm_fx) (H : wp (F_X5_isOpen t i0 x1) (fun r => Q (some (eI r)) t)) : nC W (d + 2) 28 [eR (some (5, i0)), eI x1] t bc bs Q := by
  refine nC_in (d := (d + 1)) (T := tX5_isOpen) (ls := [some (eR (some (5, i0))), some (eI x1), none]) rfl (Nat.le_of_ble_eq_true rfl) rfl (fun a0 e0 => ?_)
  unfold F_X5_isOpen at H
  refine nx_int (x := 0) rfl rfl ?_
  refine nx_st (ls' := [some (eR (some (5, i0))), some (eI x1), some (eI 0)]) rfl rfl rfl (Nat.le_of_ble_eq_true rfl) rfl ?_
  exact TB_X5_isOpen_2 hW    10000 _ _ _ H
def F_X6_init (t : TS) (i0 : Nat) (x1 : Int32) (o2 : Option Nat) (o3 : Option Nat) (o4 : Option Nat) (x5 : Int32) : Option TS := (nxt (uI t 609 i0 1) (fun t21 => (nxt (uI t21 600 i0 x1) (fun t22 => (nxt (uR t22 601 i0 o2) (fun t23 => (nxt (uR t23 602 i0 o3) (fun t24 => (nxt (uR t24 603 i0 o4) (fun t25 => (nxt (uI t25 604 i0 x5) (fun t26 => (some t26)))))))))))))
theorem TF_X6_init {W : NW} {d : Nat} {t : TS} {i0 : Nat} {x1 : Int32} {o2 : Option Nat} {o3 : Option Nat} {o4 : Option Nat} {x5 : Int32} {Q : Option NV → TS → Prop} {bc bs : Nat} (hW : W.2.2.2 = mm_fx) (H : wp (F_X6_init t i0 x1 o2 o3 o4 x5) (fun r => Q none r)) : nC W (d + 1) 29 [eR (some (6, i0)), eI x1, eO 1 o2, eO 1 o3, eO 1 o4, eI x5] t bc bs Q := by
  refine nC_in (d := d) (T := tX6_init) (ls := [some (eR (some (6, i0))), some (eI x1), some (eO 1 o2), some (eO 1 o3), some (eO 1 o4), some (eI x5)]) rfl (Nat.le_of_ble_eq_true rfl) rfl (fun a0 e0 => ?_)
  unfold F_X6_init at H
  refine nx_ld rfl rfl rfl rfl ?_
  refine nx_objI rfl rfl (Nat.le_of_ble_eq_true rfl) ?_
  refine nx_ld rfl rfl rfl rfl ?_
  refine nx_int (x := 1) rfl rfl ?_
  refine nx_putI rfl rfl rfl (by decide) H (fun t21 H => ?_)
  refine nx_ld rfl rfl rfl rfl ?_
  refine nx_ld rfl rfl rfl rfl ?_
  show nX _ _ _ _ _ _ 11 _ _ _ _ _
  refine nx_putI rfl rfl rfl (by decide) H (fun t22 H => ?_)
  refine nx_ld rfl rfl rfl rfl ?_
  refine nx_ld rfl rfl rfl rfl ?_
  refine nx_putR (f := 601) (o := o2) rfl rfl rfl (by decide) (by rw [hW]; rfl) rfl (by decide) H (fun t23 H => ?_)
  refine nx_ld rfl rfl rfl rfl ?_
  refine nx_ld rfl rfl rfl rfl ?_
  refine nx_putR (f := 602) (o := o3) rfl rfl rfl (by decide) (by rw [hW]; rfl) rfl (by decide) H (fun t24 H => ?_)
  refine nx_ld rfl rfl rfl rfl ?_
  show nX _ _ _ _ _ _ 25 _ _ _ _ _
  refine nx_ld rfl rfl rfl rfl ?_
  refine nx_putR (f := 603) (o := o4) rfl rfl rfl (by decide) (by rw [hW]; rfl) rfl (by decide) H (fun t25 H => ?_)
  refine nx_ld rfl rfl rfl rfl ?_
  refine nx_ld rfl rfl rfl rfl ?_
  refine nx_putI rfl rfl rfl (by decide) H (fun t26 H => ?_)
  exact nx_rv rfl rfl H
def F_X6_shareOf (t : TS) (i0 : Nat) (x1 : Int32) : Option Int32 := (nxt (tR t 614 i0) (fun o21 => (oc o21 (some (0)) (fun j22 => (nxt (tR t 614 i0) (fun o23 => (oc o23 none (fun j24 => (Option.bind (F_X12_within t x1 0 ((Int32.ofNat (tL t 2614 j24)) - 1)) (fun r25 => (if r25 = 0 then (some (0)) else (nxt (tR t 614 i0) (fun o26 => (oc o26 none (fun j27 => (gd x1 (tL t 2614 j27) (some ((tA t 2614 j27 x1.toNatClampNeg)))))))))))))))))))
theorem TF_X6_shareOf {W : NW} {d : Nat} {t : TS} {i0 : Nat} {x1 : Int32} {Q : Option NV → TS → Prop} {bc bs : Nat} (hW : W.2.2.2 = mm_fx) (H : wp (F_X6_shareOf t i0 x1) (fun r => Q (some (eI r)) t)) : nC W (d + 2) 30 [eR (some (6, i0)), eI x1] t bc bs Q := by
  refine nC_in (d := (d + 1)) (T := tX6_shareOf) (ls := [some (eR (some (6, i0))), some (eI x1)]) rfl (Nat.le_of_ble_eq_true rfl) rfl (fun a0 e0 => ?_)
  unfold F_X6_shareOf at H
  refine nx_ld rfl rfl rfl rfl ?_
  refine nx_getR rfl rfl rfl (by decide) rfl H (fun o21 H => ?_)
  rcases o21 with _ | j22
  · replace H := oc_no H
    refine nx_null0 (c := 2614) rfl rfl ?_
    refine nx_int (x := 0) rfl rfl ?_
    exact nx_ri rfl rfl H
  replace H := oc_so H
  refine nx_null1 rfl rfl ?_
  refine nx_ld rfl rfl rfl rfl ?_
  refine nx_int (x := 0) rfl rfl ?_
  refine nx_ld rfl rfl rfl rfl ?_
  refine nx_getR rfl rfl rfl (by decide) rfl H (fun o23 H => ?_)
  rcases o23 with _ | j24
  · exact (wp_none (oc_no H)).elim
  replace H := oc_so H
  refine nx_alen (p := (2614, j24)) rfl rfl (Nat.le_of_ble_eq_true rfl) (Nat.le_of_ble_eq_true rfl) (Nat.le_of_ble_eq_true rfl) ?_
  refine nx_int (x := 1) rfl rfl ?_
  refine nx_ii rfl rfl ?_
  show nX _ _ _ _ _ _ 16 _ _ _ _ _
  refine nx_cSI (as := [eI x1, eI 0, eI ((Int32.ofNat (tL t 2614 j24)) - 1)]) (st' := []) rfl rfl (Nat.le_of_ble_eq_true rfl) rfl rfl (Nat.le_of_ble_eq_true rfl) H (fun Q H => TF_X12_within hW  H) (fun r25 H => ?_)
  refine nx_if rfl rfl (by rfl) H (fun H => ?_) (fun H => ?_)
  · refine nx_int (x := 0) rfl rfl ?_
    exact nx_ri rfl rfl H
  refine nx_ld rfl rfl rfl rfl ?_
  refine nx_getR rfl rfl rfl (by decide) rfl H (fun o26 H => ?_)
  refine nx_ld rfl rfl rfl rfl ?_
  rcases o26 with _ | j27
  · exact (wp_none (oc_no H)).elim
  replace H := oc_so H
  refine nx_iald (p := (2614, j27)) rfl rfl (Nat.le_of_ble_eq_true rfl) (Nat.le_of_ble_eq_true rfl) rfl H (fun H => ?_)
  refine nx_goto rfl rfl ?_
  exact nx_ri rfl rfl H
def F_X6_countMatches (t : TS) (i0 : Nat) (x1 : Int32) : Option TS := (if ¬ (tI t 605 i0) = 0 then (some t) else (if (tI t 608 i0) = 0 then (nxt (uI t 618 i0 ((tI t 618 i0) + x1)) (fun t21 => (if (tI t21 616 i0) ≤ 0 then (some t21) else (if ¬ (tI t21 619 i0) = 0 then (some t21) else (if (tI t21 618 i0) < (tI t21 617 i0) then (some t21) else (nxt (uI t21 619 i0 (tI t21 616 i0)) (fun t22 => (nxt (tR t22 603 i0) (fun o23 => (oc o23 none (fun j24 => (nxt (uI t22 103 j24 ((tI t22 103 j24) - (tI t22 616 i0))) (fun t25 => (nxt (tR t25 602 i0) (fun o26 => (oc o26 none (fun j27 => (nxt (uI t25 103 j27 ((tI t25 103 j27) + (tI t25 616 i0))) (fun t28 => (some t28)))))))))))))))))))) else (some t)))
theorem TF_X6_countMatches {W : NW} {d : Nat} {t : TS} {i0 : Nat} {x1 : Int32} {Q : Option NV → TS → Prop} {bc bs : Nat} (hW : W.2.2.2 = mm_fx) (H : wp (F_X6_countMatches t i0 x1) (fun r => Q none r)) : nC W (d + 1) 31 [eR (some (6, i0)), eI x1] t bc bs Q := by
  refine nC_in (d := d) (T := tX6_countMatches) (ls := [some (eR (some (6, i0))), some (eI x1)]) rfl (Nat.le_of_ble_eq_true rfl) rfl (fun a0 e0 => ?_)
  unfold F_X6_countMatches at H
  refine nx_ld rfl rfl rfl rfl ?_
  refine nx_getI rfl rfl rfl (by decide) ?_
  refine nx_if rfl rfl (by rfl) H (fun H => ?_) (fun H => ?_)
  · exact nx_rv rfl rfl H
  refine nx_ld rfl rfl rfl rfl ?_
  refine nx_getI rfl rfl rfl (by decide) ?_
  refine nx_if rfl rfl (by rfl) H (fun H => ?_) (fun H => ?_)
  · refine nx_ld rfl rfl rfl rfl ?_
    refine nx_dup rfl rfl (Nat.ne_of_beq_eq_false rfl) ?_
    refine nx_getI rfl rfl rfl (by decide) ?_
    refine nx_ld rfl rfl rfl rfl ?_
    refine nx_ii rfl rfl ?_
    refine nx_putI rfl rfl rfl (by decide) H (fun t21 H => ?_)
    refine nx_ld rfl rfl rfl rfl ?_
    show nX _ _ _ _ _ _ 26 _ _ _ _ _
    refine nx_getI rfl rfl rfl (by decide) ?_
    refine nx_if rfl rfl (by rfl) H (fun H => ?_) (fun H => ?_)
    · exact nx_rv rfl rfl H
    refine nx_ld rfl rfl rfl rfl ?_
    refine nx_getI rfl rfl rfl (by decide) ?_
    refine nx_if rfl rfl (by rfl) H (fun H => ?_) (fun H => ?_)
    · exact nx_rv rfl rfl H
    refine nx_ld rfl rfl rfl rfl ?_
    refine nx_getI rfl rfl rfl (by decide) ?_
    refine nx_ld rfl rfl rfl rfl ?_
    refine nx_getI rfl rfl rfl (by decide) ?_
    refine nx_icmp rfl rfl (by rfl) H (fun H => ?_) (fun H => ?_)
    · exact nx_rv rfl rfl H
    refine nx_ld rfl rfl rfl rfl ?_
    refine nx_ld rfl rfl rfl rfl ?_
    refine nx_getI rfl rfl rfl (by decide) ?_
    refine nx_putI rfl rfl rfl (by decide) H (fun t22 H => ?_)
    refine nx_ld rfl rfl rfl rfl ?_
    refine nx_getR rfl rfl rfl (by decide) rfl H (fun o23 H => ?_)
    refine nx_dup rfl rfl (Nat.ne_of_beq_eq_false rfl) ?_
    show nX _ _ _ _ _ _ 63 _ _ _ _ _
    rcases o23 with _ | j24
    · exact (wp_none (oc_no H)).elim
    replace H := oc_so H
    refine nx_getI rfl rfl rfl (by decide) ?_
    refine nx_ld rfl rfl rfl rfl ?_
    refine nx_getI rfl rfl rfl (by decide) ?_
    refine nx_ii rfl rfl ?_
    refine nx_putI rfl rfl rfl (by decide) H (fun t25 H => ?_)
    refine nx_ld rfl rfl rfl rfl ?_
    refine nx_getR rfl rfl rfl (by decide) rfl H (fun o26 H => ?_)
    refine nx_dup rfl rfl (Nat.ne_of_beq_eq_false rfl) ?_
    show nX _ _ _ _ _ _ 79 _ _ _ _ _
    rcases o26 with _ | j27
    · exact (wp_none (oc_no H)).elim
    replace H := oc_so H
    refine nx_getI rfl rfl rfl (by decide) ?_
    refine nx_ld rfl rfl rfl rfl ?_
    refine nx_getI rfl rfl rfl (by decide) ?_
    refine nx_ii rfl rfl ?_
    refine nx_putI rfl rfl rfl (by decide) H (fun t28 H => ?_)
    exact nx_rv rfl rfl H
  exact nx_rv rfl rfl H
def F_X6_spreadTo (t : TS) (i0 : Nat) (x1 : Int32) : Option Int32 := (nxt (tR t 607 i0) (fun o21 => (oc o21 none (fun j22 => (if ¬ (tI t 605 i0) = 0 then (some (0)) else (if ¬ (tI t 608 i0) = 0 then (some (0)) else (if (tI t 609 i0) < 1 then (some (0)) else (if x1 < ((tI t 1103 j22) / 300) then (some (0)) else (if x1 < (((tI t 1103 j22) / 300) + (tI t 609 i0)) then (gz (tI t 609 i0) (if ¬ x1 = ((tI t 1103 j22) / 300) then (some ((((tI t 604 i0) / (tI t 609 i0)) + 0))) else (gz (tI t 609 i0) (some ((((tI t 604 i0) / (tI t 609 i0)) + (irm (tI t 604 i0) (tI t 609 i0)))))))) else (some (0)))))))))))
theorem TF_X6_spreadTo {W : NW} {d : Nat} {t : TS} {i0 : Nat} {x1 : Int32} {Q : Option NV → TS → Prop} {bc bs : Nat} (hW : W.2.2.2 = mm_fx) (H : wp (F_X6_spreadTo t i0 x1) (fun r => Q (some (eI r)) t)) : nC W (d + 1) 32 [eR (some (6, i0)), eI x1] t bc bs Q := by
  refine nC_in (d := d) (T := tX6_spreadTo) (ls := [some (eR (some (6, i0))), some (eI x1), none]) rfl (Nat.le_of_ble_eq_true rfl) rfl (fun a0 e0 => ?_)
  unfold F_X6_spreadTo at H
  refine nx_ld rfl rfl rfl rfl ?_
  refine nx_getR rfl rfl rfl (by decide) rfl H (fun o21 H => ?_)
  rcases o21 with _ | j22
  · exact (wp_none (oc_no H)).elim
  replace H := oc_so H
  refine nx_getI rfl rfl rfl (by decide) ?_
  refine nx_int (x := 300) rfl rfl ?_
  refine nx_idivL rfl rfl (by decide) ?_
  refine nx_st (ls' := [some (eR (some (6, i0))), some (eI x1), some (eI ((tI t 1103 j22) / 300))]) rfl rfl rfl (Nat.le_of_ble_eq_true rfl) rfl ?_
  refine nx_ld rfl rfl rfl rfl ?_
  show nX _ _ _ _ _ _ 13 _ _ _ _ _
  refine nx_getI rfl rfl rfl (by decide) ?_
  refine nx_if rfl rfl (by rfl) H (fun H => ?_) (fun H => ?_)
  · refine nx_int (x := 0) rfl rfl ?_
    exact nx_ri rfl rfl H
  refine nx_ld rfl rfl rfl rfl ?_
  refine nx_getI rfl rfl rfl (by decide) ?_
  refine nx_if rfl rfl (by rfl) H (fun H => ?_) (fun H => ?_)
  · refine nx_int (x := 0) rfl rfl ?_
    exact nx_ri rfl rfl H
  refine nx_ld rfl rfl rfl rfl ?_
  refine nx_getI rfl rfl rfl (by decide) ?_
  refine nx_int (x := 1) rfl rfl ?_
  refine nx_icmp rfl rfl (by rfl) H (fun H => ?_) (fun H => ?_)
  · refine nx_int (x := 0) rfl rfl ?_
    exact nx_ri rfl rfl H
  refine nx_ld rfl rfl rfl rfl ?_
  refine nx_ld rfl rfl rfl rfl ?_
  refine nx_icmp rfl rfl (by rfl) H (fun H => ?_) (fun H => ?_)
  · refine nx_int (x := 0) rfl rfl ?_
    exact nx_ri rfl rfl H
  refine nx_ld rfl rfl rfl rfl ?_
  refine nx_ld rfl rfl rfl rfl ?_
  refine nx_ld rfl rfl rfl rfl ?_
  refine nx_getI rfl rfl rfl (by decide) ?_
  refine nx_ii rfl rfl ?_
  refine nx_icmp rfl rfl (by rfl) H (fun H => ?_) (fun H => ?_)
  · refine nx_ld rfl rfl rfl rfl ?_
    refine nx_getI rfl rfl rfl (by decide) ?_
    refine nx_ld rfl rfl rfl rfl ?_
    refine nx_getI rfl rfl rfl (by decide) ?_
    refine nx_idiv rfl rfl H (fun H => ?_)
    refine nx_ld rfl rfl rfl rfl ?_
    refine nx_ld rfl rfl rfl rfl ?_
    show nX _ _ _ _ _ _ 62 _ _ _ _ _
    refine nx_icmp rfl rfl (by rfl) H (fun H => ?_) (fun H => ?_)
    · refine nx_int (x := 0) rfl rfl ?_
      refine nx_ii rfl rfl ?_
      exact nx_ri rfl rfl H
    refine nx_ld rfl rfl rfl rfl ?_
    refine nx_getI rfl rfl rfl (by decide) ?_
    refine nx_ld rfl rfl rfl rfl ?_
    refine nx_getI rfl rfl rfl (by decide) ?_
    refine nx_idiv rfl rfl H (fun H => ?_)
    refine nx_goto rfl rfl ?_
    refine nx_ii rfl rfl ?_
    show nX _ _ _ _ _ _ 79 _ _ _ _ _
    exact nx_ri rfl rfl H
  refine nx_int (x := 0) rfl rfl ?_
  exact nx_ri rfl rfl H
def F_X7_init (t : TS) : Option TS := (gE (tE t 2700 0) (nxt (uN t 2700 0 160) (fun t21 => (nxt (uR t21 700 0 (some 0)) (fun t22 => (gE (tE t22 2702 0) (nxt (uN t22 2702 0 12) (fun t23 => (nxt (uR t23 702 0 (some 0)) (fun t24 => (nxt (tR t24 700 0) (fun o25 => (nxt (uR t24 704 0 o25) (fun t26 => (some t26)))))))))))))))
theorem TF_X7_init {W : NW} {d : Nat} {t : TS} {Q : Option NV → TS → Prop} {bc bs : Nat} (hW : W.2.2.2 = (fun _ => false)) (H : wp (F_X7_init t) (fun r => Q none r)) : nC W (d + 1) 33 [eR (some (7, 0))] t (bc + 2) (bs + 172) Q := by
  refine nC_in (d := d) (T := tX7_init) (ls := [some (eR (some (7, 0)))]) rfl (Nat.le_of_ble_eq_true rfl) rfl (fun a0 e0 => ?_)
  unfold F_X7_init at H
  refine nx_ld rfl rfl rfl rfl ?_
  refine nx_objI rfl rfl (Nat.le_of_ble_eq_true rfl) ?_
  refine nx_ld rfl rfl rfl rfl ?_
  refine nx_int (x := 160) rfl rfl ?_
  refine nx_newaL 2700 0 160 rfl rfl (Nat.le_of_ble_eq_true rfl) (Nat.le_of_ble_eq_true rfl) rfl rfl (by decide) (Nat.le_of_ble_eq_true rfl) (by omega) (by omega) H (fun t21 H => ?_)
  refine nx_eq (bc' := bc + 1) (bs' := bs + 12) (by omega) (by omega) ?_
  refine nx_putR (f := 700) (o := (some 0)) rfl rfl rfl (by decide) (by rw [hW]) rfl (by decide) H (fun t22 H => ?_)
  refine nx_ld rfl rfl rfl rfl ?_
  show nX _ _ _ _ _ _ 14 _ _ _ _ _
  refine nx_int (x := 12) rfl rfl ?_
  refine nx_newaL 2702 0 12 rfl rfl (Nat.le_of_ble_eq_true rfl) (Nat.le_of_ble_eq_true rfl) rfl rfl (by decide) (Nat.le_of_ble_eq_true rfl) (by omega) (by omega) H (fun t23 H => ?_)
  refine nx_eq (bc' := bc) (bs' := bs) (by omega) (by omega) ?_
  refine nx_putR (f := 702) (o := (some 0)) rfl rfl rfl (by decide) (by rw [hW]) rfl (by decide) H (fun t24 H => ?_)
  refine nx_ld rfl rfl rfl rfl ?_
  refine nx_ld rfl rfl rfl rfl ?_
  refine nx_getR rfl rfl rfl (by decide) rfl H (fun o25 H => ?_)
  refine nx_putR (f := 704) (o := o25) rfl rfl rfl (by decide) (by rw [hW]) rfl (by decide) H (fun t26 H => ?_)
  exact nx_rv rfl rfl H
def B_X7_take_47 (t : TS) (v1 : Int32) : Option (Int32 × TS) := (nxt (uI t 701 0 ((tI t 701 0) + v1)) (fun t21 => (some (1, t21))))
theorem TB_X7_take_47 {W : NW} {d : Nat} {Q : Option NV → TS → Prop} {a0 : Nat → Nat → Nat} {e0 : Nat → Nat → Bool} {bc bs : Nat} (hW : W.2.2.2 = mm_fx) : ∀ (t : TS) (v1 : Int32) (v2 : Int32) (v3 : Int32), wp (B_X7_take_47 t v1) (fun r => Q (some (eI r.1)) r.2) → nX W d tX7_take Q a0 e0 47 [some (eR (some (7, 0))), some (eI v1), some (eI v2), some (eI v3)] [] t bc bs := by
  intro t v1 v2 v3 H
  unfold B_X7_take_47 at H
  refine nx_ld rfl rfl rfl rfl ?_
  refine nx_dup rfl rfl (Nat.ne_of_beq_eq_false rfl) ?_
  refine nx_getI rfl rfl rfl (by decide) ?_
  refine nx_ld rfl rfl rfl rfl ?_
  refine nx_ii rfl rfl ?_
  refine nx_putI rfl rfl rfl (by decide) H (fun t21 H => ?_)
  refine nx_int (x := 1) rfl rfl ?_
  show nX _ _ _ _ _ _ 58 _ _ _ _ _
  exact nx_rzlt rfl rfl (by decide) H
def BB_X7_take_18 (k18 : TS → Int32 → Int32 → Int32 → Option (Int32 × TS)) (t : TS) (v1 : Int32) (v2 : Int32) (v3 : Int32) : Option (Int32 × TS) := (if v1 ≤ v3 then (B_X7_take_47  t v1) else (gd ((tI t 701 0) + v3) (tL t 2700 0) (nxt (uA t 2700 0 ((tI t 701 0) + v3).toNatClampNeg (vp_nar .byte (((v2.toUInt32 >>> ((8 * v3).toUInt32 &&& Int32.toUInt32 31)).toInt32).toInt8.toInt32))) (fun t21 => (k18 t21 v1 v2 (v3 + 1))))))
theorem TBB_X7_take_18 {W : NW} {d : Nat} {Q : Option NV → TS → Prop} {a0 : Nat → Nat → Nat} {e0 : Nat → Nat → Bool} {k18 : TS → Int32 → Int32 → Int32 → Option (Int32 × TS)} {bc bs : Nat} (hW : W.2.2.2 = mm_fx) (hk18 : ∀ (t : TS) (v1 : Int32) (v2 : Int32) (v3 : Int32), wp (k18 t v1 v2 v3) (fun r => Q (some (eI r.1)) r.2) → nX W d tX7_take Q a0 e0 18 [some (eR (some (7, 0))), some (eI v1), some (eI v2), some (eI v3)] [] t bc bs) : ∀ (t : TS) (v1 : Int32) (v2 : Int32) (v3 : Int32), wp (BB_X7_take_18 k18 t v1 v2 v3) (fun r => Q (some (eI r.1)) r.2) → nX W d tX7_take Q a0 e0 18 [some (eR (some (7, 0))), some (eI v1), some (eI v2), some (eI v3)] [] t bc bs := by
  intro t v1 v2 v3 H
  unfold BB_X7_take_18 at H
  refine nx_ld rfl rfl rfl rfl ?_
  refine nx_ld rfl rfl rfl rfl ?_
  refine nx_icmp rfl rfl (by rfl) H (fun H => ?_) (fun H => ?_)
  · exact TB_X7_take_47 hW    _ _ _ _ H
  refine nx_ld rfl rfl rfl rfl ?_
  refine nx_getFix rfl rfl rfl (by decide) (by rw [hW]; rfl) rfl ?_
  refine nx_ld rfl rfl rfl rfl ?_
  refine nx_getI rfl rfl rfl (by decide) ?_
  refine nx_ld rfl rfl rfl rfl ?_
  refine nx_ii rfl rfl ?_
  refine nx_ld rfl rfl rfl rfl ?_
  show nX _ _ _ _ _ _ 34 _ _ _ _ _
  refine nx_int (x := 8) rfl rfl ?_
  refine nx_ld rfl rfl rfl rfl ?_
  refine nx_ii rfl rfl ?_
  refine nx_ii rfl rfl ?_
  refine nx_i1 rfl rfl ?_
  refine nx_bast (c := 2700) (i := 0) rfl rfl (Nat.le_of_ble_eq_true rfl) (Nat.le_of_ble_eq_true rfl) rfl H (fun t21 H => ?_)
  refine nx_iinc2 1 (ls' := [some (eR (some (7, 0))), some (eI v1), some (eI v2), some (eI (v3 + 1))]) rfl rfl rfl rfl rfl ?_
  refine nx_goto rfl rfl ?_
  exact hk18 _ _ _ _ H
def B_X7_take_18 : Nat → TS → Int32 → Int32 → Int32 → Option (Int32 × TS)
  | 0 => fun _ _ _ _ => none
  | n + 1 => fun t v1 v2 v3 => BB_X7_take_18 (B_X7_take_18 n) t v1 v2 v3
theorem TB_X7_take_18 {W : NW} {d : Nat} {Q : Option NV → TS → Prop} {a0 : Nat → Nat → Nat} {e0 : Nat → Nat → Bool} {bc bs : Nat} (hW : W.2.2.2 = mm_fx) : ∀ (n : Nat) (t : TS) (v1 : Int32) (v2 : Int32) (v3 : Int32), wp (B_X7_take_18 n t v1 v2 v3) (fun r => Q (some (eI r.1)) r.2) → nX W d tX7_take Q a0 e0 18 [some (eR (some (7, 0))), some (eI v1), some (eI v2), some (eI v3)] [] t bc bs := by
  intro n
  induction n with
  | zero => intro t v1 v2 v3 H; exact (wp_none H).elim
  | succ n ih =>
    intro t v1 v2 v3 H
    exact TBB_X7_take_18 hW    ih t v1 v2 v3 H
def F_X7_take (t : TS) (x1 : Int32) (x2 : Int32) : Option (Int32 × TS) := (if x1 ≤ ((Int32.ofNat (tL t 2700 0)) - (tI t 701 0)) then (B_X7_take_18  10000 t x1 x2 0) else (some (0, t)))
theorem TF_X7_take {W : NW} {d : Nat} {t : TS} {x1 : Int32} {x2 : Int32} {Q : Option NV → TS → Prop} {bc bs : Nat} (hW : W.2.2.2 = mm_fx) (H : wp (F_X7_take t x1 x2) (fun r => Q (some (eI r.1)) r.2)) : nC W (d + 1) 34 [eR (some (7, 0)), eI x1, eI x2] t bc bs Q := by
  refine nC_in (d := d) (T := tX7_take) (ls := [some (eR (some (7, 0))), some (eI x1), some (eI x2), none]) rfl (Nat.le_of_ble_eq_true rfl) rfl (fun a0 e0 => ?_)
  unfold F_X7_take at H
  refine nx_ld rfl rfl rfl rfl ?_
  refine nx_ld rfl rfl rfl rfl ?_
  refine nx_getFix rfl rfl rfl (by decide) (by rw [hW]; rfl) rfl ?_
  refine nx_alen (p := (2700, 0)) rfl rfl (Nat.le_of_ble_eq_true rfl) (Nat.le_of_ble_eq_true rfl) (Nat.le_of_ble_eq_true rfl) ?_
  refine nx_ld rfl rfl rfl rfl ?_
  refine nx_getI rfl rfl rfl (by decide) ?_
  refine nx_ii rfl rfl ?_
  show nX _ _ _ _ _ _ 11 _ _ _ _ _
  refine nx_icmp rfl rfl (by rfl) H (fun H => ?_) (fun H => ?_)
  · refine nx_int (x := 0) rfl rfl ?_
    refine nx_st (ls' := [some (eR (some (7, 0))), some (eI x1), some (eI x2), some (eI 0)]) rfl rfl rfl (Nat.le_of_ble_eq_true rfl) rfl ?_
    exact TB_X7_take_18 hW    10000 _ _ _ _ H
  refine nx_int (x := 0) rfl rfl ?_
  exact nx_rzlt rfl rfl (by decide) H
def F_X7_tapeText (t : TS) : Option (Option Nat × TS) := (gn (tI t 701 0) 160 (gE (tE t 2700 ((tI t 1212 0).toNatClampNeg + 1)) (nxt (uN t 2700 ((tI t 1212 0).toNatClampNeg + 1) (tI t 701 0).toNatClampNeg) (fun t21 => (gc (tI t21 701 0) (0 : Int32) (0 : Int32) (tL t21 2700 0) (tL t21 2700 ((tI t 1212 0).toNatClampNeg + 1)) (gf (fun x => tA t21 2700 0 ((0 : Int32).toNatClampNeg + x)) (tI t21 701 0).toNatClampNeg (nxt (uCA t21 2700 0 (0 : Int32).toNatClampNeg 2700 ((tI t 1212 0).toNatClampNeg + 1) (0 : Int32).toNatClampNeg (tI t21 701 0).toNatClampNeg) (fun t22 => (some ((some ((tI t 1212 0).toNatClampNeg + 1)), t22))))))))))
theorem TF_X7_tapeText {W : NW} {d : Nat} {t : TS} {Q : Option NV → TS → Prop} {bc bs : Nat} (hW : W.2.2.2 = mm_fx) (H : wp (F_X7_tapeText t) (fun r => Q (some (eO 2700 r.1)) r.2)) : nC W (d + 1) 35 [eR (some (7, 0))] t (bc + 1) (bs + 160) Q := by
  refine nC_in (d := d) (T := tX7_tapeText) (ls := [some (eR (some (7, 0))), none]) rfl (Nat.le_of_ble_eq_true rfl) rfl (fun a0 e0 => ?_)
  unfold F_X7_tapeText at H
  refine nx_ld rfl rfl rfl rfl ?_
  refine nx_getI rfl rfl rfl (by decide) ?_
  refine nx_newa 2700 ((tI t 1212 0).toNatClampNeg + 1) 160 rfl rfl (Nat.le_of_ble_eq_true rfl) (Nat.le_of_ble_eq_true rfl) rfl (Nat.le_of_ble_eq_true rfl) (by omega) (by omega) H (fun t21 H => ?_)
  refine nx_st (ls' := [some (eR (some (7, 0))), some (eR (some (2700, ((tI t 1212 0).toNatClampNeg + 1))))]) rfl rfl rfl (Nat.le_of_ble_eq_true rfl) rfl ?_
  refine nx_ld rfl rfl rfl rfl ?_
  refine nx_getFix rfl rfl rfl (by decide) (by rw [hW]; rfl) rfl ?_
  refine nx_int (x := 0) rfl rfl ?_
  show nX _ _ _ _ _ _ 12 _ _ _ _ _
  refine nx_ld rfl rfl rfl rfl ?_
  refine nx_int (x := 0) rfl rfl ?_
  refine nx_ld rfl rfl rfl rfl ?_
  refine nx_getI rfl rfl rfl (by decide) ?_
  refine nx_copA (c1 := 2700) (i1 := 0) (c2 := 2700) (i2 := ((tI t 1212 0).toNatClampNeg + 1)) rfl rfl (Nat.le_of_ble_eq_true rfl) (Nat.le_of_ble_eq_true rfl) (Nat.le_of_ble_eq_true rfl) rfl (Nat.le_of_ble_eq_true rfl) (Nat.le_of_ble_eq_true rfl) rfl H (fun t22 H => ?_)
  refine nx_ld rfl rfl rfl rfl ?_
  exact nx_rot 2700 (some ((tI t 1212 0).toNatClampNeg + 1)) rfl rfl H
def F_X7_begin (t : TS) (o1 : Option Nat) (x2 : Int32) : Option TS := (nxt (uR t 704 0 o1) (fun t21 => (oc o1 none (fun j22 => (nxt (uI t21 705 0 (if (Int32.ofNat (tL t21 2700 j22)) < x2 then (Int32.ofNat (tL t21 2700 j22)) else x2)) (fun t23 => (nxt (uI t23 706 0 0) (fun t24 => (nxt (uI t24 707 0 (-1)) (fun t25 => (nxt (uI t25 703 0 0) (fun t26 => (some t26)))))))))))))
theorem TF_X7_begin {W : NW} {d : Nat} {t : TS} {o1 : Option Nat} {x2 : Int32} {Q : Option NV → TS → Prop} {bc bs : Nat} (hW : W.2.2.2 = mm_fx) (H : wp (F_X7_begin t o1 x2) (fun r => Q none r)) : nC W (d + 1) 38 [eR (some (7, 0)), eO 2700 o1, eI x2] t bc bs Q := by
  refine nC_in (d := d) (T := tX7_begin) (ls := [some (eR (some (7, 0))), some (eO 2700 o1), some (eI x2)]) rfl (Nat.le_of_ble_eq_true rfl) rfl (fun a0 e0 => ?_)
  unfold F_X7_begin at H
  refine nx_ld rfl rfl rfl rfl ?_
  refine nx_ld rfl rfl rfl rfl ?_
  refine nx_putR (f := 704) (o := o1) rfl rfl rfl (by decide) (by rw [hW]; rfl) rfl (by decide) H (fun t21 H => ?_)
  refine nx_ld rfl rfl rfl rfl ?_
  refine nx_ld rfl rfl rfl rfl ?_
  refine nx_ld rfl rfl rfl rfl ?_
  rcases o1 with _ | j22
  · exact (wp_none (oc_no H)).elim
  replace H := oc_so H
  refine nx_alen (p := (2700, j22)) rfl rfl (Nat.le_of_ble_eq_true rfl) (Nat.le_of_ble_eq_true rfl) (Nat.le_of_ble_eq_true rfl) ?_
  show nX _ _ _ _ _ _ 9 _ _ _ _ _
  refine nx_ext2 rfl rfl (Nat.le_of_ble_eq_true rfl) ?_
  refine nx_putI rfl rfl rfl (by decide) H (fun t23 H => ?_)
  refine nx_ld rfl rfl rfl rfl ?_
  refine nx_int (x := 0) rfl rfl ?_
  refine nx_putI rfl rfl rfl (by decide) H (fun t24 H => ?_)
  refine nx_ld rfl rfl rfl rfl ?_
  refine nx_int (x := (-1)) rfl rfl ?_
  refine nx_putI rfl rfl rfl (by decide) H (fun t25 H => ?_)
  show nX _ _ _ _ _ _ 25 _ _ _ _ _
  refine nx_ld rfl rfl rfl rfl ?_
  refine nx_int (x := 0) rfl rfl ?_
  refine nx_putI rfl rfl rfl (by decide) H (fun t26 H => ?_)
  exact nx_rv rfl rfl H
def F_X7_peek (t : TS) : Option Int32 := (if (tI t 705 0) ≤ (tI t 706 0) then (some ((-1))) else (nxt (tR t 704 0) (fun o21 => (oc o21 none (fun j22 => (gd (tI t 706 0) (tL t 2700 j22) (some (((tA t 2700 j22 (tI t 706 0).toNatClampNeg) &&& 255)))))))))
theorem TF_X7_peek {W : NW} {d : Nat} {t : TS} {Q : Option NV → TS → Prop} {bc bs : Nat} (hW : W.2.2.2 = mm_fx) (H : wp (F_X7_peek t) (fun r => Q (some (eI r)) t)) : nC W (d + 1) 39 [eR (some (7, 0))] t bc bs Q := by
  refine nC_in (d := d) (T := tX7_peek) (ls := [some (eR (some (7, 0)))]) rfl (Nat.le_of_ble_eq_true rfl) rfl (fun a0 e0 => ?_)
  unfold F_X7_peek at H
  refine nx_ld rfl rfl rfl rfl ?_
  refine nx_getI rfl rfl rfl (by decide) ?_
  refine nx_ld rfl rfl rfl rfl ?_
  refine nx_getI rfl rfl rfl (by decide) ?_
  refine nx_icmp rfl rfl (by rfl) H (fun H => ?_) (fun H => ?_)
  · refine nx_int (x := (-1)) rfl rfl ?_
    exact nx_ri rfl rfl H
  refine nx_ld rfl rfl rfl rfl ?_
  refine nx_getR rfl rfl rfl (by decide) rfl H (fun o21 H => ?_)
  refine nx_ld rfl rfl rfl rfl ?_
  refine nx_getI rfl rfl rfl (by decide) ?_
  rcases o21 with _ | j22
  · exact (wp_none (oc_no H)).elim
  replace H := oc_so H
  refine nx_bald (c := 2700) (i := j22) rfl rfl (Nat.le_of_ble_eq_true rfl) (Nat.le_of_ble_eq_true rfl) (Or.inl rfl) H (fun H => ?_)
  refine nx_int (x := 255) rfl rfl ?_
  refine nx_ii rfl rfl ?_
  show nX _ _ _ _ _ _ 24 _ _ _ _ _
  refine nx_goto rfl rfl ?_
  exact nx_ri rfl rfl H
def F_X7_fail (t : TS) : Option (Int32 × TS) := (if 0 ≤ (tI t 707 0) then (some (0, t)) else (nxt (uI t 707 0 (tI t 706 0)) (fun t21 => (some (0, t21)))))
theorem TF_X7_fail {W : NW} {d : Nat} {t : TS} {Q : Option NV → TS → Prop} {bc bs : Nat} (hW : W.2.2.2 = mm_fx) (H : wp (F_X7_fail t) (fun r => Q (some (eI r.1)) r.2)) : nC W (d + 1) 40 [eR (some (7, 0))] t bc bs Q := by
  refine nC_in (d := d) (T := tX7_fail) (ls := [some (eR (some (7, 0)))]) rfl (Nat.le_of_ble_eq_true rfl) rfl (fun a0 e0 => ?_)
  unfold F_X7_fail at H
  refine nx_ld rfl rfl rfl rfl ?_
  refine nx_getI rfl rfl rfl (by decide) ?_
  refine nx_if rfl rfl (by rfl) H (fun H => ?_) (fun H => ?_)
  · refine nx_int (x := 0) rfl rfl ?_
    exact nx_rit rfl rfl H
  refine nx_ld rfl rfl rfl rfl ?_
  refine nx_ld rfl rfl rfl rfl ?_
  refine nx_getI rfl rfl rfl (by decide) ?_
  refine nx_putI rfl rfl rfl (by decide) H (fun t21 H => ?_)
  refine nx_int (x := 0) rfl rfl ?_
  exact nx_rit rfl rfl H
def B_X7_pass_44 (t : TS) : Option TS := (ob2 (F_X7_fail t) (fun x22 t23 => (some t23)))
theorem TB_X7_pass_44 {W : NW} {d : Nat} {Q : Option NV → TS → Prop} {a0 : Nat → Nat → Nat} {e0 : Nat → Nat → Bool} {bc bs : Nat} (hW : W.2.2.2 = mm_fx) : ∀ (t : TS) (v1 : Int32), wp (B_X7_pass_44 t) (fun r => Q none r) → nX W (d + 1) tX7_pass Q a0 e0 44 [some (eR (some (7, 0))), some (eI v1)] [] t bc bs := by
  intro t v1 H
  unfold B_X7_pass_44 at H
  refine nx_ld rfl rfl rfl rfl ?_
  refine nx_cVI2 (as := []) (st' := []) rfl rfl (Nat.le_of_ble_eq_true rfl) rfl rfl (Nat.le_of_ble_eq_true rfl) (c0 := 7) rfl (by decide) H (fun Q H => TF_X7_fail hW  H) (fun x22 t23 H => ?_)
  refine nx_pop rfl rfl (Nat.ne_of_beq_eq_false rfl) ?_
  exact nx_rv rfl rfl H
def F_X7_pass (t : TS) (x1 : Int32) : Option TS := (if 0 ≤ (tI t 707 0) then (B_X7_pass_44  t) else (if (tI t 705 0) ≤ (tI t 706 0) then (B_X7_pass_44  t) else (nxt (tR t 704 0) (fun o21 => (oc o21 none (fun j22 => (gd (tI t 706 0) (tL t 2700 j22) (if ¬ (tA t 2700 j22 (tI t 706 0).toNatClampNeg) = x1 then (B_X7_pass_44  t) else (nxt (uI t 706 0 ((tI t 706 0) + 1)) (fun t23 => (some t23)))))))))))
theorem TF_X7_pass {W : NW} {d : Nat} {t : TS} {x1 : Int32} {Q : Option NV → TS → Prop} {bc bs : Nat} (hW : W.2.2.2 = mm_fx) (H : wp (F_X7_pass t x1) (fun r => Q none r)) : nC W (d + 2) 41 [eR (some (7, 0)), eI x1] t bc bs Q := by
  refine nC_in (d := (d + 1)) (T := tX7_pass) (ls := [some (eR (some (7, 0))), some (eI x1)]) rfl (Nat.le_of_ble_eq_true rfl) rfl (fun a0 e0 => ?_)
  unfold F_X7_pass at H
  refine nx_ld rfl rfl rfl rfl ?_
  refine nx_getI rfl rfl rfl (by decide) ?_
  refine nx_if rfl rfl (by rfl) H (fun H => ?_) (fun H => ?_)
  · exact TB_X7_pass_44 hW    _ _ H
  refine nx_ld rfl rfl rfl rfl ?_
  refine nx_getI rfl rfl rfl (by decide) ?_
  refine nx_ld rfl rfl rfl rfl ?_
  refine nx_getI rfl rfl rfl (by decide) ?_
  refine nx_icmp rfl rfl (by rfl) H (fun H => ?_) (fun H => ?_)
  · exact TB_X7_pass_44 hW    _ _ H
  refine nx_ld rfl rfl rfl rfl ?_
  refine nx_getR rfl rfl rfl (by decide) rfl H (fun o21 H => ?_)
  refine nx_ld rfl rfl rfl rfl ?_
  refine nx_getI rfl rfl rfl (by decide) ?_
  rcases o21 with _ | j22
  · exact (wp_none (oc_no H)).elim
  replace H := oc_so H
  refine nx_bald (c := 2700) (i := j22) rfl rfl (Nat.le_of_ble_eq_true rfl) (Nat.le_of_ble_eq_true rfl) (Or.inl rfl) H (fun H => ?_)
  refine nx_ld rfl rfl rfl rfl ?_
  refine nx_icmp rfl rfl (by rfl) H (fun H => ?_) (fun H => ?_)
  · exact TB_X7_pass_44 hW    _ _ H
  refine nx_ld rfl rfl rfl rfl ?_
  refine nx_dup rfl rfl (Nat.ne_of_beq_eq_false rfl) ?_
  refine nx_getI rfl rfl rfl (by decide) ?_
  refine nx_int (x := 1) rfl rfl ?_
  refine nx_ii rfl rfl ?_
  refine nx_putI rfl rfl rfl (by decide) H (fun t23 H => ?_)
  refine nx_goto rfl rfl ?_
  show nX _ _ _ _ _ _ 49 _ _ _ _ _
  exact nx_rv rfl rfl H
def BB_X7_number_4 (k4 : TS → Int32 → Int32 → Option (Int32 × TS)) (t : TS) (v1 : Int32) (v2 : Int32) : Option (Int32 × TS) := (if 7 ≤ v2 then (some (v1, t)) else (Option.bind (F_X7_peek t) (fun r21 => (Option.bind (F_X12_within t r21 48 57) (fun r22 => (if r22 = 0 then (some (v1, t)) else (nxt (tR t 704 0) (fun o23 => (oc o23 none (fun j24 => (gd (tI t 706 0) (tL t 2700 j24) (nxt (uI t 706 0 ((tI t 706 0) + 1)) (fun t25 => (k4 t25 (((v1 * 10) + (tA t 2700 j24 (tI t 706 0).toNatClampNeg)) - 48) (v2 + 1)))))))))))))))
theorem TBB_X7_number_4 {W : NW} {d : Nat} {Q : Option NV → TS → Prop} {a0 : Nat → Nat → Nat} {e0 : Nat → Nat → Bool} {k4 : TS → Int32 → Int32 → Option (Int32 × TS)} {bc bs : Nat} (hW : W.2.2.2 = mm_fx) (hk4 : ∀ (t : TS) (v1 : Int32) (v2 : Int32), wp (k4 t v1 v2) (fun r => Q (some (eI r.1)) r.2) → nX W (d + 1) tX7_number Q a0 e0 4 [some (eR (some (7, 0))), some (eI v1), some (eI v2)] [] t bc bs) : ∀ (t : TS) (v1 : Int32) (v2 : Int32), wp (BB_X7_number_4 k4 t v1 v2) (fun r => Q (some (eI r.1)) r.2) → nX W (d + 1) tX7_number Q a0 e0 4 [some (eR (some (7, 0))), some (eI v1), some (eI v2)] [] t bc bs := by
  intro t v1 v2 H
  unfold BB_X7_number_4 at H
  refine nx_ld rfl rfl rfl rfl ?_
  refine nx_int (x := 7) rfl rfl ?_
  refine nx_icmp rfl rfl (by rfl) H (fun H => ?_) (fun H => ?_)
  · refine nx_ld rfl rfl rfl rfl ?_
    exact nx_rit rfl rfl H
  refine nx_ld rfl rfl rfl rfl ?_
  refine nx_cVI (as := []) (st' := []) rfl rfl (Nat.le_of_ble_eq_true rfl) rfl rfl (Nat.le_of_ble_eq_true rfl) (c0 := 7) rfl (by decide) H (fun Q H => TF_X7_peek hW  H) (fun r21 H => ?_)
  refine nx_int (x := 48) rfl rfl ?_
  refine nx_int (x := 57) rfl rfl ?_
  refine nx_cSI (as := [eI r21, eI 48, eI 57]) (st' := []) rfl rfl (Nat.le_of_ble_eq_true rfl) rfl rfl (Nat.le_of_ble_eq_true rfl) H (fun Q H => TF_X12_within hW  H) (fun r22 H => ?_)
  refine nx_if rfl rfl (by rfl) H (fun H => ?_) (fun H => ?_)
  · refine nx_ld rfl rfl rfl rfl ?_
    exact nx_rit rfl rfl H
  refine nx_ld rfl rfl rfl rfl ?_
  refine nx_int (x := 10) rfl rfl ?_
  refine nx_ii rfl rfl ?_
  refine nx_ld rfl rfl rfl rfl ?_
  refine nx_getR rfl rfl rfl (by decide) rfl H (fun o23 H => ?_)
  refine nx_ld rfl rfl rfl rfl ?_
  refine nx_getI rfl rfl rfl (by decide) ?_
  show nX _ _ _ _ _ _ 36 _ _ _ _ _
  rcases o23 with _ | j24
  · exact (wp_none (oc_no H)).elim
  replace H := oc_so H
  refine nx_bald (c := 2700) (i := j24) rfl rfl (Nat.le_of_ble_eq_true rfl) (Nat.le_of_ble_eq_true rfl) (Or.inl rfl) H (fun H => ?_)
  refine nx_ii rfl rfl ?_
  refine nx_int (x := 48) rfl rfl ?_
  refine nx_ii rfl rfl ?_
  refine nx_st (ls' := [some (eR (some (7, 0))), some (eI (((v1 * 10) + (tA t 2700 j24 (tI t 706 0).toNatClampNeg)) - 48)), some (eI v2)]) rfl rfl rfl (Nat.le_of_ble_eq_true rfl) rfl ?_
  refine nx_ld rfl rfl rfl rfl ?_
  refine nx_dup rfl rfl (Nat.ne_of_beq_eq_false rfl) ?_
  refine nx_getI rfl rfl rfl (by decide) ?_
  show nX _ _ _ _ _ _ 47 _ _ _ _ _
  refine nx_int (x := 1) rfl rfl ?_
  refine nx_ii rfl rfl ?_
  refine nx_putI rfl rfl rfl (by decide) H (fun t25 H => ?_)
  refine nx_iinc2 1 (ls' := [some (eR (some (7, 0))), some (eI (((v1 * 10) + (tA t 2700 j24 (tI t 706 0).toNatClampNeg)) - 48)), some (eI (v2 + 1))]) rfl rfl rfl rfl rfl ?_
  refine nx_goto rfl rfl ?_
  exact hk4 _ _ _ H
def B_X7_number_4 : Nat → TS → Int32 → Int32 → Option (Int32 × TS)
  | 0 => fun _ _ _ => none
  | n + 1 => fun t v1 v2 => BB_X7_number_4 (B_X7_number_4 n) t v1 v2
theorem TB_X7_number_4 {W : NW} {d : Nat} {Q : Option NV → TS → Prop} {a0 : Nat → Nat → Nat} {e0 : Nat → Nat → Bool} {bc bs : Nat} (hW : W.2.2.2 = mm_fx) : ∀ (n : Nat) (t : TS) (v1 : Int32) (v2 : Int32), wp (B_X7_number_4 n t v1 v2) (fun r => Q (some (eI r.1)) r.2) → nX W (d + 1) tX7_number Q a0 e0 4 [some (eR (some (7, 0))), some (eI v1), some (eI v2)] [] t bc bs := by
  intro n
  induction n with
  | zero => intro t v1 v2 H; exact (wp_none H).elim
  | succ n ih =>
    intro t v1 v2 H
    exact TBB_X7_number_4 hW    ih t v1 v2 H
def F_X7_number (t : TS) : Option (Int32 × TS) := (B_X7_number_4  10000 t 0 0)
theorem TF_X7_number {W : NW} {d : Nat} {t : TS} {Q : Option NV → TS → Prop} {bc bs : Nat} (hW : W.2.2.2 = mm_fx) (H : wp (F_X7_number t) (fun r => Q (some (eI r.1)) r.2)) : nC W (d + 2) 48 [eR (some (7, 0))] t bc bs Q := by
  refine nC_in (d := (d + 1)) (T := tX7_number) (ls := [some (eR (some (7, 0))), none, none]) rfl (Nat.le_of_ble_eq_true rfl) rfl (fun a0 e0 => ?_)
  unfold F_X7_number at H
  refine nx_int (x := 0) rfl rfl ?_
  refine nx_st (ls' := [some (eR (some (7, 0))), some (eI 0), none]) rfl rfl rfl (Nat.le_of_ble_eq_true rfl) rfl ?_
  refine nx_int (x := 0) rfl rfl ?_
  refine nx_st (ls' := [some (eR (some (7, 0))), some (eI 0), some (eI 0)]) rfl rfl rfl (Nat.le_of_ble_eq_true rfl) rfl ?_
  exact TB_X7_number_4 hW    10000 _ _ _ H
def F_J0_isLatin1_aae02 (t : TS) : Option Int32 := (some (1))
theorem TF_J0_isLatin1_aae02 {W : NW} {d : Nat} {t : TS} {Q : Option NV → TS → Prop} {bc bs : Nat} (hW : W.2.2.2 = mm_fx) (H : wp (F_J0_isLatin1_aae02 t) (fun r => Q (some (eI r)) t)) : nC W (d + 1) 279 [eR (some (5100, 0))] t bc bs Q := by
  refine nC_in (d := d) (T := tJ0_isLatin1_aae02) (ls := [some (eR (some (5100, 0)))]) rfl (Nat.le_of_ble_eq_true rfl) rfl (fun a0 e0 => ?_)
  unfold F_J0_isLatin1_aae02 at H
  refine nx_int (x := 1) rfl rfl ?_
  refine nx_ifF (c := .eq) rfl rfl (show ¬ ((1 : Int32) = 0) by decide) ?_
  refine nx_ld rfl rfl rfl rfl ?_
  refine nx_gsc rfl rfl ?_
  refine nx_ifF (c := .ne) rfl rfl (show ¬ (¬ ((0 : Int32) = 0)) by decide) ?_
  refine nx_int (x := 1) rfl rfl ?_
  refine nx_goto rfl rfl ?_
  show nX _ _ _ _ _ _ 18 _ _ _ _ _
  exact nx_rzl rfl rfl (by decide) H
def F_J0_coder_7d493 (t : TS) : Option Int32 := (some (0))
theorem TF_J0_coder_7d493 {W : NW} {d : Nat} {t : TS} {Q : Option NV → TS → Prop} {bc bs : Nat} (hW : W.2.2.2 = mm_fx) (H : wp (F_J0_coder_7d493 t) (fun r => Q (some (eI r)) t)) : nC W (d + 1) 278 [eR (some (5100, 0))] t bc bs Q := by
  refine nC_in (d := d) (T := tJ0_coder_7d493) (ls := [some (eR (some (5100, 0)))]) rfl (Nat.le_of_ble_eq_true rfl) rfl (fun a0 e0 => ?_)
  unfold F_J0_coder_7d493 at H
  refine nx_int (x := 1) rfl rfl ?_
  refine nx_ifF (c := .eq) rfl rfl (show ¬ ((1 : Int32) = 0) by decide) ?_
  refine nx_ld rfl rfl rfl rfl ?_
  refine nx_gsc rfl rfl ?_
  refine nx_goto rfl rfl ?_
  exact nx_rb rfl rfl (by decide) H
def F_J0_length_8abf5 (t : TS) : Option Int32 := (Option.bind (F_J0_coder_7d493 t) (fun r21 => (some (((12 : Int32) >>> (r21 &&& 31))))))
theorem TF_J0_length_8abf5 {W : NW} {d : Nat} {t : TS} {Q : Option NV → TS → Prop} {bc bs : Nat} (hW : W.2.2.2 = mm_fx) (H : wp (F_J0_length_8abf5 t) (fun r => Q (some (eI r)) t)) : nC W (d + 2) 275 [eR (some (5100, 0))] t bc bs Q := by
  refine nC_in (d := (d + 1)) (T := tJ0_length_8abf5) (ls := [some (eR (some (5100, 0)))]) rfl (Nat.le_of_ble_eq_true rfl) rfl (fun a0 e0 => ?_)
  unfold F_J0_length_8abf5 at H
  refine nx_ld rfl rfl rfl rfl ?_
  refine nx_gsv rfl rfl ?_
  refine nx_alenT rfl rfl ?_
  refine nx_ld rfl rfl rfl rfl ?_
  refine nx_cTI (as := []) (st' := [eI 12]) rfl rfl (Nat.le_of_ble_eq_true rfl) rfl rfl (Nat.le_of_ble_eq_true rfl) H (fun Q H => TF_J0_coder_7d493 hW  H) (fun r21 H => ?_)
  refine nx_ii rfl rfl ?_
  exact nx_ri rfl rfl H
def F_J1_canEncode_9a6ad (t : TS) (x1 : Int32) : Option Int32 := (if x1 < 0 then (some (0)) else (if 255 < x1 then (some (0)) else (some (1))))
theorem TF_J1_canEncode_9a6ad {W : NW} {d : Nat} {t : TS} {x1 : Int32} {Q : Option NV → TS → Prop} {bc bs : Nat} (hW : W.2.2.2 = mm_fx) (H : wp (F_J1_canEncode_9a6ad t x1) (fun r => Q (some (eI r)) t)) : nC W (d + 1) 280 [eI x1] t bc bs Q := by
  refine nC_in (d := d) (T := tJ1_canEncode_9a6ad) (ls := [some (eI x1)]) rfl (Nat.le_of_ble_eq_true rfl) rfl (fun a0 e0 => ?_)
  unfold F_J1_canEncode_9a6ad at H
  refine nx_ld rfl rfl rfl rfl ?_
  refine nx_if rfl rfl (by rfl) H (fun H => ?_) (fun H => ?_)
  · refine nx_int (x := 0) rfl rfl ?_
    exact nx_rzl rfl rfl (by decide) H
  refine nx_ld rfl rfl rfl rfl ?_
  refine nx_int (x := 255) rfl rfl ?_
  refine nx_icmp rfl rfl (by rfl) H (fun H => ?_) (fun H => ?_)
  · refine nx_int (x := 0) rfl rfl ?_
    exact nx_rzl rfl rfl (by decide) H
  refine nx_int (x := 1) rfl rfl ?_
  refine nx_goto rfl rfl ?_
  exact nx_rzl rfl rfl (by decide) H
def BB_J1_indexOfChar_4cfef_7 (k7 : TS → Int32 → Int32 → Int32 → Option Int32) (t : TS) (v3 : Int32) (v4 : Int32) (v5 : Int32) : Option Int32 := (if v3 ≤ v5 then (some ((-1))) else (gd v5 12 (if ¬ (mm_nm.getD v5.toNatClampNeg 0) = v4 then (k7 t v3 v4 (v5 + 1)) else (some (v5)))))
theorem TBB_J1_indexOfChar_4cfef_7 {W : NW} {d : Nat} {Q : Option NV → TS → Prop} {a0 : Nat → Nat → Nat} {e0 : Nat → Nat → Bool} {t : TS} {k7 : TS → Int32 → Int32 → Int32 → Option Int32} {bc bs : Nat} (hW : W.2.2.2 = mm_fx) (hk7 : ∀ (v1 : Int32) (v2 : Int32) (v3 : Int32) (v4 : Int32) (v5 : Int32), wp (k7 t v3 v4 v5) (fun r => Q (some (eI r)) t) → nX W d tJ1_indexOfChar_4cfef Q a0 e0 7 [some (eR (some (5101, 0))), some (eI v1), some (eI v2), some (eI v3), some (eI v4), some (eI v5)] [] t bc bs) : ∀ (v1 : Int32) (v2 : Int32) (v3 : Int32) (v4 : Int32) (v5 : Int32), wp (BB_J1_indexOfChar_4cfef_7 k7 t v3 v4 v5) (fun r => Q (some (eI r)) t) → nX W d tJ1_indexOfChar_4cfef Q a0 e0 7 [some (eR (some (5101, 0))), some (eI v1), some (eI v2), some (eI v3), some (eI v4), some (eI v5)] [] t bc bs := by
  intro v1 v2 v3 v4 v5 H
  unfold BB_J1_indexOfChar_4cfef_7 at H
  refine nx_ld rfl rfl rfl rfl ?_
  refine nx_ld rfl rfl rfl rfl ?_
  refine nx_icmp rfl rfl (by rfl) H (fun H => ?_) (fun H => ?_)
  · refine nx_int (x := (-1)) rfl rfl ?_
    exact nx_ri rfl rfl H
  refine nx_ld rfl rfl rfl rfl ?_
  refine nx_ld rfl rfl rfl rfl ?_
  refine nx_baldT rfl rfl H (fun H => ?_)
  refine nx_ld rfl rfl rfl rfl ?_
  refine nx_icmp rfl rfl (by rfl) H (fun H => ?_) (fun H => ?_)
  · refine nx_iinc2 1 (ls' := [some (eR (some (5101, 0))), some (eI v1), some (eI v2), some (eI v3), some (eI v4), some (eI (v5 + 1))]) rfl rfl rfl rfl rfl ?_
    refine nx_goto rfl rfl ?_
    exact hk7 _ _ _ _ _ H
  refine nx_ld rfl rfl rfl rfl ?_
  exact nx_ri rfl rfl H
def B_J1_indexOfChar_4cfef_7 : Nat → TS → Int32 → Int32 → Int32 → Option Int32
  | 0 => fun _ _ _ _ => none
  | n + 1 => fun t v3 v4 v5 => BB_J1_indexOfChar_4cfef_7 (B_J1_indexOfChar_4cfef_7 n) t v3 v4 v5
theorem TB_J1_indexOfChar_4cfef_7 {W : NW} {d : Nat} {Q : Option NV → TS → Prop} {a0 : Nat → Nat → Nat} {e0 : Nat → Nat → Bool} {t : TS} {bc bs : Nat} (hW : W.2.2.2 = mm_fx) : ∀ (n : Nat) (v1 : Int32) (v2 : Int32) (v3 : Int32) (v4 : Int32) (v5 : Int32), wp (B_J1_indexOfChar_4cfef_7 n t v3 v4 v5) (fun r => Q (some (eI r)) t) → nX W d tJ1_indexOfChar_4cfef Q a0 e0 7 [some (eR (some (5101, 0))), some (eI v1), some (eI v2), some (eI v3), some (eI v4), some (eI v5)] [] t bc bs := by
  intro n
  induction n with
  | zero => intro v1 v2 v3 v4 v5 H; exact (wp_none H).elim
  | succ n ih =>
    intro v1 v2 v3 v4 v5 H
    exact TBB_J1_indexOfChar_4cfef_7 hW    ih v1 v2 v3 v4 v5 H
def F_J1_indexOfChar_4cfef (t : TS) (x2 : Int32) (x3 : Int32) (x4 : Int32) : Option Int32 := (B_J1_indexOfChar_4cfef_7  10000 t x4 (x2.toInt8.toInt32) x3)
theorem TF_J1_indexOfChar_4cfef {W : NW} {d : Nat} {t : TS} {x2 : Int32} {x3 : Int32} {x4 : Int32} {Q : Option NV → TS → Prop} {bc bs : Nat} (hW : W.2.2.2 = mm_fx) (H : wp (F_J1_indexOfChar_4cfef t x2 x3 x4) (fun r => Q (some (eI r)) t)) : nC W (d + 1) 282 [eR (some (5101, 0)), eI x2, eI x3, eI x4] t bc bs Q := by
  refine nC_in (d := d) (T := tJ1_indexOfChar_4cfef) (ls := [some (eR (some (5101, 0))), some (eI x2), some (eI x3), some (eI x4), none, none]) rfl (Nat.le_of_ble_eq_true rfl) rfl (fun a0 e0 => ?_)
  unfold F_J1_indexOfChar_4cfef at H
  refine nx_ld rfl rfl rfl rfl ?_
  refine nx_i1 rfl rfl ?_
  refine nx_st (ls' := [some (eR (some (5101, 0))), some (eI x2), some (eI x3), some (eI x4), some (eI (x2.toInt8.toInt32)), none]) rfl rfl rfl (Nat.le_of_ble_eq_true rfl) rfl ?_
  refine nx_ld rfl rfl rfl rfl ?_
  refine nx_st (ls' := [some (eR (some (5101, 0))), some (eI x2), some (eI x3), some (eI x4), some (eI (x2.toInt8.toInt32)), some (eI x3)]) rfl rfl rfl (Nat.le_of_ble_eq_true rfl) rfl ?_
  exact TB_J1_indexOfChar_4cfef_7 hW    10000 _ _ _ _ _ H
def F_J1_indexOf_4cfef (t : TS) (x2 : Int32) (x3 : Int32) (x4 : Int32) : Option Int32 := (Option.bind (F_J1_canEncode_9a6ad t x2) (fun r21 => (if ¬ r21 = 0 then (if (if x3 < 0 then 0 else x3) < (if (12 : Int32) < x4 then 12 else x4) then (Option.bind (F_J1_indexOfChar_4cfef t x2 (if x3 < 0 then 0 else x3) (if (12 : Int32) < x4 then 12 else x4)) (fun r22 => (some (r22)))) else (some ((-1)))) else (some ((-1))))))
theorem TF_J1_indexOf_4cfef {W : NW} {d : Nat} {t : TS} {x2 : Int32} {x3 : Int32} {x4 : Int32} {Q : Option NV → TS → Prop} {bc bs : Nat} (hW : W.2.2.2 = mm_fx) (H : wp (F_J1_indexOf_4cfef t x2 x3 x4) (fun r => Q (some (eI r)) t)) : nC W (d + 2) 281 [eR (some (5101, 0)), eI x2, eI x3, eI x4] t bc bs Q := by
  refine nC_in (d := (d + 1)) (T := tJ1_indexOf_4cfef) (ls := [some (eR (some (5101, 0))), some (eI x2), some (eI x3), some (eI x4)]) rfl (Nat.le_of_ble_eq_true rfl) rfl (fun a0 e0 => ?_)
  unfold F_J1_indexOf_4cfef at H
  refine nx_ld rfl rfl rfl rfl ?_
  refine nx_cSI (as := [eI x2]) (st' := []) rfl rfl (Nat.le_of_ble_eq_true rfl) rfl rfl (Nat.le_of_ble_eq_true rfl) H (fun Q H => TF_J1_canEncode_9a6ad hW  H) (fun r21 H => ?_)
  refine nx_if rfl rfl (by rfl) H (fun H => ?_) (fun H => ?_)
  · refine nx_ld rfl rfl rfl rfl ?_
    refine nx_int (x := 0) rfl rfl ?_
    refine nx_ext2 rfl rfl (Nat.le_of_ble_eq_true rfl) ?_
    refine nx_st (ls' := [some (eR (some (5101, 0))), some (eI x2), some (eI (if x3 < 0 then 0 else x3)), some (eI x4)]) rfl rfl rfl (Nat.le_of_ble_eq_true rfl) rfl ?_
    refine nx_ld rfl rfl rfl rfl ?_
    refine nx_ld rfl rfl rfl rfl ?_
    refine nx_alenT rfl rfl ?_
    show nX _ _ _ _ _ _ 18 _ _ _ _ _
    refine nx_ext2 rfl rfl (Nat.le_of_ble_eq_true rfl) ?_
    refine nx_st (ls' := [some (eR (some (5101, 0))), some (eI x2), some (eI (if x3 < 0 then 0 else x3)), some (eI (if (12 : Int32) < x4 then 12 else x4))]) rfl rfl rfl (Nat.le_of_ble_eq_true rfl) rfl ?_
    refine nx_ld rfl rfl rfl rfl ?_
    refine nx_ld rfl rfl rfl rfl ?_
    refine nx_icmp rfl rfl (by rfl) H (fun H => ?_) (fun H => ?_)
    · refine nx_ld rfl rfl rfl rfl ?_
      refine nx_ld rfl rfl rfl rfl ?_
      refine nx_ld rfl rfl rfl rfl ?_
      refine nx_ld rfl rfl rfl rfl ?_
      refine nx_cSI (as := [eR (some (5101, 0)), eI x2, eI (if x3 < 0 then 0 else x3), eI (if (12 : Int32) < x4 then 12 else x4)]) (st' := []) rfl rfl (Nat.le_of_ble_eq_true rfl) rfl rfl (Nat.le_of_ble_eq_true rfl) H (fun Q H => TF_J1_indexOfChar_4cfef hW  H) (fun r22 H => ?_)
      exact nx_ri rfl rfl H
    refine nx_int (x := (-1)) rfl rfl ?_
    exact nx_ri rfl rfl H
  refine nx_int (x := (-1)) rfl rfl ?_
  exact nx_ri rfl rfl H
def F_J0_indexOf_7cf53 (t : TS) (x1 : Int32) (x2 : Int32) : Option Int32 := (Option.bind (F_J0_isLatin1_aae02 t) (fun r21 => (if r21 = 0 then (Option.bind (F_J0_length_8abf5 t) (fun r22 => none)) else (Option.bind (F_J0_length_8abf5 t) (fun r23 => (Option.bind (F_J1_indexOf_4cfef t x1 x2 r23) (fun r24 => (some (r24)))))))))
theorem TF_J0_indexOf_7cf53 {W : NW} {d : Nat} {t : TS} {x1 : Int32} {x2 : Int32} {Q : Option NV → TS → Prop} {bc bs : Nat} (hW : W.2.2.2 = mm_fx) (H : wp (F_J0_indexOf_7cf53 t x1 x2) (fun r => Q (some (eI r)) t)) : nC W (d + 3) 277 [eR (some (5100, 0)), eI x1, eI x2] t bc bs Q := by
  refine nC_in (d := (d + 2)) (T := tJ0_indexOf_7cf53) (ls := [some (eR (some (5100, 0))), some (eI x1), some (eI x2)]) rfl (Nat.le_of_ble_eq_true rfl) rfl (fun a0 e0 => ?_)
  unfold F_J0_indexOf_7cf53 at H
  refine nx_ld rfl rfl rfl rfl ?_
  refine nx_cTI (as := []) (st' := []) rfl rfl (Nat.le_of_ble_eq_true rfl) rfl rfl (Nat.le_of_ble_eq_true rfl) H (fun Q H => TF_J0_isLatin1_aae02 hW  H) (fun r21 H => ?_)
  refine nx_if rfl rfl (by rfl) H (fun H => ?_) (fun H => ?_)
  · refine nx_ld rfl rfl rfl rfl ?_
    refine nx_gsv rfl rfl ?_
    refine nx_ld rfl rfl rfl rfl ?_
    refine nx_ld rfl rfl rfl rfl ?_
    refine nx_ld rfl rfl rfl rfl ?_
    refine nx_cTI (as := []) (st' := [eI x2, eI x1, eR (some (5101, 0))]) rfl rfl (Nat.le_of_ble_eq_true rfl) rfl rfl (Nat.le_of_ble_eq_true rfl) H (fun Q H => TF_J0_length_8abf5 hW  H) (fun r22 H => ?_)
    exact (wp_none H).elim
  refine nx_ld rfl rfl rfl rfl ?_
  refine nx_gsv rfl rfl ?_
  refine nx_ld rfl rfl rfl rfl ?_
  refine nx_ld rfl rfl rfl rfl ?_
  refine nx_ld rfl rfl rfl rfl ?_
  refine nx_cTI (as := []) (st' := [eI x2, eI x1, eR (some (5101, 0))]) rfl rfl (Nat.le_of_ble_eq_true rfl) rfl rfl (Nat.le_of_ble_eq_true rfl) H (fun Q H => TF_J0_length_8abf5 hW  H) (fun r23 H => ?_)
  refine nx_cSI (as := [eR (some (5101, 0)), eI x1, eI x2, eI r23]) (st' := []) rfl rfl (Nat.le_of_ble_eq_true rfl) rfl rfl (Nat.le_of_ble_eq_true rfl) H (fun Q H => TF_J1_indexOf_4cfef hW  H) (fun r24 H => ?_)
  show nX _ _ _ _ _ _ 20 _ _ _ _ _
  refine nx_goto rfl rfl ?_
  exact nx_ri rfl rfl H
def F_J0_indexOf_0f7a4 (t : TS) (x1 : Int32) : Option Int32 := (Option.bind (F_J0_indexOf_7cf53 t x1 0) (fun r21 => (some (r21))))
theorem TF_J0_indexOf_0f7a4 {W : NW} {d : Nat} {t : TS} {x1 : Int32} {Q : Option NV → TS → Prop} {bc bs : Nat} (hW : W.2.2.2 = mm_fx) (H : wp (F_J0_indexOf_0f7a4 t x1) (fun r => Q (some (eI r)) t)) : nC W (d + 4) 276 [eR (some (5100, 0)), eI x1] t bc bs Q := by
  refine nC_in (d := (d + 3)) (T := tJ0_indexOf_0f7a4) (ls := [some (eR (some (5100, 0))), some (eI x1)]) rfl (Nat.le_of_ble_eq_true rfl) rfl (fun a0 e0 => ?_)
  unfold F_J0_indexOf_0f7a4 at H
  refine nx_ld rfl rfl rfl rfl ?_
  refine nx_ld rfl rfl rfl rfl ?_
  refine nx_int (x := 0) rfl rfl ?_
  refine nx_cTI (as := [eI x1, eI 0]) (st' := []) rfl rfl (Nat.le_of_ble_eq_true rfl) rfl rfl (Nat.le_of_ble_eq_true rfl) H (fun Q H => TF_J0_indexOf_7cf53 hW  H) (fun r21 H => ?_)
  exact nx_ri rfl rfl H
def B_X7_sum_104 (g : Nat → TS → Int32 → Option (Int32 × TS)) (k6 : TS → Int32 → Int32 → Option (Int32 × TS)) (t : TS) (v1 : Int32) (s0 : Int32) : Option (Int32 × TS) := (k6 t v1 s0)
theorem TB_X7_sum_104 {W : NW} {d : Nat} {Q : Option NV → TS → Prop} {a0 : Nat → Nat → Nat} {e0 : Nat → Nat → Bool} {g : Nat → TS → Int32 → Option (Int32 × TS)} {k6 : TS → Int32 → Int32 → Option (Int32 × TS)} {bc bs : Nat} (hW : W.2.2.2 = mm_fx) (hg0 : ∀ (t : TS) (x1 : Int32) (bc bs : Nat) (Q : Option NV → TS → Prop), wp (g 0 t x1) (fun r => Q (some (eI r.1)) r.2) → nC W (d + 5) 45 [eR (some (7, 0)), eI x1] t bc bs Q) (hg1 : ∀ (t : TS) (x1 : Int32) (bc bs : Nat) (Q : Option NV → TS → Prop), wp (g 1 t x1) (fun r => Q (some (eI r.1)) r.2) → nC W (d + 5) 46 [eR (some (7, 0)), eI x1] t bc bs Q) (hg2 : ∀ (t : TS) (x1 : Int32) (bc bs : Nat) (Q : Option NV → TS → Prop), wp (g 2 t x1) (fun r => Q (some (eI r.1)) r.2) → nC W (d + 5) 47 [eR (some (7, 0)), eI x1] t bc bs Q) (hk6 : ∀ (t : TS) (v1 : Int32) (v2 : Int32) (v3 : Option NV) (v4 : Option NV), wp (k6 t v1 v2) (fun r => Q (some (eI r.1)) r.2) → nX W (d + 5) tX7_sum Q a0 e0 6 [some (eR (some (7, 0))), some (eI v1), some (eI v2), v3, v4] [] t bc bs) : ∀ (t : TS) (v1 : Int32) (v2 : Int32) (v3 : Int32) (v4 : Int32) (s0 : Int32), wp (B_X7_sum_104 g k6 t v1 s0) (fun r => Q (some (eI r.1)) r.2) → nX W (d + 5) tX7_sum Q a0 e0 104 [some (eR (some (7, 0))), some (eI v1), some (eI v2), some (eI v3), some (eI v4)] [eI s0] t bc bs := by
  intro t v1 v2 v3 v4 s0 H
  unfold B_X7_sum_104 at H
  refine nx_st (ls' := [some (eR (some (7, 0))), some (eI v1), some (eI s0), some (eI v3), some (eI v4)]) rfl rfl rfl (Nat.le_of_ble_eq_true rfl) rfl ?_
  refine nx_goto rfl rfl ?_
  exact hk6 _ _ _ _ _ H
def B_X7_sum_71 (g : Nat → TS → Int32 → Option (Int32 × TS)) (k6 : TS → Int32 → Int32 → Option (Int32 × TS)) (t : TS) (v1 : Int32) (v2 : Int32) (s0 : Int32) : Option (Int32 × TS) := (nxt (uI t 706 0 ((tI t 706 0) + 1)) (fun t21 => (ob2 (g 1 t21 v1) (fun x23 t24 => (if s0 = 0 then (B_X7_sum_104 g k6 t24 v1 (v2 - x23)) else (B_X7_sum_104 g k6 t24 v1 (v2 + x23)))))))
theorem TB_X7_sum_71 {W : NW} {d : Nat} {Q : Option NV → TS → Prop} {a0 : Nat → Nat → Nat} {e0 : Nat → Nat → Bool} {g : Nat → TS → Int32 → Option (Int32 × TS)} {k6 : TS → Int32 → Int32 → Option (Int32 × TS)} {bc bs : Nat} (hW : W.2.2.2 = mm_fx) (hg0 : ∀ (t : TS) (x1 : Int32) (bc bs : Nat) (Q : Option NV → TS → Prop), wp (g 0 t x1) (fun r => Q (some (eI r.1)) r.2) → nC W (d + 5) 45 [eR (some (7, 0)), eI x1] t bc bs Q) (hg1 : ∀ (t : TS) (x1 : Int32) (bc bs : Nat) (Q : Option NV → TS → Prop), wp (g 1 t x1) (fun r => Q (some (eI r.1)) r.2) → nC W (d + 5) 46 [eR (some (7, 0)), eI x1] t bc bs Q) (hg2 : ∀ (t : TS) (x1 : Int32) (bc bs : Nat) (Q : Option NV → TS → Prop), wp (g 2 t x1) (fun r => Q (some (eI r.1)) r.2) → nC W (d + 5) 47 [eR (some (7, 0)), eI x1] t bc bs Q) (hk6 : ∀ (t : TS) (v1 : Int32) (v2 : Int32) (v3 : Option NV) (v4 : Option NV), wp (k6 t v1 v2) (fun r => Q (some (eI r.1)) r.2) → nX W (d + 5) tX7_sum Q a0 e0 6 [some (eR (some (7, 0))), some (eI v1), some (eI v2), v3, v4] [] t bc bs) : ∀ (t : TS) (v1 : Int32) (v2 : Int32) (v3 : Option NV) (v4 : Option NV) (s0 : Int32), wp (B_X7_sum_71 g k6 t v1 v2 s0) (fun r => Q (some (eI r.1)) r.2) → nX W (d + 5) tX7_sum Q a0 e0 71 [some (eR (some (7, 0))), some (eI v1), some (eI v2), v3, v4] [eI s0] t bc bs := by
  intro t v1 v2 v3 v4 s0 H
  unfold B_X7_sum_71 at H
  refine nx_st (ls' := [some (eR (some (7, 0))), some (eI v1), some (eI v2), some (eI s0), v4]) rfl rfl rfl (Nat.le_of_ble_eq_true rfl) rfl ?_
  refine nx_ld rfl rfl rfl rfl ?_
  refine nx_dup rfl rfl (Nat.ne_of_beq_eq_false rfl) ?_
  refine nx_getI rfl rfl rfl (by decide) ?_
  refine nx_int (x := 1) rfl rfl ?_
  refine nx_ii rfl rfl ?_
  refine nx_putI rfl rfl rfl (by decide) H (fun t21 H => ?_)
  show nX _ _ _ _ _ _ 82 _ _ _ _ _
  refine nx_ld rfl rfl rfl rfl ?_
  refine nx_ld rfl rfl rfl rfl ?_
  refine nx_cVI2 (as := [eI v1]) (st' := []) rfl rfl (Nat.le_of_ble_eq_true rfl) rfl rfl (Nat.le_of_ble_eq_true rfl) (c0 := 7) rfl (by decide) H (fun Q H => hg1 _ _ _ _ _ H) (fun x23 t24 H => ?_)
  refine nx_st (ls' := [some (eR (some (7, 0))), some (eI v1), some (eI v2), some (eI s0), some (eI x23)]) rfl rfl rfl (Nat.le_of_ble_eq_true rfl) rfl ?_
  refine nx_ld rfl rfl rfl rfl ?_
  refine nx_if rfl rfl (by rfl) H (fun H => ?_) (fun H => ?_)
  · refine nx_ld rfl rfl rfl rfl ?_
    refine nx_ld rfl rfl rfl rfl ?_
    refine nx_ii rfl rfl ?_
    exact TB_X7_sum_104 hW  hg0 hg1 hg2 hk6 _ _ _ _ _ _ H
  refine nx_ld rfl rfl rfl rfl ?_
  refine nx_ld rfl rfl rfl rfl ?_
  refine nx_ii rfl rfl ?_
  refine nx_goto rfl rfl ?_
  exact TB_X7_sum_104 hW  hg0 hg1 hg2 hk6 _ _ _ _ _ _ H
def B_X7_sum_52 (g : Nat → TS → Int32 → Option (Int32 × TS)) (k6 : TS → Int32 → Int32 → Option (Int32 × TS)) (t : TS) (v1 : Int32) (v2 : Int32) : Option (Int32 × TS) := (nxt (tR t 704 0) (fun o21 => (oc o21 none (fun j22 => (gd (tI t 706 0) (tL t 2700 j22) (if ¬ (tA t 2700 j22 (tI t 706 0).toNatClampNeg) = 43 then (B_X7_sum_71 g k6 t v1 v2 0) else (B_X7_sum_71 g k6 t v1 v2 1)))))))
theorem TB_X7_sum_52 {W : NW} {d : Nat} {Q : Option NV → TS → Prop} {a0 : Nat → Nat → Nat} {e0 : Nat → Nat → Bool} {g : Nat → TS → Int32 → Option (Int32 × TS)} {k6 : TS → Int32 → Int32 → Option (Int32 × TS)} {bc bs : Nat} (hW : W.2.2.2 = mm_fx) (hg0 : ∀ (t : TS) (x1 : Int32) (bc bs : Nat) (Q : Option NV → TS → Prop), wp (g 0 t x1) (fun r => Q (some (eI r.1)) r.2) → nC W (d + 5) 45 [eR (some (7, 0)), eI x1] t bc bs Q) (hg1 : ∀ (t : TS) (x1 : Int32) (bc bs : Nat) (Q : Option NV → TS → Prop), wp (g 1 t x1) (fun r => Q (some (eI r.1)) r.2) → nC W (d + 5) 46 [eR (some (7, 0)), eI x1] t bc bs Q) (hg2 : ∀ (t : TS) (x1 : Int32) (bc bs : Nat) (Q : Option NV → TS → Prop), wp (g 2 t x1) (fun r => Q (some (eI r.1)) r.2) → nC W (d + 5) 47 [eR (some (7, 0)), eI x1] t bc bs Q) (hk6 : ∀ (t : TS) (v1 : Int32) (v2 : Int32) (v3 : Option NV) (v4 : Option NV), wp (k6 t v1 v2) (fun r => Q (some (eI r.1)) r.2) → nX W (d + 5) tX7_sum Q a0 e0 6 [some (eR (some (7, 0))), some (eI v1), some (eI v2), v3, v4] [] t bc bs) : ∀ (t : TS) (v1 : Int32) (v2 : Int32) (v3 : Option NV) (v4 : Option NV), wp (B_X7_sum_52 g k6 t v1 v2) (fun r => Q (some (eI r.1)) r.2) → nX W (d + 5) tX7_sum Q a0 e0 52 [some (eR (some (7, 0))), some (eI v1), some (eI v2), v3, v4] [] t bc bs := by
  intro t v1 v2 v3 v4 H
  unfold B_X7_sum_52 at H
  refine nx_ld rfl rfl rfl rfl ?_
  refine nx_getR rfl rfl rfl (by decide) rfl H (fun o21 H => ?_)
  refine nx_ld rfl rfl rfl rfl ?_
  refine nx_getI rfl rfl rfl (by decide) ?_
  rcases o21 with _ | j22
  · exact (wp_none (oc_no H)).elim
  replace H := oc_so H
  refine nx_bald (c := 2700) (i := j22) rfl rfl (Nat.le_of_ble_eq_true rfl) (Nat.le_of_ble_eq_true rfl) (Or.inl rfl) H (fun H => ?_)
  refine nx_int (x := 43) rfl rfl ?_
  refine nx_icmp rfl rfl (by rfl) H (fun H => ?_) (fun H => ?_)
  · refine nx_int (x := 0) rfl rfl ?_
    exact TB_X7_sum_71 hW  hg0 hg1 hg2 hk6 _ _ _ _ _ _ H
  refine nx_int (x := 1) rfl rfl ?_
  refine nx_goto rfl rfl ?_
  exact TB_X7_sum_71 hW  hg0 hg1 hg2 hk6 _ _ _ _ _ _ H
def BB_X7_sum_6 (g : Nat → TS → Int32 → Option (Int32 × TS)) (k6 : TS → Int32 → Int32 → Option (Int32 × TS)) (t : TS) (v1 : Int32) (v2 : Int32) : Option (Int32 × TS) := (if 0 ≤ (tI t 707 0) then (some (v2, t)) else (if (tI t 705 0) ≤ (tI t 706 0) then (some (v2, t)) else (nxt (tR t 704 0) (fun o21 => (oc o21 none (fun j22 => (gd (tI t 706 0) (tL t 2700 j22) (if (tA t 2700 j22 (tI t 706 0).toNatClampNeg) = 43 then (B_X7_sum_52 g k6 t v1 v2) else (nxt (tR t 704 0) (fun o23 => (oc o23 none (fun j24 => (gd (tI t 706 0) (tL t 2700 j24) (if ¬ (tA t 2700 j24 (tI t 706 0).toNatClampNeg) = 45 then (some (v2, t)) else (B_X7_sum_52 g k6 t v1 v2)))))))))))))))
theorem TBB_X7_sum_6 {W : NW} {d : Nat} {Q : Option NV → TS → Prop} {a0 : Nat → Nat → Nat} {e0 : Nat → Nat → Bool} {g : Nat → TS → Int32 → Option (Int32 × TS)} {k6 : TS → Int32 → Int32 → Option (Int32 × TS)} {bc bs : Nat} (hW : W.2.2.2 = mm_fx) (hg0 : ∀ (t : TS) (x1 : Int32) (bc bs : Nat) (Q : Option NV → TS → Prop), wp (g 0 t x1) (fun r => Q (some (eI r.1)) r.2) → nC W (d + 5) 45 [eR (some (7, 0)), eI x1] t bc bs Q) (hg1 : ∀ (t : TS) (x1 : Int32) (bc bs : Nat) (Q : Option NV → TS → Prop), wp (g 1 t x1) (fun r => Q (some (eI r.1)) r.2) → nC W (d + 5) 46 [eR (some (7, 0)), eI x1] t bc bs Q) (hg2 : ∀ (t : TS) (x1 : Int32) (bc bs : Nat) (Q : Option NV → TS → Prop), wp (g 2 t x1) (fun r => Q (some (eI r.1)) r.2) → nC W (d + 5) 47 [eR (some (7, 0)), eI x1] t bc bs Q) (hk6 : ∀ (t : TS) (v1 : Int32) (v2 : Int32) (v3 : Option NV) (v4 : Option NV), wp (k6 t v1 v2) (fun r => Q (some (eI r.1)) r.2) → nX W (d + 5) tX7_sum Q a0 e0 6 [some (eR (some (7, 0))), some (eI v1), some (eI v2), v3, v4] [] t bc bs) : ∀ (t : TS) (v1 : Int32) (v2 : Int32) (v3 : Option NV) (v4 : Option NV), wp (BB_X7_sum_6 g k6 t v1 v2) (fun r => Q (some (eI r.1)) r.2) → nX W (d + 5) tX7_sum Q a0 e0 6 [some (eR (some (7, 0))), some (eI v1), some (eI v2), v3, v4] [] t bc bs := by
  intro t v1 v2 v3 v4 H
  unfold BB_X7_sum_6 at H
  refine nx_ld rfl rfl rfl rfl ?_
  refine nx_getI rfl rfl rfl (by decide) ?_
  refine nx_if rfl rfl (by rfl) H (fun H => ?_) (fun H => ?_)
  · refine nx_ld rfl rfl rfl rfl ?_
    exact nx_rit rfl rfl H
  refine nx_ld rfl rfl rfl rfl ?_
  refine nx_getI rfl rfl rfl (by decide) ?_
  refine nx_ld rfl rfl rfl rfl ?_
  refine nx_getI rfl rfl rfl (by decide) ?_
  refine nx_icmp rfl rfl (by rfl) H (fun H => ?_) (fun H => ?_)
  · refine nx_ld rfl rfl rfl rfl ?_
    exact nx_rit rfl rfl H
  refine nx_ld rfl rfl rfl rfl ?_
  refine nx_getR rfl rfl rfl (by decide) rfl H (fun o21 H => ?_)
  refine nx_ld rfl rfl rfl rfl ?_
  refine nx_getI rfl rfl rfl (by decide) ?_
  rcases o21 with _ | j22
  · exact (wp_none (oc_no H)).elim
  replace H := oc_so H
  refine nx_bald (c := 2700) (i := j22) rfl rfl (Nat.le_of_ble_eq_true rfl) (Nat.le_of_ble_eq_true rfl) (Or.inl rfl) H (fun H => ?_)
  refine nx_int (x := 43) rfl rfl ?_
  refine nx_icmp rfl rfl (by rfl) H (fun H => ?_) (fun H => ?_)
  · exact TB_X7_sum_52 hW  hg0 hg1 hg2 hk6 _ _ _ _ _ H
  refine nx_ld rfl rfl rfl rfl ?_
  refine nx_getR rfl rfl rfl (by decide) rfl H (fun o23 H => ?_)
  refine nx_ld rfl rfl rfl rfl ?_
  refine nx_getI rfl rfl rfl (by decide) ?_
  rcases o23 with _ | j24
  · exact (wp_none (oc_no H)).elim
  replace H := oc_so H
  refine nx_bald (c := 2700) (i := j24) rfl rfl (Nat.le_of_ble_eq_true rfl) (Nat.le_of_ble_eq_true rfl) (Or.inl rfl) H (fun H => ?_)
  refine nx_int (x := 45) rfl rfl ?_
  refine nx_icmp rfl rfl (by rfl) H (fun H => ?_) (fun H => ?_)
  · refine nx_ld rfl rfl rfl rfl ?_
    exact nx_rit rfl rfl H
  exact TB_X7_sum_52 hW  hg0 hg1 hg2 hk6 _ _ _ _ _ H
def B_X7_sum_6 (g : Nat → TS → Int32 → Option (Int32 × TS)) : Nat → TS → Int32 → Int32 → Option (Int32 × TS)
  | 0 => fun _ _ _ => none
  | n + 1 => fun t v1 v2 => BB_X7_sum_6 g (B_X7_sum_6 g n) t v1 v2
theorem TB_X7_sum_6 {W : NW} {d : Nat} {Q : Option NV → TS → Prop} {a0 : Nat → Nat → Nat} {e0 : Nat → Nat → Bool} {g : Nat → TS → Int32 → Option (Int32 × TS)} {bc bs : Nat} (hW : W.2.2.2 = mm_fx) (hg0 : ∀ (t : TS) (x1 : Int32) (bc bs : Nat) (Q : Option NV → TS → Prop), wp (g 0 t x1) (fun r => Q (some (eI r.1)) r.2) → nC W (d + 5) 45 [eR (some (7, 0)), eI x1] t bc bs Q) (hg1 : ∀ (t : TS) (x1 : Int32) (bc bs : Nat) (Q : Option NV → TS → Prop), wp (g 1 t x1) (fun r => Q (some (eI r.1)) r.2) → nC W (d + 5) 46 [eR (some (7, 0)), eI x1] t bc bs Q) (hg2 : ∀ (t : TS) (x1 : Int32) (bc bs : Nat) (Q : Option NV → TS → Prop), wp (g 2 t x1) (fun r => Q (some (eI r.1)) r.2) → nC W (d + 5) 47 [eR (some (7, 0)), eI x1] t bc bs Q) : ∀ (n : Nat) (t : TS) (v1 : Int32) (v2 : Int32) (v3 : Option NV) (v4 : Option NV), wp (B_X7_sum_6 g n t v1 v2) (fun r => Q (some (eI r.1)) r.2) → nX W (d + 5) tX7_sum Q a0 e0 6 [some (eR (some (7, 0))), some (eI v1), some (eI v2), v3, v4] [] t bc bs := by
  intro n
  induction n with
  | zero => intro t v1 v2 v3 v4 H; exact (wp_none H).elim
  | succ n ih =>
    intro t v1 v2 v3 v4 H
    exact TBB_X7_sum_6 hW  hg0 hg1 hg2   ih t v1 v2 v3 v4 H
def Fb_X7_sum (g : Nat → TS → Int32 → Option (Int32 × TS)) (t : TS) (x1 : Int32) : Option (Int32 × TS) := (ob2 (g 1 t x1) (fun x22 t23 => (B_X7_sum_6 g  10000 t23 x1 x22)))
theorem TFb_X7_sum {W : NW} {d : Nat} {g : Nat → TS → Int32 → Option (Int32 × TS)} {t : TS} {x1 : Int32} {Q : Option NV → TS → Prop} {bc bs : Nat} (hW : W.2.2.2 = mm_fx) (hg0 : ∀ (t : TS) (x1 : Int32) (bc bs : Nat) (Q : Option NV → TS → Prop), wp (g 0 t x1) (fun r => Q (some (eI r.1)) r.2) → nC W (d + 5) 45 [eR (some (7, 0)), eI x1] t bc bs Q) (hg1 : ∀ (t : TS) (x1 : Int32) (bc bs : Nat) (Q : Option NV → TS → Prop), wp (g 1 t x1) (fun r => Q (some (eI r.1)) r.2) → nC W (d + 5) 46 [eR (some (7, 0)), eI x1] t bc bs Q) (hg2 : ∀ (t : TS) (x1 : Int32) (bc bs : Nat) (Q : Option NV → TS → Prop), wp (g 2 t x1) (fun r => Q (some (eI r.1)) r.2) → nC W (d + 5) 47 [eR (some (7, 0)), eI x1] t bc bs Q) (H : wp (Fb_X7_sum g t x1) (fun r => Q (some (eI r.1)) r.2)) : nC W (d + 6) 45 [eR (some (7, 0)), eI x1] t bc bs Q := by
  refine nC_in (d := (d + 5)) (T := tX7_sum) (ls := [some (eR (some (7, 0))), some (eI x1), none, none, none]) rfl (Nat.le_of_ble_eq_true rfl) rfl (fun a0 e0 => ?_)
  unfold Fb_X7_sum at H
  refine nx_ld rfl rfl rfl rfl ?_
  refine nx_ld rfl rfl rfl rfl ?_
  refine nx_cVI2 (as := [eI x1]) (st' := []) rfl rfl (Nat.le_of_ble_eq_true rfl) rfl rfl (Nat.le_of_ble_eq_true rfl) (c0 := 7) rfl (by decide) H (fun Q H => hg1 _ _ _ _ _ H) (fun x22 t23 H => ?_)
  refine nx_st (ls' := [some (eR (some (7, 0))), some (eI x1), some (eI x22), none, none]) rfl rfl rfl (Nat.le_of_ble_eq_true rfl) rfl ?_
  exact TB_X7_sum_6 hW  hg0 hg1 hg2  10000 _ _ _ _ _ H
def B_X7_product_135 (g : Nat → TS → Int32 → Option (Int32 × TS)) (k6 : TS → Int32 → Int32 → Option (Int32 × TS)) (t : TS) (v1 : Int32) (v2 : Int32) : Option (Int32 × TS) := (k6 t v1 v2)
theorem TB_X7_product_135 {W : NW} {d : Nat} {Q : Option NV → TS → Prop} {a0 : Nat → Nat → Nat} {e0 : Nat → Nat → Bool} {g : Nat → TS → Int32 → Option (Int32 × TS)} {k6 : TS → Int32 → Int32 → Option (Int32 × TS)} {bc bs : Nat} (hW : W.2.2.2 = mm_fx) (hg0 : ∀ (t : TS) (x1 : Int32) (bc bs : Nat) (Q : Option NV → TS → Prop), wp (g 0 t x1) (fun r => Q (some (eI r.1)) r.2) → nC W (d + 5) 45 [eR (some (7, 0)), eI x1] t bc bs Q) (hg1 : ∀ (t : TS) (x1 : Int32) (bc bs : Nat) (Q : Option NV → TS → Prop), wp (g 1 t x1) (fun r => Q (some (eI r.1)) r.2) → nC W (d + 5) 46 [eR (some (7, 0)), eI x1] t bc bs Q) (hg2 : ∀ (t : TS) (x1 : Int32) (bc bs : Nat) (Q : Option NV → TS → Prop), wp (g 2 t x1) (fun r => Q (some (eI r.1)) r.2) → nC W (d + 5) 47 [eR (some (7, 0)), eI x1] t bc bs Q) (hk6 : ∀ (t : TS) (v1 : Int32) (v2 : Int32) (v3 : Option NV) (v4 : Option NV), wp (k6 t v1 v2) (fun r => Q (some (eI r.1)) r.2) → nX W (d + 5) tX7_product Q a0 e0 6 [some (eR (some (7, 0))), some (eI v1), some (eI v2), v3, v4] [] t bc bs) : ∀ (t : TS) (v1 : Int32) (v2 : Int32) (v3 : Int32) (v4 : Int32), wp (B_X7_product_135 g k6 t v1 v2) (fun r => Q (some (eI r.1)) r.2) → nX W (d + 5) tX7_product Q a0 e0 135 [some (eR (some (7, 0))), some (eI v1), some (eI v2), some (eI v3), some (eI v4)] [] t bc bs := by
  intro t v1 v2 v3 v4 H
  unfold B_X7_product_135 at H
  refine nx_goto rfl rfl ?_
  exact hk6 _ _ _ _ _ H
def B_X7_product_134 (g : Nat → TS → Int32 → Option (Int32 × TS)) (k6 : TS → Int32 → Int32 → Option (Int32 × TS)) (t : TS) (v1 : Int32) (s0 : Int32) : Option (Int32 × TS) := (B_X7_product_135 g k6 t v1 s0)
theorem TB_X7_product_134 {W : NW} {d : Nat} {Q : Option NV → TS → Prop} {a0 : Nat → Nat → Nat} {e0 : Nat → Nat → Bool} {g : Nat → TS → Int32 → Option (Int32 × TS)} {k6 : TS → Int32 → Int32 → Option (Int32 × TS)} {bc bs : Nat} (hW : W.2.2.2 = mm_fx) (hg0 : ∀ (t : TS) (x1 : Int32) (bc bs : Nat) (Q : Option NV → TS → Prop), wp (g 0 t x1) (fun r => Q (some (eI r.1)) r.2) → nC W (d + 5) 45 [eR (some (7, 0)), eI x1] t bc bs Q) (hg1 : ∀ (t : TS) (x1 : Int32) (bc bs : Nat) (Q : Option NV → TS → Prop), wp (g 1 t x1) (fun r => Q (some (eI r.1)) r.2) → nC W (d + 5) 46 [eR (some (7, 0)), eI x1] t bc bs Q) (hg2 : ∀ (t : TS) (x1 : Int32) (bc bs : Nat) (Q : Option NV → TS → Prop), wp (g 2 t x1) (fun r => Q (some (eI r.1)) r.2) → nC W (d + 5) 47 [eR (some (7, 0)), eI x1] t bc bs Q) (hk6 : ∀ (t : TS) (v1 : Int32) (v2 : Int32) (v3 : Option NV) (v4 : Option NV), wp (k6 t v1 v2) (fun r => Q (some (eI r.1)) r.2) → nX W (d + 5) tX7_product Q a0 e0 6 [some (eR (some (7, 0))), some (eI v1), some (eI v2), v3, v4] [] t bc bs) : ∀ (t : TS) (v1 : Int32) (v2 : Int32) (v3 : Int32) (v4 : Int32) (s0 : Int32), wp (B_X7_product_134 g k6 t v1 s0) (fun r => Q (some (eI r.1)) r.2) → nX W (d + 5) tX7_product Q a0 e0 134 [some (eR (some (7, 0))), some (eI v1), some (eI v2), some (eI v3), some (eI v4)] [eI s0] t bc bs := by
  intro t v1 v2 v3 v4 s0 H
  unfold B_X7_product_134 at H
  refine nx_st (ls' := [some (eR (some (7, 0))), some (eI v1), some (eI s0), some (eI v3), some (eI v4)]) rfl rfl rfl (Nat.le_of_ble_eq_true rfl) rfl ?_
  exact TB_X7_product_135 hW  hg0 hg1 hg2 hk6 _ _ _ _ _ H
def B_X7_product_66 (g : Nat → TS → Int32 → Option (Int32 × TS)) (k6 : TS → Int32 → Int32 → Option (Int32 × TS)) (t : TS) (v1 : Int32) (v2 : Int32) : Option (Int32 × TS) := (nxt (tR t 704 0) (fun o21 => (oc o21 none (fun j22 => (gd (tI t 706 0) (tL t 2700 j22) (nxt (uI t 706 0 ((tI t 706 0) + 1)) (fun t23 => (ob2 (g 2 t23 v1) (fun x25 t26 => (if ¬ (tA t 2700 j22 (tI t 706 0).toNatClampNeg) = 42 then (if ¬ x25 = 0 then (if ¬ (tA t 2700 j22 (tI t 706 0).toNatClampNeg) = 47 then (gz x25 (B_X7_product_134 g k6 t26 v1 (irm v2 x25))) else (gz x25 (B_X7_product_134 g k6 t26 v1 (v2 / x25)))) else (B_X7_product_135 g k6 t26 v1 0)) else (B_X7_product_135 g k6 t26 v1 (v2 * x25))))))))))))
theorem TB_X7_product_66 {W : NW} {d : Nat} {Q : Option NV → TS → Prop} {a0 : Nat → Nat → Nat} {e0 : Nat → Nat → Bool} {g : Nat → TS → Int32 → Option (Int32 × TS)} {k6 : TS → Int32 → Int32 → Option (Int32 × TS)} {bc bs : Nat} (hW : W.2.2.2 = mm_fx) (hg0 : ∀ (t : TS) (x1 : Int32) (bc bs : Nat) (Q : Option NV → TS → Prop), wp (g 0 t x1) (fun r => Q (some (eI r.1)) r.2) → nC W (d + 5) 45 [eR (some (7, 0)), eI x1] t bc bs Q) (hg1 : ∀ (t : TS) (x1 : Int32) (bc bs : Nat) (Q : Option NV → TS → Prop), wp (g 1 t x1) (fun r => Q (some (eI r.1)) r.2) → nC W (d + 5) 46 [eR (some (7, 0)), eI x1] t bc bs Q) (hg2 : ∀ (t : TS) (x1 : Int32) (bc bs : Nat) (Q : Option NV → TS → Prop), wp (g 2 t x1) (fun r => Q (some (eI r.1)) r.2) → nC W (d + 5) 47 [eR (some (7, 0)), eI x1] t bc bs Q) (hk6 : ∀ (t : TS) (v1 : Int32) (v2 : Int32) (v3 : Option NV) (v4 : Option NV), wp (k6 t v1 v2) (fun r => Q (some (eI r.1)) r.2) → nX W (d + 5) tX7_product Q a0 e0 6 [some (eR (some (7, 0))), some (eI v1), some (eI v2), v3, v4] [] t bc bs) : ∀ (t : TS) (v1 : Int32) (v2 : Int32) (v3 : Option NV) (v4 : Option NV), wp (B_X7_product_66 g k6 t v1 v2) (fun r => Q (some (eI r.1)) r.2) → nX W (d + 5) tX7_product Q a0 e0 66 [some (eR (some (7, 0))), some (eI v1), some (eI v2), v3, v4] [] t bc bs := by
  intro t v1 v2 v3 v4 H
  unfold B_X7_product_66 at H
  refine nx_ld rfl rfl rfl rfl ?_
  refine nx_getR rfl rfl rfl (by decide) rfl H (fun o21 H => ?_)
  refine nx_ld rfl rfl rfl rfl ?_
  refine nx_getI rfl rfl rfl (by decide) ?_
  rcases o21 with _ | j22
  · exact (wp_none (oc_no H)).elim
  replace H := oc_so H
  refine nx_bald (c := 2700) (i := j22) rfl rfl (Nat.le_of_ble_eq_true rfl) (Nat.le_of_ble_eq_true rfl) (Or.inl rfl) H (fun H => ?_)
  refine nx_st (ls' := [some (eR (some (7, 0))), some (eI v1), some (eI v2), some (eI (tA t 2700 j22 (tI t 706 0).toNatClampNeg)), v4]) rfl rfl rfl (Nat.le_of_ble_eq_true rfl) rfl ?_
  refine nx_ld rfl rfl rfl rfl ?_
  show nX _ _ _ _ _ _ 77 _ _ _ _ _
  refine nx_dup rfl rfl (Nat.ne_of_beq_eq_false rfl) ?_
  refine nx_getI rfl rfl rfl (by decide) ?_
  refine nx_int (x := 1) rfl rfl ?_
  refine nx_ii rfl rfl ?_
  refine nx_putI rfl rfl rfl (by decide) H (fun t23 H => ?_)
  refine nx_ld rfl rfl rfl rfl ?_
  refine nx_ld rfl rfl rfl rfl ?_
  refine nx_cVI2 (as := [eI v1]) (st' := []) rfl rfl (Nat.le_of_ble_eq_true rfl) rfl rfl (Nat.le_of_ble_eq_true rfl) (c0 := 7) rfl (by decide) H (fun Q H => hg2 _ _ _ _ _ H) (fun x25 t26 H => ?_)
  show nX _ _ _ _ _ _ 91 _ _ _ _ _
  refine nx_st (ls' := [some (eR (some (7, 0))), some (eI v1), some (eI v2), some (eI (tA t 2700 j22 (tI t 706 0).toNatClampNeg)), some (eI x25)]) rfl rfl rfl (Nat.le_of_ble_eq_true rfl) rfl ?_
  refine nx_ld rfl rfl rfl rfl ?_
  refine nx_int (x := 42) rfl rfl ?_
  refine nx_icmp rfl rfl (by rfl) H (fun H => ?_) (fun H => ?_)
  · refine nx_ld rfl rfl rfl rfl ?_
    refine nx_if rfl rfl (by rfl) H (fun H => ?_) (fun H => ?_)
    · refine nx_ld rfl rfl rfl rfl ?_
      refine nx_int (x := 47) rfl rfl ?_
      refine nx_icmp rfl rfl (by rfl) H (fun H => ?_) (fun H => ?_)
      · refine nx_ld rfl rfl rfl rfl ?_
        refine nx_ld rfl rfl rfl rfl ?_
        refine nx_idiv rfl rfl H (fun H => ?_)
        exact TB_X7_product_134 hW  hg0 hg1 hg2 hk6 _ _ _ _ _ _ H
      refine nx_ld rfl rfl rfl rfl ?_
      refine nx_ld rfl rfl rfl rfl ?_
      refine nx_idiv rfl rfl H (fun H => ?_)
      refine nx_goto rfl rfl ?_
      exact TB_X7_product_134 hW  hg0 hg1 hg2 hk6 _ _ _ _ _ _ H
    refine nx_int (x := 0) rfl rfl ?_
    refine nx_st (ls' := [some (eR (some (7, 0))), some (eI v1), some (eI 0), some (eI (tA t 2700 j22 (tI t 706 0).toNatClampNeg)), some (eI x25)]) rfl rfl rfl (Nat.le_of_ble_eq_true rfl) rfl ?_
    refine nx_goto rfl rfl ?_
    exact TB_X7_product_135 hW  hg0 hg1 hg2 hk6 _ _ _ _ _ H
  refine nx_ld rfl rfl rfl rfl ?_
  refine nx_ld rfl rfl rfl rfl ?_
  refine nx_ii rfl rfl ?_
  refine nx_st (ls' := [some (eR (some (7, 0))), some (eI v1), some (eI (v2 * x25)), some (eI (tA t 2700 j22 (tI t 706 0).toNatClampNeg)), some (eI x25)]) rfl rfl rfl (Nat.le_of_ble_eq_true rfl) rfl ?_
  refine nx_goto rfl rfl ?_
  exact TB_X7_product_135 hW  hg0 hg1 hg2 hk6 _ _ _ _ _ H
def BB_X7_product_6 (g : Nat → TS → Int32 → Option (Int32 × TS)) (k6 : TS → Int32 → Int32 → Option (Int32 × TS)) (t : TS) (v1 : Int32) (v2 : Int32) : Option (Int32 × TS) := (if 0 ≤ (tI t 707 0) then (some (v2, t)) else (if (tI t 705 0) ≤ (tI t 706 0) then (some (v2, t)) else (nxt (tR t 704 0) (fun o21 => (oc o21 none (fun j22 => (gd (tI t 706 0) (tL t 2700 j22) (if (tA t 2700 j22 (tI t 706 0).toNatClampNeg) = 42 then (B_X7_product_66 g k6 t v1 v2) else (nxt (tR t 704 0) (fun o23 => (oc o23 none (fun j24 => (gd (tI t 706 0) (tL t 2700 j24) (if (tA t 2700 j24 (tI t 706 0).toNatClampNeg) = 47 then (B_X7_product_66 g k6 t v1 v2) else (nxt (tR t 704 0) (fun o25 => (oc o25 none (fun j26 => (gd (tI t 706 0) (tL t 2700 j26) (if ¬ (tA t 2700 j26 (tI t 706 0).toNatClampNeg) = 37 then (some (v2, t)) else (B_X7_product_66 g k6 t v1 v2)))))))))))))))))))))
theorem TBB_X7_product_6 {W : NW} {d : Nat} {Q : Option NV → TS → Prop} {a0 : Nat → Nat → Nat} {e0 : Nat → Nat → Bool} {g : Nat → TS → Int32 → Option (Int32 × TS)} {k6 : TS → Int32 → Int32 → Option (Int32 × TS)} {bc bs : Nat} (hW : W.2.2.2 = mm_fx) (hg0 : ∀ (t : TS) (x1 : Int32) (bc bs : Nat) (Q : Option NV → TS → Prop), wp (g 0 t x1) (fun r => Q (some (eI r.1)) r.2) → nC W (d + 5) 45 [eR (some (7, 0)), eI x1] t bc bs Q) (hg1 : ∀ (t : TS) (x1 : Int32) (bc bs : Nat) (Q : Option NV → TS → Prop), wp (g 1 t x1) (fun r => Q (some (eI r.1)) r.2) → nC W (d + 5) 46 [eR (some (7, 0)), eI x1] t bc bs Q) (hg2 : ∀ (t : TS) (x1 : Int32) (bc bs : Nat) (Q : Option NV → TS → Prop), wp (g 2 t x1) (fun r => Q (some (eI r.1)) r.2) → nC W (d + 5) 47 [eR (some (7, 0)), eI x1] t bc bs Q) (hk6 : ∀ (t : TS) (v1 : Int32) (v2 : Int32) (v3 : Option NV) (v4 : Option NV), wp (k6 t v1 v2) (fun r => Q (some (eI r.1)) r.2) → nX W (d + 5) tX7_product Q a0 e0 6 [some (eR (some (7, 0))), some (eI v1), some (eI v2), v3, v4] [] t bc bs) : ∀ (t : TS) (v1 : Int32) (v2 : Int32) (v3 : Option NV) (v4 : Option NV), wp (BB_X7_product_6 g k6 t v1 v2) (fun r => Q (some (eI r.1)) r.2) → nX W (d + 5) tX7_product Q a0 e0 6 [some (eR (some (7, 0))), some (eI v1), some (eI v2), v3, v4] [] t bc bs := by
  intro t v1 v2 v3 v4 H
  unfold BB_X7_product_6 at H
  refine nx_ld rfl rfl rfl rfl ?_
  refine nx_getI rfl rfl rfl (by decide) ?_
  refine nx_if rfl rfl (by rfl) H (fun H => ?_) (fun H => ?_)
  · refine nx_ld rfl rfl rfl rfl ?_
    exact nx_rit rfl rfl H
  refine nx_ld rfl rfl rfl rfl ?_
  refine nx_getI rfl rfl rfl (by decide) ?_
  refine nx_ld rfl rfl rfl rfl ?_
  refine nx_getI rfl rfl rfl (by decide) ?_
  refine nx_icmp rfl rfl (by rfl) H (fun H => ?_) (fun H => ?_)
  · refine nx_ld rfl rfl rfl rfl ?_
    exact nx_rit rfl rfl H
  refine nx_ld rfl rfl rfl rfl ?_
  refine nx_getR rfl rfl rfl (by decide) rfl H (fun o21 H => ?_)
  refine nx_ld rfl rfl rfl rfl ?_
  refine nx_getI rfl rfl rfl (by decide) ?_
  rcases o21 with _ | j22
  · exact (wp_none (oc_no H)).elim
  replace H := oc_so H
  refine nx_bald (c := 2700) (i := j22) rfl rfl (Nat.le_of_ble_eq_true rfl) (Nat.le_of_ble_eq_true rfl) (Or.inl rfl) H (fun H => ?_)
  refine nx_int (x := 42) rfl rfl ?_
  refine nx_icmp rfl rfl (by rfl) H (fun H => ?_) (fun H => ?_)
  · exact TB_X7_product_66 hW  hg0 hg1 hg2 hk6 _ _ _ _ _ H
  refine nx_ld rfl rfl rfl rfl ?_
  refine nx_getR rfl rfl rfl (by decide) rfl H (fun o23 H => ?_)
  refine nx_ld rfl rfl rfl rfl ?_
  refine nx_getI rfl rfl rfl (by decide) ?_
  rcases o23 with _ | j24
  · exact (wp_none (oc_no H)).elim
  replace H := oc_so H
  refine nx_bald (c := 2700) (i := j24) rfl rfl (Nat.le_of_ble_eq_true rfl) (Nat.le_of_ble_eq_true rfl) (Or.inl rfl) H (fun H => ?_)
  refine nx_int (x := 47) rfl rfl ?_
  refine nx_icmp rfl rfl (by rfl) H (fun H => ?_) (fun H => ?_)
  · exact TB_X7_product_66 hW  hg0 hg1 hg2 hk6 _ _ _ _ _ H
  refine nx_ld rfl rfl rfl rfl ?_
  refine nx_getR rfl rfl rfl (by decide) rfl H (fun o25 H => ?_)
  refine nx_ld rfl rfl rfl rfl ?_
  refine nx_getI rfl rfl rfl (by decide) ?_
  rcases o25 with _ | j26
  · exact (wp_none (oc_no H)).elim
  replace H := oc_so H
  refine nx_bald (c := 2700) (i := j26) rfl rfl (Nat.le_of_ble_eq_true rfl) (Nat.le_of_ble_eq_true rfl) (Or.inl rfl) H (fun H => ?_)
  refine nx_int (x := 37) rfl rfl ?_
  refine nx_icmp rfl rfl (by rfl) H (fun H => ?_) (fun H => ?_)
  · refine nx_ld rfl rfl rfl rfl ?_
    exact nx_rit rfl rfl H
  exact TB_X7_product_66 hW  hg0 hg1 hg2 hk6 _ _ _ _ _ H
def B_X7_product_6 (g : Nat → TS → Int32 → Option (Int32 × TS)) : Nat → TS → Int32 → Int32 → Option (Int32 × TS)
  | 0 => fun _ _ _ => none
  | n + 1 => fun t v1 v2 => BB_X7_product_6 g (B_X7_product_6 g n) t v1 v2
theorem TB_X7_product_6 {W : NW} {d : Nat} {Q : Option NV → TS → Prop} {a0 : Nat → Nat → Nat} {e0 : Nat → Nat → Bool} {g : Nat → TS → Int32 → Option (Int32 × TS)} {bc bs : Nat} (hW : W.2.2.2 = mm_fx) (hg0 : ∀ (t : TS) (x1 : Int32) (bc bs : Nat) (Q : Option NV → TS → Prop), wp (g 0 t x1) (fun r => Q (some (eI r.1)) r.2) → nC W (d + 5) 45 [eR (some (7, 0)), eI x1] t bc bs Q) (hg1 : ∀ (t : TS) (x1 : Int32) (bc bs : Nat) (Q : Option NV → TS → Prop), wp (g 1 t x1) (fun r => Q (some (eI r.1)) r.2) → nC W (d + 5) 46 [eR (some (7, 0)), eI x1] t bc bs Q) (hg2 : ∀ (t : TS) (x1 : Int32) (bc bs : Nat) (Q : Option NV → TS → Prop), wp (g 2 t x1) (fun r => Q (some (eI r.1)) r.2) → nC W (d + 5) 47 [eR (some (7, 0)), eI x1] t bc bs Q) : ∀ (n : Nat) (t : TS) (v1 : Int32) (v2 : Int32) (v3 : Option NV) (v4 : Option NV), wp (B_X7_product_6 g n t v1 v2) (fun r => Q (some (eI r.1)) r.2) → nX W (d + 5) tX7_product Q a0 e0 6 [some (eR (some (7, 0))), some (eI v1), some (eI v2), v3, v4] [] t bc bs := by
  intro n
  induction n with
  | zero => intro t v1 v2 v3 v4 H; exact (wp_none H).elim
  | succ n ih =>
    intro t v1 v2 v3 v4 H
    exact TBB_X7_product_6 hW  hg0 hg1 hg2   ih t v1 v2 v3 v4 H
def Fb_X7_product (g : Nat → TS → Int32 → Option (Int32 × TS)) (t : TS) (x1 : Int32) : Option (Int32 × TS) := (ob2 (g 2 t x1) (fun x22 t23 => (B_X7_product_6 g  10000 t23 x1 x22)))
theorem TFb_X7_product {W : NW} {d : Nat} {g : Nat → TS → Int32 → Option (Int32 × TS)} {t : TS} {x1 : Int32} {Q : Option NV → TS → Prop} {bc bs : Nat} (hW : W.2.2.2 = mm_fx) (hg0 : ∀ (t : TS) (x1 : Int32) (bc bs : Nat) (Q : Option NV → TS → Prop), wp (g 0 t x1) (fun r => Q (some (eI r.1)) r.2) → nC W (d + 5) 45 [eR (some (7, 0)), eI x1] t bc bs Q) (hg1 : ∀ (t : TS) (x1 : Int32) (bc bs : Nat) (Q : Option NV → TS → Prop), wp (g 1 t x1) (fun r => Q (some (eI r.1)) r.2) → nC W (d + 5) 46 [eR (some (7, 0)), eI x1] t bc bs Q) (hg2 : ∀ (t : TS) (x1 : Int32) (bc bs : Nat) (Q : Option NV → TS → Prop), wp (g 2 t x1) (fun r => Q (some (eI r.1)) r.2) → nC W (d + 5) 47 [eR (some (7, 0)), eI x1] t bc bs Q) (H : wp (Fb_X7_product g t x1) (fun r => Q (some (eI r.1)) r.2)) : nC W (d + 6) 46 [eR (some (7, 0)), eI x1] t bc bs Q := by
  refine nC_in (d := (d + 5)) (T := tX7_product) (ls := [some (eR (some (7, 0))), some (eI x1), none, none, none]) rfl (Nat.le_of_ble_eq_true rfl) rfl (fun a0 e0 => ?_)
  unfold Fb_X7_product at H
  refine nx_ld rfl rfl rfl rfl ?_
  refine nx_ld rfl rfl rfl rfl ?_
  refine nx_cVI2 (as := [eI x1]) (st' := []) rfl rfl (Nat.le_of_ble_eq_true rfl) rfl rfl (Nat.le_of_ble_eq_true rfl) (c0 := 7) rfl (by decide) H (fun Q H => hg2 _ _ _ _ _ H) (fun x22 t23 H => ?_)
  refine nx_st (ls' := [some (eR (some (7, 0))), some (eI x1), some (eI x22), none, none]) rfl rfl rfl (Nat.le_of_ble_eq_true rfl) rfl ?_
  exact TB_X7_product_6 hW  hg0 hg1 hg2  10000 _ _ _ _ _ H
def B_X7_operand_74 (g : Nat → TS → Int32 → Option (Int32 × TS)) (t : TS) (s0 : Int32) : Option (Int32 × TS) := (if 0 ≤ s0 then (nxt (uI t 706 0 ((tI t 706 0) + 1)) (fun t21 => (nxt (uI t21 703 0 ((tI t21 703 0) ||| ((1 : Int32) <<< (s0 &&& 31)))) (fun t22 => (gd s0 (tL t22 2702 0) (some ((tA t22 2702 0 s0.toNatClampNeg), t22))))))) else (ob2 (F_X7_fail t) (fun x24 t25 => (some (x24, t25)))))
theorem TB_X7_operand_74 {W : NW} {d : Nat} {Q : Option NV → TS → Prop} {a0 : Nat → Nat → Nat} {e0 : Nat → Nat → Bool} {g : Nat → TS → Int32 → Option (Int32 × TS)} {bc bs : Nat} (hW : W.2.2.2 = mm_fx) (hg0 : ∀ (t : TS) (x1 : Int32) (bc bs : Nat) (Q : Option NV → TS → Prop), wp (g 0 t x1) (fun r => Q (some (eI r.1)) r.2) → nC W (d + 5) 45 [eR (some (7, 0)), eI x1] t bc bs Q) (hg1 : ∀ (t : TS) (x1 : Int32) (bc bs : Nat) (Q : Option NV → TS → Prop), wp (g 1 t x1) (fun r => Q (some (eI r.1)) r.2) → nC W (d + 5) 46 [eR (some (7, 0)), eI x1] t bc bs Q) (hg2 : ∀ (t : TS) (x1 : Int32) (bc bs : Nat) (Q : Option NV → TS → Prop), wp (g 2 t x1) (fun r => Q (some (eI r.1)) r.2) → nC W (d + 5) 47 [eR (some (7, 0)), eI x1] t bc bs Q) : ∀ (t : TS) (v1 : Int32) (v2 : Int32) (s0 : Int32), wp (B_X7_operand_74 g t s0) (fun r => Q (some (eI r.1)) r.2) → nX W (d + 5) tX7_operand Q a0 e0 74 [some (eR (some (7, 0))), some (eI v1), some (eI v2), none] [eI s0] t bc bs := by
  intro t v1 v2 s0 H
  unfold B_X7_operand_74 at H
  refine nx_st (ls' := [some (eR (some (7, 0))), some (eI v1), some (eI v2), some (eI s0)]) rfl rfl rfl (Nat.le_of_ble_eq_true rfl) rfl ?_
  refine nx_ld rfl rfl rfl rfl ?_
  refine nx_if rfl rfl (by rfl) H (fun H => ?_) (fun H => ?_)
  · refine nx_ld rfl rfl rfl rfl ?_
    refine nx_dup rfl rfl (Nat.ne_of_beq_eq_false rfl) ?_
    refine nx_getI rfl rfl rfl (by decide) ?_
    refine nx_int (x := 1) rfl rfl ?_
    refine nx_ii rfl rfl ?_
    refine nx_putI rfl rfl rfl (by decide) H (fun t21 H => ?_)
    refine nx_ld rfl rfl rfl rfl ?_
    show nX _ _ _ _ _ _ 95 _ _ _ _ _
    refine nx_dup rfl rfl (Nat.ne_of_beq_eq_false rfl) ?_
    refine nx_getI rfl rfl rfl (by decide) ?_
    refine nx_int (x := 1) rfl rfl ?_
    refine nx_ld rfl rfl rfl rfl ?_
    refine nx_ii rfl rfl ?_
    refine nx_ii rfl rfl ?_
    refine nx_putI rfl rfl rfl (by decide) H (fun t22 H => ?_)
    refine nx_ld rfl rfl rfl rfl ?_
    show nX _ _ _ _ _ _ 107 _ _ _ _ _
    refine nx_getFix rfl rfl rfl (by decide) (by rw [hW]; rfl) rfl ?_
    refine nx_ld rfl rfl rfl rfl ?_
    refine nx_iald (p := (2702, 0)) rfl rfl (Nat.le_of_ble_eq_true rfl) (Nat.le_of_ble_eq_true rfl) rfl H (fun H => ?_)
    exact nx_rit rfl rfl H
  refine nx_ld rfl rfl rfl rfl ?_
  refine nx_cVI2 (as := []) (st' := []) rfl rfl (Nat.le_of_ble_eq_true rfl) rfl rfl (Nat.le_of_ble_eq_true rfl) (c0 := 7) rfl (by decide) H (fun Q H => TF_X7_fail hW  H) (fun x24 t25 H => ?_)
  exact nx_rit rfl rfl H
def B_X7_operand_59 (g : Nat → TS → Int32 → Option (Int32 × TS)) (t : TS) (v2 : Int32) : Option (Int32 × TS) := (if 0 ≤ v2 then (Option.bind (F_J0_indexOf_0f7a4 t (((v2.toUInt32 % 65536).toInt32))) (fun r21 => (B_X7_operand_74 g  t r21))) else (B_X7_operand_74 g  t (-1)))
theorem TB_X7_operand_59 {W : NW} {d : Nat} {Q : Option NV → TS → Prop} {a0 : Nat → Nat → Nat} {e0 : Nat → Nat → Bool} {g : Nat → TS → Int32 → Option (Int32 × TS)} {bc bs : Nat} (hW : W.2.2.2 = mm_fx) (hg0 : ∀ (t : TS) (x1 : Int32) (bc bs : Nat) (Q : Option NV → TS → Prop), wp (g 0 t x1) (fun r => Q (some (eI r.1)) r.2) → nC W (d + 5) 45 [eR (some (7, 0)), eI x1] t bc bs Q) (hg1 : ∀ (t : TS) (x1 : Int32) (bc bs : Nat) (Q : Option NV → TS → Prop), wp (g 1 t x1) (fun r => Q (some (eI r.1)) r.2) → nC W (d + 5) 46 [eR (some (7, 0)), eI x1] t bc bs Q) (hg2 : ∀ (t : TS) (x1 : Int32) (bc bs : Nat) (Q : Option NV → TS → Prop), wp (g 2 t x1) (fun r => Q (some (eI r.1)) r.2) → nC W (d + 5) 47 [eR (some (7, 0)), eI x1] t bc bs Q) : ∀ (t : TS) (v1 : Int32) (v2 : Int32), wp (B_X7_operand_59 g t v2) (fun r => Q (some (eI r.1)) r.2) → nX W (d + 5) tX7_operand Q a0 e0 59 [some (eR (some (7, 0))), some (eI v1), some (eI v2), none] [] t bc bs := by
  intro t v1 v2 H
  unfold B_X7_operand_59 at H
  refine nx_ld rfl rfl rfl rfl ?_
  refine nx_if rfl rfl (by rfl) H (fun H => ?_) (fun H => ?_)
  · refine nx_sta 100 rfl rfl ?_
    refine nx_ld rfl rfl rfl rfl ?_
    refine nx_i1 rfl rfl ?_
    refine nx_cTI (as := [eI (((v2.toUInt32 % 65536).toInt32))]) (st' := []) rfl rfl (Nat.le_of_ble_eq_true rfl) rfl rfl (Nat.le_of_ble_eq_true rfl) H (fun Q H => TF_J0_indexOf_0f7a4 hW  H) (fun r21 H => ?_)
    exact TB_X7_operand_74 hW  hg0 hg1 hg2  _ _ _ _ H
  refine nx_int (x := (-1)) rfl rfl ?_
  refine nx_goto rfl rfl ?_
  exact TB_X7_operand_74 hW  hg0 hg1 hg2  _ _ _ _ H
def Fb_X7_operand (g : Nat → TS → Int32 → Option (Int32 × TS)) (t : TS) (x1 : Int32) : Option (Int32 × TS) := (Option.bind (F_X7_peek t) (fun r21 => (Option.bind (F_X12_within t r21 48 57) (fun r22 => (if r22 = 0 then (if ¬ r21 = 40 then (B_X7_operand_59 g  t r21) else (if 8 ≤ x1 then (B_X7_operand_59 g  t r21) else (nxt (uI t 706 0 ((tI t 706 0) + 1)) (fun t23 => (ob2 (g 0 t23 (x1 + 1)) (fun x25 t26 => (Option.bind (F_X7_pass t26 41) (fun r27 => (some (x25, r27)))))))))) else (ob2 (F_X7_number t) (fun x29 t30 => (some (x29, t30)))))))))
theorem TFb_X7_operand {W : NW} {d : Nat} {g : Nat → TS → Int32 → Option (Int32 × TS)} {t : TS} {x1 : Int32} {Q : Option NV → TS → Prop} {bc bs : Nat} (hW : W.2.2.2 = mm_fx) (hg0 : ∀ (t : TS) (x1 : Int32) (bc bs : Nat) (Q : Option NV → TS → Prop), wp (g 0 t x1) (fun r => Q (some (eI r.1)) r.2) → nC W (d + 5) 45 [eR (some (7, 0)), eI x1] t bc bs Q) (hg1 : ∀ (t : TS) (x1 : Int32) (bc bs : Nat) (Q : Option NV → TS → Prop), wp (g 1 t x1) (fun r => Q (some (eI r.1)) r.2) → nC W (d + 5) 46 [eR (some (7, 0)), eI x1] t bc bs Q) (hg2 : ∀ (t : TS) (x1 : Int32) (bc bs : Nat) (Q : Option NV → TS → Prop), wp (g 2 t x1) (fun r => Q (some (eI r.1)) r.2) → nC W (d + 5) 47 [eR (some (7, 0)), eI x1] t bc bs Q) (H : wp (Fb_X7_operand g t x1) (fun r => Q (some (eI r.1)) r.2)) : nC W (d + 6) 47 [eR (some (7, 0)), eI x1] t bc bs Q := by
  refine nC_in (d := (d + 5)) (T := tX7_operand) (ls := [some (eR (some (7, 0))), some (eI x1), none, none]) rfl (Nat.le_of_ble_eq_true rfl) rfl (fun a0 e0 => ?_)
  unfold Fb_X7_operand at H
  refine nx_ld rfl rfl rfl rfl ?_
  refine nx_cVI (as := []) (st' := []) rfl rfl (Nat.le_of_ble_eq_true rfl) rfl rfl (Nat.le_of_ble_eq_true rfl) (c0 := 7) rfl (by decide) H (fun Q H => TF_X7_peek hW  H) (fun r21 H => ?_)
  refine nx_st (ls' := [some (eR (some (7, 0))), some (eI x1), some (eI r21), none]) rfl rfl rfl (Nat.le_of_ble_eq_true rfl) rfl ?_
  refine nx_ld rfl rfl rfl rfl ?_
  refine nx_int (x := 48) rfl rfl ?_
  refine nx_int (x := 57) rfl rfl ?_
  refine nx_cSI (as := [eI r21, eI 48, eI 57]) (st' := []) rfl rfl (Nat.le_of_ble_eq_true rfl) rfl rfl (Nat.le_of_ble_eq_true rfl) H (fun Q H => TF_X12_within hW  H) (fun r22 H => ?_)
  show nX _ _ _ _ _ _ 13 _ _ _ _ _
  refine nx_if rfl rfl (by rfl) H (fun H => ?_) (fun H => ?_)
  · refine nx_ld rfl rfl rfl rfl ?_
    refine nx_int (x := 40) rfl rfl ?_
    refine nx_icmp rfl rfl (by rfl) H (fun H => ?_) (fun H => ?_)
    · exact TB_X7_operand_59 hW  hg0 hg1 hg2  _ _ _ H
    refine nx_ld rfl rfl rfl rfl ?_
    refine nx_int (x := 8) rfl rfl ?_
    refine nx_icmp rfl rfl (by rfl) H (fun H => ?_) (fun H => ?_)
    · exact TB_X7_operand_59 hW  hg0 hg1 hg2  _ _ _ H
    refine nx_ld rfl rfl rfl rfl ?_
    refine nx_dup rfl rfl (Nat.ne_of_beq_eq_false rfl) ?_
    refine nx_getI rfl rfl rfl (by decide) ?_
    refine nx_int (x := 1) rfl rfl ?_
    refine nx_ii rfl rfl ?_
    refine nx_putI rfl rfl rfl (by decide) H (fun t23 H => ?_)
    refine nx_ld rfl rfl rfl rfl ?_
    show nX _ _ _ _ _ _ 44 _ _ _ _ _
    refine nx_ld rfl rfl rfl rfl ?_
    refine nx_int (x := 1) rfl rfl ?_
    refine nx_ii rfl rfl ?_
    refine nx_cVI2 (as := [eI (x1 + 1)]) (st' := []) rfl rfl (Nat.le_of_ble_eq_true rfl) rfl rfl (Nat.le_of_ble_eq_true rfl) (c0 := 7) rfl (by decide) H (fun Q H => hg0 _ _ _ _ _ H) (fun x25 t26 H => ?_)
    refine nx_st (ls' := [some (eR (some (7, 0))), some (eI x1), some (eI r21), some (eI x25)]) rfl rfl rfl (Nat.le_of_ble_eq_true rfl) rfl ?_
    refine nx_ld rfl rfl rfl rfl ?_
    refine nx_int (x := 41) rfl rfl ?_
    refine nx_cVVt (as := [eI 41]) (st' := []) rfl rfl (Nat.le_of_ble_eq_true rfl) rfl rfl (Nat.le_of_ble_eq_true rfl) (c0 := 7) rfl (by decide) H (fun Q H => TF_X7_pass hW  H) (fun r27 H => ?_)
    show nX _ _ _ _ _ _ 57 _ _ _ _ _
    refine nx_ld rfl rfl rfl rfl ?_
    exact nx_rit rfl rfl H
  refine nx_ld rfl rfl rfl rfl ?_
  refine nx_cVI2 (as := []) (st' := []) rfl rfl (Nat.le_of_ble_eq_true rfl) rfl rfl (Nat.le_of_ble_eq_true rfl) (c0 := 7) rfl (by decide) H (fun Q H => TF_X7_number hW  H) (fun x29 t30 H => ?_)
  exact nx_rit rfl rfl H
def G_X7_sum : Nat → Nat → TS → Int32 → Option (Int32 × TS)
  | 0, _ => fun _ _ => none
  | n + 1, w => fun t x1 => match w with
    | 0 => Fb_X7_sum (G_X7_sum n) t x1
    | 1 => Fb_X7_product (G_X7_sum n) t x1
    | 2 => Fb_X7_operand (G_X7_sum n) t x1
    | _ => none
theorem GS_X7_sum (n : Nat) (t : TS) (x1 : Int32) : G_X7_sum (n + 1) 0 t x1 = Fb_X7_sum (G_X7_sum n) t x1 := by simp only [G_X7_sum]
theorem GS_X7_product (n : Nat) (t : TS) (x1 : Int32) : G_X7_sum (n + 1) 1 t x1 = Fb_X7_product (G_X7_sum n) t x1 := by simp only [G_X7_sum]
theorem GS_X7_operand (n : Nat) (t : TS) (x1 : Int32) : G_X7_sum (n + 1) 2 t x1 = Fb_X7_operand (G_X7_sum n) t x1 := by simp only [G_X7_sum]
theorem TG_X7_sum {W : NW} {d : Nat} (hW : W.2.2.2 = mm_fx) : ∀ n, (∀ (t : TS) (x1 : Int32) (bc bs : Nat) (Q : Option NV → TS → Prop), wp (G_X7_sum n 0 t x1) (fun r => Q (some (eI r.1)) r.2) → nC W (d + n + 5) 45 [eR (some (7, 0)), eI x1] t bc bs Q) ∧ (∀ (t : TS) (x1 : Int32) (bc bs : Nat) (Q : Option NV → TS → Prop), wp (G_X7_sum n 1 t x1) (fun r => Q (some (eI r.1)) r.2) → nC W (d + n + 5) 46 [eR (some (7, 0)), eI x1] t bc bs Q) ∧ (∀ (t : TS) (x1 : Int32) (bc bs : Nat) (Q : Option NV → TS → Prop), wp (G_X7_sum n 2 t x1) (fun r => Q (some (eI r.1)) r.2) → nC W (d + n + 5) 47 [eR (some (7, 0)), eI x1] t bc bs Q) := by
  intro n
  induction n with
  | zero => exact ⟨fun t x1 bc bs Q H => (wp_none H).elim, fun t x1 bc bs Q H => (wp_none H).elim, fun t x1 bc bs Q H => (wp_none H).elim⟩
  | succ n ih =>
    obtain ⟨i0, i1, i2⟩ := ih
    exact ⟨fun t x1 bc bs Q H => TFb_X7_sum (d := d + n) hW i0 i1 i2 (by rw [GS_X7_sum] at H; exact H), fun t x1 bc bs Q H => TFb_X7_product (d := d + n) hW i0 i1 i2 (by rw [GS_X7_product] at H; exact H), fun t x1 bc bs Q H => TFb_X7_operand (d := d + n) hW i0 i1 i2 (by rw [GS_X7_operand] at H; exact H)⟩
def F_X7_sum (t : TS) (x1 : Int32) : Option (Int32 × TS) := G_X7_sum 100 0 t x1
theorem TF_X7_sum {W : NW} {d : Nat} {t : TS} {x1 : Int32} {Q : Option NV → TS → Prop} {bc bs : Nat} (hW : W.2.2.2 = mm_fx) (H : wp (F_X7_sum t x1) (fun r => Q (some (eI r.1)) r.2)) : nC W (d + 105) 45 [eR (some (7, 0)), eI x1] t bc bs Q := (TG_X7_sum (d := d) hW 100).1 t x1 bc bs Q H
def F_X7_product (t : TS) (x1 : Int32) : Option (Int32 × TS) := G_X7_sum 100 1 t x1
theorem TF_X7_product {W : NW} {d : Nat} {t : TS} {x1 : Int32} {Q : Option NV → TS → Prop} {bc bs : Nat} (hW : W.2.2.2 = mm_fx) (H : wp (F_X7_product t x1) (fun r => Q (some (eI r.1)) r.2)) : nC W (d + 105) 46 [eR (some (7, 0)), eI x1] t bc bs Q := (TG_X7_sum (d := d) hW 100).2.1 t x1 bc bs Q H
def F_X7_operand (t : TS) (x1 : Int32) : Option (Int32 × TS) := G_X7_sum 100 2 t x1
theorem TF_X7_operand {W : NW} {d : Nat} {t : TS} {x1 : Int32} {Q : Option NV → TS → Prop} {bc bs : Nat} (hW : W.2.2.2 = mm_fx) (H : wp (F_X7_operand t x1) (fun r => Q (some (eI r.1)) r.2)) : nC W (d + 105) 47 [eR (some (7, 0)), eI x1] t bc bs Q := (TG_X7_sum (d := d) hW 100).2.2 t x1 bc bs Q H
