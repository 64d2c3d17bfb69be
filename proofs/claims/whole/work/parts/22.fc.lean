/-! functions of methods over the typed heap, and that the runs follow them (by program: wip/whole/walk.py) -/
def BB_X7_anyOf_6 (g : Nat → TS → Int32 → Option (Int32 × TS)) (k6 : TS → Int32 → Int32 → Option (Int32 × TS)) (t : TS) (v1 : Int32) (v2 : Int32) : Option (Int32 × TS) := (if 0 ≤ (tI t 707 0) then (gb v2 (some (v2, t))) else (if (tI t 705 0) ≤ (tI t 706 0) then (gb v2 (some (v2, t))) else (nxt (tR t 704 0) (fun o21 => (oc o21 none (fun j22 => (gd (tI t 706 0) (tL t 2700 j22) (if ¬ (tA t 2700 j22 (tI t 706 0).toNatClampNeg) = 124 then (gb v2 (some (v2, t))) else (nxt (uI t 706 0 ((tI t 706 0) + 1)) (fun t23 => (ob2 (g 1 t23 v1) (fun x25 t26 => (k6 t26 v1 (v2 ||| x25))))))))))))))
theorem TBB_X7_anyOf_6 {W : NW} {d : Nat} {Q : Option NV → TS → Prop} {a0 : Nat → Nat → Nat} {e0 : Nat → Nat → Bool} {g : Nat → TS → Int32 → Option (Int32 × TS)} {k6 : TS → Int32 → Int32 → Option (Int32 × TS)} {bc bs : Nat} (hW : W.2.2.2 = mm_fx) (hg0 : ∀ (t : TS) (x1 : Int32) (bc bs : Nat) (Q : Option NV → TS → Prop), wp (g 0 t x1) (fun r => Q (some (eI r.1)) r.2) → nC W (d + 106) 42 [eR (some (7, 0)), eI x1] t bc bs Q) (hg1 : ∀ (t : TS) (x1 : Int32) (bc bs : Nat) (Q : Option NV → TS → Prop), wp (g 1 t x1) (fun r => Q (some (eI r.1)) r.2) → nC W (d + 106) 43 [eR (some (7, 0)), eI x1] t bc bs Q) (hg2 : ∀ (t : TS) (x1 : Int32) (bc bs : Nat) (Q : Option NV → TS → Prop), wp (g 2 t x1) (fun r => Q (some (eI r.1)) r.2) → nC W (d + 106) 44 [eR (some (7, 0)), eI x1] t bc bs Q) (hk6 : ∀ (t : TS) (v1 : Int32) (v2 : Int32), wp (k6 t v1 v2) (fun r => Q (some (eI r.1)) r.2) → nX W (d + 106) tX7_anyOf Q a0 e0 6 [some (eR (some (7, 0))), some (eI v1), some (eI v2)] [] t bc bs) : ∀ (t : TS) (v1 : Int32) (v2 : Int32), wp (BB_X7_anyOf_6 g k6 t v1 v2) (fun r => Q (some (eI r.1)) r.2) → nX W (d + 106) tX7_anyOf Q a0 e0 6 [some (eR (some (7, 0))), some (eI v1), some (eI v2)] [] t bc bs := by
  intro t v1 v2 H
  unfold BB_X7_anyOf_6 at H
  refine nx_ld rfl rfl rfl rfl ?_
  refine nx_getI rfl rfl rfl (by decide) ?_
  refine nx_if rfl rfl (by rfl) H (fun H => ?_) (fun H => ?_)
  · refine nx_ld rfl rfl rfl rfl ?_
    exact nx_rzt rfl rfl H
  refine nx_ld rfl rfl rfl rfl ?_
  refine nx_getI rfl rfl rfl (by decide) ?_
  refine nx_ld rfl rfl rfl rfl ?_
  refine nx_getI rfl rfl rfl (by decide) ?_
  refine nx_icmp rfl rfl (by rfl) H (fun H => ?_) (fun H => ?_)
  · refine nx_ld rfl rfl rfl rfl ?_
    exact nx_rzt rfl rfl H
  refine nx_ld rfl rfl rfl rfl ?_
  refine nx_getR rfl rfl rfl (by decide) rfl H (fun o21 H => ?_)
  refine nx_ld rfl rfl rfl rfl ?_
  refine nx_getI rfl rfl rfl (by decide) ?_
  rcases o21 with _ | j22
  · exact (wp_none (oc_no H)).elim
  replace H := oc_so H
  refine nx_bald (c := 2700) (i := j22) rfl rfl (Nat.le_of_ble_eq_true rfl) (Nat.le_of_ble_eq_true rfl) (Or.inl rfl) H (fun H => ?_)
  refine nx_int (x := 124) rfl rfl ?_
  refine nx_icmp rfl rfl (by rfl) H (fun H => ?_) (fun H => ?_)
  · refine nx_ld rfl rfl rfl rfl ?_
    exact nx_rzt rfl rfl H
  refine nx_ld rfl rfl rfl rfl ?_
  refine nx_dup rfl rfl (Nat.ne_of_beq_eq_false rfl) ?_
  refine nx_getI rfl rfl rfl (by decide) ?_
  refine nx_int (x := 1) rfl rfl ?_
  refine nx_ii rfl rfl ?_
  refine nx_putI rfl rfl rfl (by decide) H (fun t23 H => ?_)
  refine nx_ld rfl rfl rfl rfl ?_
  show nX _ _ _ _ _ _ 49 _ _ _ _ _
  refine nx_ld rfl rfl rfl rfl ?_
  refine nx_ld rfl rfl rfl rfl ?_
  refine nx_cVI2 (as := [eI v1]) (st' := [eI v2]) rfl rfl (Nat.le_of_ble_eq_true rfl) rfl rfl (Nat.le_of_ble_eq_true rfl) (c0 := 7) rfl (by decide) H (fun Q H => hg1 _ _ _ _ _ H) (fun x25 t26 H => ?_)
  refine nx_ii rfl rfl ?_
  refine nx_st (ls' := [some (eR (some (7, 0))), some (eI v1), some (eI (v2 ||| x25))]) rfl rfl rfl (Nat.le_of_ble_eq_true rfl) rfl ?_
  refine nx_goto rfl rfl ?_
  exact hk6 _ _ _ H
def B_X7_anyOf_6 (g : Nat → TS → Int32 → Option (Int32 × TS)) : Nat → TS → Int32 → Int32 → Option (Int32 × TS)
  | 0 => fun _ _ _ => none
  | n + 1 => fun t v1 v2 => BB_X7_anyOf_6 g (B_X7_anyOf_6 g n) t v1 v2
theorem TB_X7_anyOf_6 {W : NW} {d : Nat} {Q : Option NV → TS → Prop} {a0 : Nat → Nat → Nat} {e0 : Nat → Nat → Bool} {g : Nat → TS → Int32 → Option (Int32 × TS)} {bc bs : Nat} (hW : W.2.2.2 = mm_fx) (hg0 : ∀ (t : TS) (x1 : Int32) (bc bs : Nat) (Q : Option NV → TS → Prop), wp (g 0 t x1) (fun r => Q (some (eI r.1)) r.2) → nC W (d + 106) 42 [eR (some (7, 0)), eI x1] t bc bs Q) (hg1 : ∀ (t : TS) (x1 : Int32) (bc bs : Nat) (Q : Option NV → TS → Prop), wp (g 1 t x1) (fun r => Q (some (eI r.1)) r.2) → nC W (d + 106) 43 [eR (some (7, 0)), eI x1] t bc bs Q) (hg2 : ∀ (t : TS) (x1 : Int32) (bc bs : Nat) (Q : Option NV → TS → Prop), wp (g 2 t x1) (fun r => Q (some (eI r.1)) r.2) → nC W (d + 106) 44 [eR (some (7, 0)), eI x1] t bc bs Q) : ∀ (n : Nat) (t : TS) (v1 : Int32) (v2 : Int32), wp (B_X7_anyOf_6 g n t v1 v2) (fun r => Q (some (eI r.1)) r.2) → nX W (d + 106) tX7_anyOf Q a0 e0 6 [some (eR (some (7, 0))), some (eI v1), some (eI v2)] [] t bc bs := by
  intro n
  induction n with
  | zero => intro t v1 v2 H; exact (wp_none H).elim
  | succ n ih =>
    intro t v1 v2 H
    exact TBB_X7_anyOf_6 hW  hg0 hg1 hg2   ih t v1 v2 H
def Fb_X7_anyOf (g : Nat → TS → Int32 → Option (Int32 × TS)) (t : TS) (x1 : Int32) : Option (Int32 × TS) := (ob2 (g 1 t x1) (fun x22 t23 => (B_X7_anyOf_6 g  10000 t23 x1 x22)))
theorem TFb_X7_anyOf {W : NW} {d : Nat} {g : Nat → TS → Int32 → Option (Int32 × TS)} {t : TS} {x1 : Int32} {Q : Option NV → TS → Prop} {bc bs : Nat} (hW : W.2.2.2 = mm_fx) (hg0 : ∀ (t : TS) (x1 : Int32) (bc bs : Nat) (Q : Option NV → TS → Prop), wp (g 0 t x1) (fun r => Q (some (eI r.1)) r.2) → nC W (d + 106) 42 [eR (some (7, 0)), eI x1] t bc bs Q) (hg1 : ∀ (t : TS) (x1 : Int32) (bc bs : Nat) (Q : Option NV → TS → Prop), wp (g 1 t x1) (fun r => Q (some (eI r.1)) r.2) → nC W (d + 106) 43 [eR (some (7, 0)), eI x1] t bc bs Q) (hg2 : ∀ (t : TS) (x1 : Int32) (bc bs : Nat) (Q : Option NV → TS → Prop), wp (g 2 t x1) (fun r => Q (some (eI r.1)) r.2) → nC W (d + 106) 44 [eR (some (7, 0)), eI x1] t bc bs Q) (H : wp (Fb_X7_anyOf g t x1) (fun r => Q (some (eI r.1)) r.2)) : nC W (d + 107) 42 [eR (some (7, 0)), eI x1] t bc bs Q := by
  refine nC_in (d := (d + 106)) (T := tX7_anyOf) (ls := [some (eR (some (7, 0))), some (eI x1), none]) rfl (Nat.le_of_ble_eq_true rfl) rfl (fun a0 e0 => ?_)
  unfold Fb_X7_anyOf at H
  refine nx_ld rfl rfl rfl rfl ?_
  refine nx_ld rfl rfl rfl rfl ?_
  refine nx_cVI2 (as := [eI x1]) (st' := []) rfl rfl (Nat.le_of_ble_eq_true rfl) rfl rfl (Nat.le_of_ble_eq_true rfl) (c0 := 7) rfl (by decide) H (fun Q H => hg1 _ _ _ _ _ H) (fun x22 t23 H => ?_)
  refine nx_st (ls' := [some (eR (some (7, 0))), some (eI x1), some (eI x22)]) rfl rfl rfl (Nat.le_of_ble_eq_true rfl) rfl ?_
  exact TB_X7_anyOf_6 hW  hg0 hg1 hg2  10000 _ _ _ H
def BB_X7_allOf_6 (g : Nat → TS → Int32 → Option (Int32 × TS)) (k6 : TS → Int32 → Int32 → Option (Int32 × TS)) (t : TS) (v1 : Int32) (v2 : Int32) : Option (Int32 × TS) := (if 0 ≤ (tI t 707 0) then (gb v2 (some (v2, t))) else (if (tI t 705 0) ≤ (tI t 706 0) then (gb v2 (some (v2, t))) else (nxt (tR t 704 0) (fun o21 => (oc o21 none (fun j22 => (gd (tI t 706 0) (tL t 2700 j22) (if ¬ (tA t 2700 j22 (tI t 706 0).toNatClampNeg) = 38 then (gb v2 (some (v2, t))) else (nxt (uI t 706 0 ((tI t 706 0) + 1)) (fun t23 => (ob2 (g 2 t23 v1) (fun x25 t26 => (k6 t26 v1 (v2 &&& x25))))))))))))))
theorem TBB_X7_allOf_6 {W : NW} {d : Nat} {Q : Option NV → TS → Prop} {a0 : Nat → Nat → Nat} {e0 : Nat → Nat → Bool} {g : Nat → TS → Int32 → Option (Int32 × TS)} {k6 : TS → Int32 → Int32 → Option (Int32 × TS)} {bc bs : Nat} (hW : W.2.2.2 = mm_fx) (hg0 : ∀ (t : TS) (x1 : Int32) (bc bs : Nat) (Q : Option NV → TS → Prop), wp (g 0 t x1) (fun r => Q (some (eI r.1)) r.2) → nC W (d + 106) 42 [eR (some (7, 0)), eI x1] t bc bs Q) (hg1 : ∀ (t : TS) (x1 : Int32) (bc bs : Nat) (Q : Option NV → TS → Prop), wp (g 1 t x1) (fun r => Q (some (eI r.1)) r.2) → nC W (d + 106) 43 [eR (some (7, 0)), eI x1] t bc bs Q) (hg2 : ∀ (t : TS) (x1 : Int32) (bc bs : Nat) (Q : Option NV → TS → Prop), wp (g 2 t x1) (fun r => Q (some (eI r.1)) r.2) → nC W (d + 106) 44 [eR (some (7, 0)), eI x1] t bc bs Q) (hk6 : ∀ (t : TS) (v1 : Int32) (v2 : Int32), wp (k6 t v1 v2) (fun r => Q (some (eI r.1)) r.2) → nX W (d + 106) tX7_allOf Q a0 e0 6 [some (eR (some (7, 0))), some (eI v1), some (eI v2)] [] t bc bs) : ∀ (t : TS) (v1 : Int32) (v2 : Int32), wp (BB_X7_allOf_6 g k6 t v1 v2) (fun r => Q (some (eI r.1)) r.2) → nX W (d + 106) tX7_allOf Q a0 e0 6 [some (eR (some (7, 0))), some (eI v1), some (eI v2)] [] t bc bs := by
  intro t v1 v2 H
  unfold BB_X7_allOf_6 at H
  refine nx_ld rfl rfl rfl rfl ?_
  refine nx_getI rfl rfl rfl (by decide) ?_
  refine nx_if rfl rfl (by rfl) H (fun H => ?_) (fun H => ?_)
  · refine nx_ld rfl rfl rfl rfl ?_
    exact nx_rzt rfl rfl H
  refine nx_ld rfl rfl rfl rfl ?_
  refine nx_getI rfl rfl rfl (by decide) ?_
  refine nx_ld rfl rfl rfl rfl ?_
  refine nx_getI rfl rfl rfl (by decide) ?_
  refine nx_icmp rfl rfl (by rfl) H (fun H => ?_) (fun H => ?_)
  · refine nx_ld rfl rfl rfl rfl ?_
    exact nx_rzt rfl rfl H
  refine nx_ld rfl rfl rfl rfl ?_
  refine nx_getR rfl rfl rfl (by decide) rfl H (fun o21 H => ?_)
  refine nx_ld rfl rfl rfl rfl ?_
  refine nx_getI rfl rfl rfl (by decide) ?_
  rcases o21 with _ | j22
  · exact (wp_none (oc_no H)).elim
  replace H := oc_so H
  refine nx_bald (c := 2700) (i := j22) rfl rfl (Nat.le_of_ble_eq_true rfl) (Nat.le_of_ble_eq_true rfl) (Or.inl rfl) H (fun H => ?_)
  refine nx_int (x := 38) rfl rfl ?_
  refine nx_icmp rfl rfl (by rfl) H (fun H => ?_) (fun H => ?_)
  · refine nx_ld rfl rfl rfl rfl ?_
    exact nx_rzt rfl rfl H
  refine nx_ld rfl rfl rfl rfl ?_
  refine nx_dup rfl rfl (Nat.ne_of_beq_eq_false rfl) ?_
  refine nx_getI rfl rfl rfl (by decide) ?_
  refine nx_int (x := 1) rfl rfl ?_
  refine nx_ii rfl rfl ?_
  refine nx_putI rfl rfl rfl (by decide) H (fun t23 H => ?_)
  refine nx_ld rfl rfl rfl rfl ?_
  show nX _ _ _ _ _ _ 49 _ _ _ _ _
  refine nx_ld rfl rfl rfl rfl ?_
  refine nx_ld rfl rfl rfl rfl ?_
  refine nx_cVI2 (as := [eI v1]) (st' := [eI v2]) rfl rfl (Nat.le_of_ble_eq_true rfl) rfl rfl (Nat.le_of_ble_eq_true rfl) (c0 := 7) rfl (by decide) H (fun Q H => hg2 _ _ _ _ _ H) (fun x25 t26 H => ?_)
  refine nx_ii rfl rfl ?_
  refine nx_st (ls' := [some (eR (some (7, 0))), some (eI v1), some (eI (v2 &&& x25))]) rfl rfl rfl (Nat.le_of_ble_eq_true rfl) rfl ?_
  refine nx_goto rfl rfl ?_
  exact hk6 _ _ _ H
def B_X7_allOf_6 (g : Nat → TS → Int32 → Option (Int32 × TS)) : Nat → TS → Int32 → Int32 → Option (Int32 × TS)
  | 0 => fun _ _ _ => none
  | n + 1 => fun t v1 v2 => BB_X7_allOf_6 g (B_X7_allOf_6 g n) t v1 v2
theorem TB_X7_allOf_6 {W : NW} {d : Nat} {Q : Option NV → TS → Prop} {a0 : Nat → Nat → Nat} {e0 : Nat → Nat → Bool} {g : Nat → TS → Int32 → Option (Int32 × TS)} {bc bs : Nat} (hW : W.2.2.2 = mm_fx) (hg0 : ∀ (t : TS) (x1 : Int32) (bc bs : Nat) (Q : Option NV → TS → Prop), wp (g 0 t x1) (fun r => Q (some (eI r.1)) r.2) → nC W (d + 106) 42 [eR (some (7, 0)), eI x1] t bc bs Q) (hg1 : ∀ (t : TS) (x1 : Int32) (bc bs : Nat) (Q : Option NV → TS → Prop), wp (g 1 t x1) (fun r => Q (some (eI r.1)) r.2) → nC W (d + 106) 43 [eR (some (7, 0)), eI x1] t bc bs Q) (hg2 : ∀ (t : TS) (x1 : Int32) (bc bs : Nat) (Q : Option NV → TS → Prop), wp (g 2 t x1) (fun r => Q (some (eI r.1)) r.2) → nC W (d + 106) 44 [eR (some (7, 0)), eI x1] t bc bs Q) : ∀ (n : Nat) (t : TS) (v1 : Int32) (v2 : Int32), wp (B_X7_allOf_6 g n t v1 v2) (fun r => Q (some (eI r.1)) r.2) → nX W (d + 106) tX7_allOf Q a0 e0 6 [some (eR (some (7, 0))), some (eI v1), some (eI v2)] [] t bc bs := by
  intro n
  induction n with
  | zero => intro t v1 v2 H; exact (wp_none H).elim
  | succ n ih =>
    intro t v1 v2 H
    exact TBB_X7_allOf_6 hW  hg0 hg1 hg2   ih t v1 v2 H
def Fb_X7_allOf (g : Nat → TS → Int32 → Option (Int32 × TS)) (t : TS) (x1 : Int32) : Option (Int32 × TS) := (ob2 (g 2 t x1) (fun x22 t23 => (B_X7_allOf_6 g  10000 t23 x1 x22)))
theorem TFb_X7_allOf {W : NW} {d : Nat} {g : Nat → TS → Int32 → Option (Int32 × TS)} {t : TS} {x1 : Int32} {Q : Option NV → TS → Prop} {bc bs : Nat} (hW : W.2.2.2 = mm_fx) (hg0 : ∀ (t : TS) (x1 : Int32) (bc bs : Nat) (Q : Option NV → TS → Prop), wp (g 0 t x1) (fun r => Q (some (eI r.1)) r.2) → nC W (d + 106) 42 [eR (some (7, 0)), eI x1] t bc bs Q) (hg1 : ∀ (t : TS) (x1 : Int32) (bc bs : Nat) (Q : Option NV → TS → Prop), wp (g 1 t x1) (fun r => Q (some (eI r.1)) r.2) → nC W (d + 106) 43 [eR (some (7, 0)), eI x1] t bc bs Q) (hg2 : ∀ (t : TS) (x1 : Int32) (bc bs : Nat) (Q : Option NV → TS → Prop), wp (g 2 t x1) (fun r => Q (some (eI r.1)) r.2) → nC W (d + 106) 44 [eR (some (7, 0)), eI x1] t bc bs Q) (H : wp (Fb_X7_allOf g t x1) (fun r => Q (some (eI r.1)) r.2)) : nC W (d + 107) 43 [eR (some (7, 0)), eI x1] t bc bs Q := by
  refine nC_in (d := (d + 106)) (T := tX7_allOf) (ls := [some (eR (some (7, 0))), some (eI x1), none]) rfl (Nat.le_of_ble_eq_true rfl) rfl (fun a0 e0 => ?_)
  unfold Fb_X7_allOf at H
  refine nx_ld rfl rfl rfl rfl ?_
  refine nx_ld rfl rfl rfl rfl ?_
  refine nx_cVI2 (as := [eI x1]) (st' := []) rfl rfl (Nat.le_of_ble_eq_true rfl) rfl rfl (Nat.le_of_ble_eq_true rfl) (c0 := 7) rfl (by decide) H (fun Q H => hg2 _ _ _ _ _ H) (fun x22 t23 H => ?_)
  refine nx_st (ls' := [some (eR (some (7, 0))), some (eI x1), some (eI x22)]) rfl rfl rfl (Nat.le_of_ble_eq_true rfl) rfl ?_
  exact TB_X7_allOf_6 hW  hg0 hg1 hg2  10000 _ _ _ H
def B_X7_base_17 (g : Nat → TS → Int32 → Option (Int32 × TS)) (t : TS) (v1 : Int32) (v2 : Int32) : Option (Int32 × TS) := (if v1 < 8 then (nxt (uI t 706 0 ((tI t 706 0) + 1)) (fun t21 => (if ¬ v2 = 33 then (ob2 (g 0 t21 (v1 + 1)) (fun x23 t24 => (Option.bind (F_X7_pass t24 93) (fun r25 => (gb x23 (some (x23, r25))))))) else (ob2 (g 2 t21 (v1 + 1)) (fun x27 t28 => (if ¬ x27 = 0 then (some (0, t28)) else (some (1, t28)))))))) else (ob2 (F_X7_fail t) (fun x30 t31 => (some (0, t31)))))
theorem TB_X7_base_17 {W : NW} {d : Nat} {Q : Option NV → TS → Prop} {a0 : Nat → Nat → Nat} {e0 : Nat → Nat → Bool} {g : Nat → TS → Int32 → Option (Int32 × TS)} {bc bs : Nat} (hW : W.2.2.2 = mm_fx) (hg0 : ∀ (t : TS) (x1 : Int32) (bc bs : Nat) (Q : Option NV → TS → Prop), wp (g 0 t x1) (fun r => Q (some (eI r.1)) r.2) → nC W (d + 106) 42 [eR (some (7, 0)), eI x1] t bc bs Q) (hg1 : ∀ (t : TS) (x1 : Int32) (bc bs : Nat) (Q : Option NV → TS → Prop), wp (g 1 t x1) (fun r => Q (some (eI r.1)) r.2) → nC W (d + 106) 43 [eR (some (7, 0)), eI x1] t bc bs Q) (hg2 : ∀ (t : TS) (x1 : Int32) (bc bs : Nat) (Q : Option NV → TS → Prop), wp (g 2 t x1) (fun r => Q (some (eI r.1)) r.2) → nC W (d + 106) 44 [eR (some (7, 0)), eI x1] t bc bs Q) : ∀ (t : TS) (v1 : Int32) (v2 : Int32), wp (B_X7_base_17 g t v1 v2) (fun r => Q (some (eI r.1)) r.2) → nX W (d + 106) tX7_base Q a0 e0 17 [some (eR (some (7, 0))), some (eI v1), some (eI v2), none, none, none] [] t bc bs := by
  intro t v1 v2 H
  unfold B_X7_base_17 at H
  refine nx_ld rfl rfl rfl rfl ?_
  refine nx_int (x := 8) rfl rfl ?_
  refine nx_icmp rfl rfl (by rfl) H (fun H => ?_) (fun H => ?_)
  · refine nx_ld rfl rfl rfl rfl ?_
    refine nx_dup rfl rfl (Nat.ne_of_beq_eq_false rfl) ?_
    refine nx_getI rfl rfl rfl (by decide) ?_
    refine nx_int (x := 1) rfl rfl ?_
    refine nx_ii rfl rfl ?_
    refine nx_putI rfl rfl rfl (by decide) H (fun t21 H => ?_)
    refine nx_ld rfl rfl rfl rfl ?_
    show nX _ _ _ _ _ _ 41 _ _ _ _ _
    refine nx_int (x := 33) rfl rfl ?_
    refine nx_icmp rfl rfl (by rfl) H (fun H => ?_) (fun H => ?_)
    · refine nx_ld rfl rfl rfl rfl ?_
      refine nx_ld rfl rfl rfl rfl ?_
      refine nx_int (x := 1) rfl rfl ?_
      refine nx_ii rfl rfl ?_
      refine nx_cVI2 (as := [eI (v1 + 1)]) (st' := []) rfl rfl (Nat.le_of_ble_eq_true rfl) rfl rfl (Nat.le_of_ble_eq_true rfl) (c0 := 7) rfl (by decide) H (fun Q H => hg0 _ _ _ _ _ H) (fun x23 t24 H => ?_)
      refine nx_st (ls' := [some (eR (some (7, 0))), some (eI v1), some (eI v2), some (eI x23), none, none]) rfl rfl rfl (Nat.le_of_ble_eq_true rfl) rfl ?_
      refine nx_ld rfl rfl rfl rfl ?_
      show nX _ _ _ _ _ _ 71 _ _ _ _ _
      refine nx_int (x := 93) rfl rfl ?_
      refine nx_cVVt (as := [eI 93]) (st' := []) rfl rfl (Nat.le_of_ble_eq_true rfl) rfl rfl (Nat.le_of_ble_eq_true rfl) (c0 := 7) rfl (by decide) H (fun Q H => TF_X7_pass hW  H) (fun r25 H => ?_)
      refine nx_ld rfl rfl rfl rfl ?_
      exact nx_rzt rfl rfl H
    refine nx_ld rfl rfl rfl rfl ?_
    refine nx_ld rfl rfl rfl rfl ?_
    refine nx_int (x := 1) rfl rfl ?_
    refine nx_ii rfl rfl ?_
    refine nx_cVI2 (as := [eI (v1 + 1)]) (st' := []) rfl rfl (Nat.le_of_ble_eq_true rfl) rfl rfl (Nat.le_of_ble_eq_true rfl) (c0 := 7) rfl (by decide) H (fun Q H => hg2 _ _ _ _ _ H) (fun x27 t28 H => ?_)
    refine nx_if rfl rfl (by rfl) H (fun H => ?_) (fun H => ?_)
    · refine nx_int (x := 0) rfl rfl ?_
      exact nx_rzlt rfl rfl (by decide) H
    refine nx_int (x := 1) rfl rfl ?_
    refine nx_goto rfl rfl ?_
    exact nx_rzlt rfl rfl (by decide) H
  refine nx_ld rfl rfl rfl rfl ?_
  refine nx_cVI2 (as := []) (st' := []) rfl rfl (Nat.le_of_ble_eq_true rfl) rfl rfl (Nat.le_of_ble_eq_true rfl) (c0 := 7) rfl (by decide) H (fun Q H => TF_X7_fail hW  H) (fun x30 t31 H => ?_)
  refine nx_pop rfl rfl (Nat.ne_of_beq_eq_false rfl) ?_
  refine nx_int (x := 0) rfl rfl ?_
  exact nx_rzlt rfl rfl (by decide) H
def B_X7_base_118 (g : Nat → TS → Int32 → Option (Int32 × TS)) (t : TS) : Option (Int32 × TS) := (ob2 (F_X7_fail t) (fun x22 t23 => (some (0, t23))))
theorem TB_X7_base_118 {W : NW} {d : Nat} {Q : Option NV → TS → Prop} {a0 : Nat → Nat → Nat} {e0 : Nat → Nat → Bool} {g : Nat → TS → Int32 → Option (Int32 × TS)} {bc bs : Nat} (hW : W.2.2.2 = mm_fx) (hg0 : ∀ (t : TS) (x1 : Int32) (bc bs : Nat) (Q : Option NV → TS → Prop), wp (g 0 t x1) (fun r => Q (some (eI r.1)) r.2) → nC W (d + 106) 42 [eR (some (7, 0)), eI x1] t bc bs Q) (hg1 : ∀ (t : TS) (x1 : Int32) (bc bs : Nat) (Q : Option NV → TS → Prop), wp (g 1 t x1) (fun r => Q (some (eI r.1)) r.2) → nC W (d + 106) 43 [eR (some (7, 0)), eI x1] t bc bs Q) (hg2 : ∀ (t : TS) (x1 : Int32) (bc bs : Nat) (Q : Option NV → TS → Prop), wp (g 2 t x1) (fun r => Q (some (eI r.1)) r.2) → nC W (d + 106) 44 [eR (some (7, 0)), eI x1] t bc bs Q) : ∀ (t : TS) (v1 : Int32) (v2 : Int32) (v3 : Int32) (v4 : Int32), wp (B_X7_base_118 g t) (fun r => Q (some (eI r.1)) r.2) → nX W (d + 106) tX7_base Q a0 e0 118 [some (eR (some (7, 0))), some (eI v1), some (eI v2), some (eI v3), some (eI v4), none] [] t bc bs := by
  intro t v1 v2 v3 v4 H
  unfold B_X7_base_118 at H
  refine nx_ld rfl rfl rfl rfl ?_
  refine nx_cVI2 (as := []) (st' := []) rfl rfl (Nat.le_of_ble_eq_true rfl) rfl rfl (Nat.le_of_ble_eq_true rfl) (c0 := 7) rfl (by decide) H (fun Q H => TF_X7_fail hW  H) (fun x22 t23 H => ?_)
  refine nx_pop rfl rfl (Nat.ne_of_beq_eq_false rfl) ?_
  refine nx_int (x := 0) rfl rfl ?_
  exact nx_rzlt rfl rfl (by decide) H
def B_X7_base_125 (g : Nat → TS → Int32 → Option (Int32 × TS)) (t : TS) (v1 : Int32) (v3 : Int32) (v4 : Int32) : Option (Int32 × TS) := (nxt (uI t 706 0 ((tI t 706 0) + 1)) (fun t21 => (ob2 (F_X7_sum t21 v1) (fun x23 t24 => (if ¬ v4 = 60 then (if ¬ v4 = 62 then (if ¬ v3 = x23 then (some (0, t24)) else (some (1, t24))) else (if v3 ≤ x23 then (some (0, t24)) else (some (1, t24)))) else (if x23 ≤ v3 then (some (0, t24)) else (some (1, t24))))))))
theorem TB_X7_base_125 {W : NW} {d : Nat} {Q : Option NV → TS → Prop} {a0 : Nat → Nat → Nat} {e0 : Nat → Nat → Bool} {g : Nat → TS → Int32 → Option (Int32 × TS)} {bc bs : Nat} (hW : W.2.2.2 = mm_fx) (hg0 : ∀ (t : TS) (x1 : Int32) (bc bs : Nat) (Q : Option NV → TS → Prop), wp (g 0 t x1) (fun r => Q (some (eI r.1)) r.2) → nC W (d + 106) 42 [eR (some (7, 0)), eI x1] t bc bs Q) (hg1 : ∀ (t : TS) (x1 : Int32) (bc bs : Nat) (Q : Option NV → TS → Prop), wp (g 1 t x1) (fun r => Q (some (eI r.1)) r.2) → nC W (d + 106) 43 [eR (some (7, 0)), eI x1] t bc bs Q) (hg2 : ∀ (t : TS) (x1 : Int32) (bc bs : Nat) (Q : Option NV → TS → Prop), wp (g 2 t x1) (fun r => Q (some (eI r.1)) r.2) → nC W (d + 106) 44 [eR (some (7, 0)), eI x1] t bc bs Q) : ∀ (t : TS) (v1 : Int32) (v2 : Int32) (v3 : Int32) (v4 : Int32), wp (B_X7_base_125 g t v1 v3 v4) (fun r => Q (some (eI r.1)) r.2) → nX W (d + 106) tX7_base Q a0 e0 125 [some (eR (some (7, 0))), some (eI v1), some (eI v2), some (eI v3), some (eI v4), none] [] t bc bs := by
  intro t v1 v2 v3 v4 H
  unfold B_X7_base_125 at H
  refine nx_ld rfl rfl rfl rfl ?_
  refine nx_dup rfl rfl (Nat.ne_of_beq_eq_false rfl) ?_
  refine nx_getI rfl rfl rfl (by decide) ?_
  refine nx_int (x := 1) rfl rfl ?_
  refine nx_ii rfl rfl ?_
  refine nx_putI rfl rfl rfl (by decide) H (fun t21 H => ?_)
  refine nx_ld rfl rfl rfl rfl ?_
  show nX _ _ _ _ _ _ 136 _ _ _ _ _
  refine nx_ld rfl rfl rfl rfl ?_
  refine nx_cVI2 (as := [eI v1]) (st' := []) rfl rfl (Nat.le_of_ble_eq_true rfl) rfl rfl (Nat.le_of_ble_eq_true rfl) (c0 := 7) rfl (by decide) H (fun Q H => TF_X7_sum hW  H) (fun x23 t24 H => ?_)
  refine nx_st (ls' := [some (eR (some (7, 0))), some (eI v1), some (eI v2), some (eI v3), some (eI v4), some (eI x23)]) rfl rfl rfl (Nat.le_of_ble_eq_true rfl) rfl ?_
  refine nx_ld rfl rfl rfl rfl ?_
  refine nx_int (x := 60) rfl rfl ?_
  refine nx_icmp rfl rfl (by rfl) H (fun H => ?_) (fun H => ?_)
  · refine nx_ld rfl rfl rfl rfl ?_
    refine nx_int (x := 62) rfl rfl ?_
    refine nx_icmp rfl rfl (by rfl) H (fun H => ?_) (fun H => ?_)
    · refine nx_ld rfl rfl rfl rfl ?_
      refine nx_ld rfl rfl rfl rfl ?_
      refine nx_icmp rfl rfl (by rfl) H (fun H => ?_) (fun H => ?_)
      · refine nx_int (x := 0) rfl rfl ?_
        exact nx_rzlt rfl rfl (by decide) H
      refine nx_int (x := 1) rfl rfl ?_
      refine nx_goto rfl rfl ?_
      exact nx_rzlt rfl rfl (by decide) H
    refine nx_ld rfl rfl rfl rfl ?_
    refine nx_ld rfl rfl rfl rfl ?_
    refine nx_icmp rfl rfl (by rfl) H (fun H => ?_) (fun H => ?_)
    · refine nx_int (x := 0) rfl rfl ?_
      refine nx_goto rfl rfl ?_
      exact nx_rzlt rfl rfl (by decide) H
    refine nx_int (x := 1) rfl rfl ?_
    refine nx_goto rfl rfl ?_
    exact nx_rzlt rfl rfl (by decide) H
  refine nx_ld rfl rfl rfl rfl ?_
  refine nx_ld rfl rfl rfl rfl ?_
  refine nx_icmp rfl rfl (by rfl) H (fun H => ?_) (fun H => ?_)
  · refine nx_int (x := 0) rfl rfl ?_
    refine nx_goto rfl rfl ?_
    exact nx_rzlt rfl rfl (by decide) H
  refine nx_int (x := 1) rfl rfl ?_
  refine nx_goto rfl rfl ?_
  exact nx_rzlt rfl rfl (by decide) H
def Fb_X7_base (g : Nat → TS → Int32 → Option (Int32 × TS)) (t : TS) (x1 : Int32) : Option (Int32 × TS) := (Option.bind (F_X7_peek t) (fun r21 => (if r21 = 33 then (B_X7_base_17 g  t x1 r21) else (if ¬ r21 = 91 then (ob2 (F_X7_sum t x1) (fun x23 t24 => (Option.bind (F_X7_peek t24) (fun r25 => (if 0 ≤ (tI t24 707 0) then (B_X7_base_118 g  t24) else (if r25 = 60 then (B_X7_base_125 g  t24 x1 x23 r25) else (if r25 = 61 then (B_X7_base_125 g  t24 x1 x23 r25) else (if r25 = 62 then (B_X7_base_125 g  t24 x1 x23 r25) else (B_X7_base_118 g  t24))))))))) else (B_X7_base_17 g  t x1 r21)))))
theorem TFb_X7_base {W : NW} {d : Nat} {g : Nat → TS → Int32 → Option (Int32 × TS)} {t : TS} {x1 : Int32} {Q : Option NV → TS → Prop} {bc bs : Nat} (hW : W.2.2.2 = mm_fx) (hg0 : ∀ (t : TS) (x1 : Int32) (bc bs : Nat) (Q : Option NV → TS → Prop), wp (g 0 t x1) (fun r => Q (some (eI r.1)) r.2) → nC W (d + 106) 42 [eR (some (7, 0)), eI x1] t bc bs Q) (hg1 : ∀ (t : TS) (x1 : Int32) (bc bs : Nat) (Q : Option NV → TS → Prop), wp (g 1 t x1) (fun r => Q (some (eI r.1)) r.2) → nC W (d + 106) 43 [eR (some (7, 0)), eI x1] t bc bs Q) (hg2 : ∀ (t : TS) (x1 : Int32) (bc bs : Nat) (Q : Option NV → TS → Prop), wp (g 2 t x1) (fun r => Q (some (eI r.1)) r.2) → nC W (d + 106) 44 [eR (some (7, 0)), eI x1] t bc bs Q) (H : wp (Fb_X7_base g t x1) (fun r => Q (some (eI r.1)) r.2)) : nC W (d + 107) 44 [eR (some (7, 0)), eI x1] t bc bs Q := by
  refine nC_in (d := (d + 106)) (T := tX7_base) (ls := [some (eR (some (7, 0))), some (eI x1), none, none, none, none]) rfl (Nat.le_of_ble_eq_true rfl) rfl (fun a0 e0 => ?_)
  unfold Fb_X7_base at H
  refine nx_ld rfl rfl rfl rfl ?_
  refine nx_cVI (as := []) (st' := []) rfl rfl (Nat.le_of_ble_eq_true rfl) rfl rfl (Nat.le_of_ble_eq_true rfl) (c0 := 7) rfl (by decide) H (fun Q H => TF_X7_peek hW  H) (fun r21 H => ?_)
  refine nx_st (ls' := [some (eR (some (7, 0))), some (eI x1), some (eI r21), none, none, none]) rfl rfl rfl (Nat.le_of_ble_eq_true rfl) rfl ?_
  refine nx_ld rfl rfl rfl rfl ?_
  refine nx_int (x := 33) rfl rfl ?_
  refine nx_icmp rfl rfl (by rfl) H (fun H => ?_) (fun H => ?_)
  · exact TB_X7_base_17 hW  hg0 hg1 hg2  _ _ _ H
  refine nx_ld rfl rfl rfl rfl ?_
  refine nx_int (x := 91) rfl rfl ?_
  refine nx_icmp rfl rfl (by rfl) H (fun H => ?_) (fun H => ?_)
  · refine nx_ld rfl rfl rfl rfl ?_
    refine nx_ld rfl rfl rfl rfl ?_
    refine nx_cVI2 (as := [eI x1]) (st' := []) rfl rfl (Nat.le_of_ble_eq_true rfl) rfl rfl (Nat.le_of_ble_eq_true rfl) (c0 := 7) rfl (by decide) H (fun Q H => TF_X7_sum hW  H) (fun x23 t24 H => ?_)
    refine nx_st (ls' := [some (eR (some (7, 0))), some (eI x1), some (eI r21), some (eI x23), none, none]) rfl rfl rfl (Nat.le_of_ble_eq_true rfl) rfl ?_
    refine nx_ld rfl rfl rfl rfl ?_
    refine nx_cVI (as := []) (st' := []) rfl rfl (Nat.le_of_ble_eq_true rfl) rfl rfl (Nat.le_of_ble_eq_true rfl) (c0 := 7) rfl (by decide) H (fun Q H => TF_X7_peek hW  H) (fun r25 H => ?_)
    refine nx_st (ls' := [some (eR (some (7, 0))), some (eI x1), some (eI r21), some (eI x23), some (eI r25), none]) rfl rfl rfl (Nat.le_of_ble_eq_true rfl) rfl ?_
    show nX _ _ _ _ _ _ 90 _ _ _ _ _
    refine nx_ld rfl rfl rfl rfl ?_
    refine nx_getI rfl rfl rfl (by decide) ?_
    refine nx_if rfl rfl (by rfl) H (fun H => ?_) (fun H => ?_)
    · exact TB_X7_base_118 hW  hg0 hg1 hg2  _ _ _ _ _ H
    refine nx_ld rfl rfl rfl rfl ?_
    refine nx_int (x := 60) rfl rfl ?_
    refine nx_icmp rfl rfl (by rfl) H (fun H => ?_) (fun H => ?_)
    · exact TB_X7_base_125 hW  hg0 hg1 hg2  _ _ _ _ _ H
    refine nx_ld rfl rfl rfl rfl ?_
    refine nx_int (x := 61) rfl rfl ?_
    refine nx_icmp rfl rfl (by rfl) H (fun H => ?_) (fun H => ?_)
    · exact TB_X7_base_125 hW  hg0 hg1 hg2  _ _ _ _ _ H
    refine nx_ld rfl rfl rfl rfl ?_
    refine nx_int (x := 62) rfl rfl ?_
    refine nx_icmp rfl rfl (by rfl) H (fun H => ?_) (fun H => ?_)
    · exact TB_X7_base_125 hW  hg0 hg1 hg2  _ _ _ _ _ H
    exact TB_X7_base_118 hW  hg0 hg1 hg2  _ _ _ _ _ H
  exact TB_X7_base_17 hW  hg0 hg1 hg2  _ _ _ H
def G_X7_anyOf : Nat → Nat → TS → Int32 → Option (Int32 × TS)
  | 0, _ => fun _ _ => none
  | n + 1, w => fun t x1 => match w with
    | 0 => Fb_X7_anyOf (G_X7_anyOf n) t x1
    | 1 => Fb_X7_allOf (G_X7_anyOf n) t x1
    | 2 => Fb_X7_base (G_X7_anyOf n) t x1
    | _ => none
theorem GS_X7_anyOf (n : Nat) (t : TS) (x1 : Int32) : G_X7_anyOf (n + 1) 0 t x1 = Fb_X7_anyOf (G_X7_anyOf n) t x1 := by simp only [G_X7_anyOf]
theorem GS_X7_allOf (n : Nat) (t : TS) (x1 : Int32) : G_X7_anyOf (n + 1) 1 t x1 = Fb_X7_allOf (G_X7_anyOf n) t x1 := by simp only [G_X7_anyOf]
theorem GS_X7_base (n : Nat) (t : TS) (x1 : Int32) : G_X7_anyOf (n + 1) 2 t x1 = Fb_X7_base (G_X7_anyOf n) t x1 := by simp only [G_X7_anyOf]
theorem TG_X7_anyOf {W : NW} {d : Nat} (hW : W.2.2.2 = mm_fx) : ∀ n, (∀ (t : TS) (x1 : Int32) (bc bs : Nat) (Q : Option NV → TS → Prop), wp (G_X7_anyOf n 0 t x1) (fun r => Q (some (eI r.1)) r.2) → nC W (d + n + 106) 42 [eR (some (7, 0)), eI x1] t bc bs Q) ∧ (∀ (t : TS) (x1 : Int32) (bc bs : Nat) (Q : Option NV → TS → Prop), wp (G_X7_anyOf n 1 t x1) (fun r => Q (some (eI r.1)) r.2) → nC W (d + n + 106) 43 [eR (some (7, 0)), eI x1] t bc bs Q) ∧ (∀ (t : TS) (x1 : Int32) (bc bs : Nat) (Q : Option NV → TS → Prop), wp (G_X7_anyOf n 2 t x1) (fun r => Q (some (eI r.1)) r.2) → nC W (d + n + 106) 44 [eR (some (7, 0)), eI x1] t bc bs Q) := by
  intro n
  induction n with
  | zero => exact ⟨fun t x1 bc bs Q H => (wp_none H).elim, fun t x1 bc bs Q H => (wp_none H).elim, fun t x1 bc bs Q H => (wp_none H).elim⟩
  | succ n ih =>
    obtain ⟨i0, i1, i2⟩ := ih
    exact ⟨fun t x1 bc bs Q H => TFb_X7_anyOf (d := d + n) hW i0 i1 i2 (by rw [GS_X7_anyOf] at H; exact H), fun t x1 bc bs Q H => TFb_X7_allOf (d := d + n) hW i0 i1 i2 (by rw [GS_X7_allOf] at H; exact H), fun t x1 bc bs Q H => TFb_X7_base (d := d + n) hW i0 i1 i2 (by rw [GS_X7_base] at H; exact H)⟩
def F_X7_anyOf (t : TS) (x1 : Int32) : Option (Int32 × TS) := G_X7_anyOf 100 0 t x1
theorem TF_X7_anyOf {W : NW} {d : Nat} {t : TS} {x1 : Int32} {Q : Option NV → TS → Prop} {bc bs : Nat} (hW : W.2.2.2 = mm_fx) (H : wp (F_X7_anyOf t x1) (fun r => Q (some (eI r.1)) r.2)) : nC W (d + 206) 42 [eR (some (7, 0)), eI x1] t bc bs Q := (TG_X7_anyOf (d := d) hW 100).1 t x1 bc bs Q H
def F_X7_allOf (t : TS) (x1 : Int32) : Option (Int32 × TS) := G_X7_anyOf 100 1 t x1
theorem TF_X7_allOf {W : NW} {d : Nat} {t : TS} {x1 : Int32} {Q : Option NV → TS → Prop} {bc bs : Nat} (hW : W.2.2.2 = mm_fx) (H : wp (F_X7_allOf t x1) (fun r => Q (some (eI r.1)) r.2)) : nC W (d + 206) 43 [eR (some (7, 0)), eI x1] t bc bs Q := (TG_X7_anyOf (d := d) hW 100).2.1 t x1 bc bs Q H
def F_X7_base (t : TS) (x1 : Int32) : Option (Int32 × TS) := G_X7_anyOf 100 2 t x1
theorem TF_X7_base {W : NW} {d : Nat} {t : TS} {x1 : Int32} {Q : Option NV → TS → Prop} {bc bs : Nat} (hW : W.2.2.2 = mm_fx) (H : wp (F_X7_base t x1) (fun r => Q (some (eI r.1)) r.2)) : nC W (d + 206) 44 [eR (some (7, 0)), eI x1] t bc bs Q := (TG_X7_anyOf (d := d) hW 100).2.2 t x1 bc bs Q H
def BB_X7_faultOfTape_14 (k14 : TS → Int32 → Option (Int32 × TS)) (t : TS) (v1 : Int32) : Option (Int32 × TS) := (if (tI t 705 0) < v1 then (some ((tI t 707 0), t)) else (ob2 (F_X7_anyOf t 0) (fun x22 t23 => (if 0 ≤ (tI t23 707 0) then (some ((tI t23 707 0), t23)) else (if (tI t23 706 0) < (tI t23 705 0) then (Option.bind (F_X7_pass t23 59) (fun r24 => (k14 r24 (v1 + 1)))) else (some ((tI t23 707 0), t23)))))))
theorem TBB_X7_faultOfTape_14 {W : NW} {d : Nat} {Q : Option NV → TS → Prop} {a0 : Nat → Nat → Nat} {e0 : Nat → Nat → Bool} {k14 : TS → Int32 → Option (Int32 × TS)} {bc bs : Nat} (hW : W.2.2.2 = mm_fx) (hk14 : ∀ (t : TS) (v1 : Int32), wp (k14 t v1) (fun r => Q (some (eI r.1)) r.2) → nX W (d + 206) tX7_faultOfTape Q a0 e0 14 [some (eR (some (7, 0))), some (eI v1)] [] t bc bs) : ∀ (t : TS) (v1 : Int32), wp (BB_X7_faultOfTape_14 k14 t v1) (fun r => Q (some (eI r.1)) r.2) → nX W (d + 206) tX7_faultOfTape Q a0 e0 14 [some (eR (some (7, 0))), some (eI v1)] [] t bc bs := by
  intro t v1 H
  unfold BB_X7_faultOfTape_14 at H
  refine nx_ld rfl rfl rfl rfl ?_
  refine nx_ld rfl rfl rfl rfl ?_
  refine nx_getI rfl rfl rfl (by decide) ?_
  refine nx_icmp rfl rfl (by rfl) H (fun H => ?_) (fun H => ?_)
  · refine nx_ld rfl rfl rfl rfl ?_
    refine nx_getI rfl rfl rfl (by decide) ?_
    exact nx_rit rfl rfl H
  refine nx_ld rfl rfl rfl rfl ?_
  refine nx_int (x := 0) rfl rfl ?_
  refine nx_cVI2 (as := [eI 0]) (st' := []) rfl rfl (Nat.le_of_ble_eq_true rfl) rfl rfl (Nat.le_of_ble_eq_true rfl) (c0 := 7) rfl (by decide) H (fun Q H => TF_X7_anyOf hW  H) (fun x22 t23 H => ?_)
  refine nx_pop rfl rfl (Nat.ne_of_beq_eq_false rfl) ?_
  refine nx_ld rfl rfl rfl rfl ?_
  refine nx_getI rfl rfl rfl (by decide) ?_
  refine nx_if rfl rfl (by rfl) H (fun H => ?_) (fun H => ?_)
  · refine nx_ld rfl rfl rfl rfl ?_
    refine nx_getI rfl rfl rfl (by decide) ?_
    exact nx_rit rfl rfl H
  refine nx_ld rfl rfl rfl rfl ?_
  refine nx_getI rfl rfl rfl (by decide) ?_
  refine nx_ld rfl rfl rfl rfl ?_
  refine nx_getI rfl rfl rfl (by decide) ?_
  refine nx_icmp rfl rfl (by rfl) H (fun H => ?_) (fun H => ?_)
  · refine nx_ld rfl rfl rfl rfl ?_
    refine nx_int (x := 59) rfl rfl ?_
    refine nx_cVVt (as := [eI 59]) (st' := []) rfl rfl (Nat.le_of_ble_eq_true rfl) rfl rfl (Nat.le_of_ble_eq_true rfl) (c0 := 7) rfl (by decide) H (fun Q H => TF_X7_pass hW  H) (fun r24 H => ?_)
    refine nx_iinc2 1 (ls' := [some (eR (some (7, 0))), some (eI (v1 + 1))]) rfl rfl rfl rfl rfl ?_
    refine nx_goto rfl rfl ?_
    exact hk14 _ _ H
  refine nx_ld rfl rfl rfl rfl ?_
  refine nx_getI rfl rfl rfl (by decide) ?_
  exact nx_rit rfl rfl H
def B_X7_faultOfTape_14 : Nat → TS → Int32 → Option (Int32 × TS)
  | 0 => fun _ _ => none
  | n + 1 => fun t v1 => BB_X7_faultOfTape_14 (B_X7_faultOfTape_14 n) t v1
theorem TB_X7_faultOfTape_14 {W : NW} {d : Nat} {Q : Option NV → TS → Prop} {a0 : Nat → Nat → Nat} {e0 : Nat → Nat → Bool} {bc bs : Nat} (hW : W.2.2.2 = mm_fx) : ∀ (n : Nat) (t : TS) (v1 : Int32), wp (B_X7_faultOfTape_14 n t v1) (fun r => Q (some (eI r.1)) r.2) → nX W (d + 206) tX7_faultOfTape Q a0 e0 14 [some (eR (some (7, 0))), some (eI v1)] [] t bc bs := by
  intro n
  induction n with
  | zero => intro t v1 H; exact (wp_none H).elim
  | succ n ih =>
    intro t v1 H
    exact TBB_X7_faultOfTape_14 hW    ih t v1 H
def F_X7_faultOfTape (t : TS) : Option (Int32 × TS) := (Option.bind (F_X7_begin t (some 0) (tI t 701 0)) (fun r21 => (B_X7_faultOfTape_14  10000 r21 0)))
theorem TF_X7_faultOfTape {W : NW} {d : Nat} {t : TS} {Q : Option NV → TS → Prop} {bc bs : Nat} (hW : W.2.2.2 = mm_fx) (H : wp (F_X7_faultOfTape t) (fun r => Q (some (eI r.1)) r.2)) : nC W (d + 207) 36 [eR (some (7, 0))] t bc bs Q := by
  refine nC_in (d := (d + 206)) (T := tX7_faultOfTape) (ls := [some (eR (some (7, 0))), none]) rfl (Nat.le_of_ble_eq_true rfl) rfl (fun a0 e0 => ?_)
  unfold F_X7_faultOfTape at H
  refine nx_ld rfl rfl rfl rfl ?_
  refine nx_ld rfl rfl rfl rfl ?_
  refine nx_getFix rfl rfl rfl (by decide) (by rw [hW]; rfl) rfl ?_
  refine nx_ld rfl rfl rfl rfl ?_
  refine nx_getI rfl rfl rfl (by decide) ?_
  refine nx_cVVt (as := [eO 2700 (some 0), eI (tI t 701 0)]) (st' := []) rfl rfl (Nat.le_of_ble_eq_true rfl) rfl rfl (Nat.le_of_ble_eq_true rfl) (c0 := 7) rfl (by decide) H (fun Q H => TF_X7_begin hW  H) (fun r21 H => ?_)
  refine nx_int (x := 0) rfl rfl ?_
  show nX _ _ _ _ _ _ 13 _ _ _ _ _
  refine nx_st (ls' := [some (eR (some (7, 0))), some (eI 0)]) rfl rfl rfl (Nat.le_of_ble_eq_true rfl) rfl ?_
  exact TB_X7_faultOfTape_14 hW    10000 _ _ H
def BB_X7_brokenLineOf_9 (k9 : TS → Int32 → Option (Int32 × TS)) (t : TS) (v2 : Int32) : Option (Int32 × TS) := (if (tI t 705 0) < v2 then (some ((-1), t)) else (ob2 (F_X7_anyOf t 0) (fun x22 t23 => (if ¬ x22 = 0 then (if (tI t23 706 0) < (tI t23 705 0) then (Option.bind (F_X7_pass t23 59) (fun r24 => (k9 r24 (v2 + 1)))) else (some ((-1), t23))) else (some (v2, t23))))))
theorem TBB_X7_brokenLineOf_9 {W : NW} {d : Nat} {Q : Option NV → TS → Prop} {a0 : Nat → Nat → Nat} {e0 : Nat → Nat → Bool} {k9 : TS → Int32 → Option (Int32 × TS)} {bc bs : Nat} (hW : W.2.2.2 = mm_fx) (hk9 : ∀ (t : TS) (v1 : Nat) (v2 : Int32), wp (k9 t v2) (fun r => Q (some (eI r.1)) r.2) → nX W (d + 206) tX7_brokenLineOf Q a0 e0 9 [some (eR (some (7, 0))), some (eR (some (2700, v1))), some (eI v2)] [] t bc bs) : ∀ (t : TS) (v1 : Nat) (v2 : Int32), wp (BB_X7_brokenLineOf_9 k9 t v2) (fun r => Q (some (eI r.1)) r.2) → nX W (d + 206) tX7_brokenLineOf Q a0 e0 9 [some (eR (some (7, 0))), some (eR (some (2700, v1))), some (eI v2)] [] t bc bs := by
  intro t v1 v2 H
  unfold BB_X7_brokenLineOf_9 at H
  refine nx_ld rfl rfl rfl rfl ?_
  refine nx_ld rfl rfl rfl rfl ?_
  refine nx_getI rfl rfl rfl (by decide) ?_
  refine nx_icmp rfl rfl (by rfl) H (fun H => ?_) (fun H => ?_)
  · refine nx_int (x := (-1)) rfl rfl ?_
    exact nx_rit rfl rfl H
  refine nx_ld rfl rfl rfl rfl ?_
  refine nx_int (x := 0) rfl rfl ?_
  refine nx_cVI2 (as := [eI 0]) (st' := []) rfl rfl (Nat.le_of_ble_eq_true rfl) rfl rfl (Nat.le_of_ble_eq_true rfl) (c0 := 7) rfl (by decide) H (fun Q H => TF_X7_anyOf hW  H) (fun x22 t23 H => ?_)
  refine nx_if rfl rfl (by rfl) H (fun H => ?_) (fun H => ?_)
  · refine nx_ld rfl rfl rfl rfl ?_
    refine nx_getI rfl rfl rfl (by decide) ?_
    refine nx_ld rfl rfl rfl rfl ?_
    refine nx_getI rfl rfl rfl (by decide) ?_
    refine nx_icmp rfl rfl (by rfl) H (fun H => ?_) (fun H => ?_)
    · refine nx_ld rfl rfl rfl rfl ?_
      refine nx_int (x := 59) rfl rfl ?_
      refine nx_cVVt (as := [eI 59]) (st' := []) rfl rfl (Nat.le_of_ble_eq_true rfl) rfl rfl (Nat.le_of_ble_eq_true rfl) (c0 := 7) rfl (by decide) H (fun Q H => TF_X7_pass hW  H) (fun r24 H => ?_)
      refine nx_iinc2 1 (ls' := [some (eR (some (7, 0))), some (eR (some (2700, v1))), some (eI (v2 + 1))]) rfl rfl rfl rfl rfl ?_
      refine nx_goto rfl rfl ?_
      exact hk9 _ _ _ H
    refine nx_int (x := (-1)) rfl rfl ?_
    exact nx_rit rfl rfl H
  refine nx_ld rfl rfl rfl rfl ?_
  exact nx_rit rfl rfl H
def B_X7_brokenLineOf_9 : Nat → TS → Int32 → Option (Int32 × TS)
  | 0 => fun _ _ => none
  | n + 1 => fun t v2 => BB_X7_brokenLineOf_9 (B_X7_brokenLineOf_9 n) t v2
theorem TB_X7_brokenLineOf_9 {W : NW} {d : Nat} {Q : Option NV → TS → Prop} {a0 : Nat → Nat → Nat} {e0 : Nat → Nat → Bool} {bc bs : Nat} (hW : W.2.2.2 = mm_fx) : ∀ (n : Nat) (t : TS) (v1 : Nat) (v2 : Int32), wp (B_X7_brokenLineOf_9 n t v2) (fun r => Q (some (eI r.1)) r.2) → nX W (d + 206) tX7_brokenLineOf Q a0 e0 9 [some (eR (some (7, 0))), some (eR (some (2700, v1))), some (eI v2)] [] t bc bs := by
  intro n
  induction n with
  | zero => intro t v1 v2 H; exact (wp_none H).elim
  | succ n ih =>
    intro t v1 v2 H
    exact TBB_X7_brokenLineOf_9 hW    ih t v1 v2 H
def F_X7_brokenLineOf (t : TS) (o1 : Option Nat) : Option (Int32 × TS) := (oc o1 none (fun j21 => (Option.bind (F_X7_begin t (some j21) (Int32.ofNat (tL t 2700 j21))) (fun r22 => (B_X7_brokenLineOf_9  10000 r22 0)))))
theorem TF_X7_brokenLineOf {W : NW} {d : Nat} {t : TS} {o1 : Option Nat} {Q : Option NV → TS → Prop} {bc bs : Nat} (hW : W.2.2.2 = mm_fx) (H : wp (F_X7_brokenLineOf t o1) (fun r => Q (some (eI r.1)) r.2)) : nC W (d + 207) 37 [eR (some (7, 0)), eO 2700 o1] t bc bs Q := by
  refine nC_in (d := (d + 206)) (T := tX7_brokenLineOf) (ls := [some (eR (some (7, 0))), some (eO 2700 o1), none]) rfl (Nat.le_of_ble_eq_true rfl) rfl (fun a0 e0 => ?_)
  unfold F_X7_brokenLineOf at H
  refine nx_ld rfl rfl rfl rfl ?_
  refine nx_ld rfl rfl rfl rfl ?_
  refine nx_ld rfl rfl rfl rfl ?_
  rcases o1 with _ | j21
  · exact (wp_none (oc_no H)).elim
  replace H := oc_so H
  refine nx_alen (p := (2700, j21)) rfl rfl (Nat.le_of_ble_eq_true rfl) (Nat.le_of_ble_eq_true rfl) (Nat.le_of_ble_eq_true rfl) ?_
  refine nx_cVVt (as := [eO 2700 (some j21), eI (Int32.ofNat (tL t 2700 j21))]) (st' := []) rfl rfl (Nat.le_of_ble_eq_true rfl) rfl rfl (Nat.le_of_ble_eq_true rfl) (c0 := 7) rfl (by decide) H (fun Q H => TF_X7_begin hW  H) (fun r22 H => ?_)
  refine nx_int (x := 0) rfl rfl ?_
  refine nx_st (ls' := [some (eR (some (7, 0))), some (eR (some (2700, j21))), some (eI 0)]) rfl rfl rfl (Nat.le_of_ble_eq_true rfl) rfl ?_
  exact TB_X7_brokenLineOf_9 hW    10000 _ _ _ H
def F_X8_init (t : TS) : Option TS := (gE (tE t 2800 0) (nxt (uN t 2800 0 8) (fun t21 => (nxt (uR t21 800 0 (some 0)) (fun t22 => (gE (tE t22 2802 0) (nxt (uN t22 2802 0 8) (fun t23 => (nxt (uR t23 802 0 (some 0)) (fun t24 => (gE (tE t24 2804 0) (nxt (uN t24 2804 0 256) (fun t25 => (nxt (uR t25 804 0 (some 0)) (fun t26 => (some t26))))))))))))))))
theorem TF_X8_init {W : NW} {d : Nat} {t : TS} {Q : Option NV → TS → Prop} {bc bs : Nat} (hW : W.2.2.2 = (fun _ => false)) (H : wp (F_X8_init t) (fun r => Q none r)) : nC W (d + 1) 49 [eR (some (8, 0))] t (bc + 3) (bs + 272) Q := by
  refine nC_in (d := d) (T := tX8_init) (ls := [some (eR (some (8, 0)))]) rfl (Nat.le_of_ble_eq_true rfl) rfl (fun a0 e0 => ?_)
  unfold F_X8_init at H
  refine nx_ld rfl rfl rfl rfl ?_
  refine nx_objI rfl rfl (Nat.le_of_ble_eq_true rfl) ?_
  refine nx_ld rfl rfl rfl rfl ?_
  refine nx_int (x := 8) rfl rfl ?_
  refine nx_newaL 2800 0 8 rfl rfl (Nat.le_of_ble_eq_true rfl) (Nat.le_of_ble_eq_true rfl) rfl rfl (by decide) (Nat.le_of_ble_eq_true rfl) (by omega) (by omega) H (fun t21 H => ?_)
  refine nx_eq (bc' := bc + 2) (bs' := bs + 264) (by omega) (by omega) ?_
  refine nx_putR (f := 800) (o := (some 0)) rfl rfl rfl (by decide) (by rw [hW]) rfl (by decide) H (fun t22 H => ?_)
  refine nx_ld rfl rfl rfl rfl ?_
  show nX _ _ _ _ _ _ 13 _ _ _ _ _
  refine nx_int (x := 8) rfl rfl ?_
  refine nx_newaL 2802 0 8 rfl rfl (Nat.le_of_ble_eq_true rfl) (Nat.le_of_ble_eq_true rfl) rfl rfl (by decide) (Nat.le_of_ble_eq_true rfl) (by omega) (by omega) H (fun t23 H => ?_)
  refine nx_eq (bc' := bc + 1) (bs' := bs + 256) (by omega) (by omega) ?_
  refine nx_putR (f := 802) (o := (some 0)) rfl rfl rfl (by decide) (by rw [hW]) rfl (by decide) H (fun t24 H => ?_)
  refine nx_ld rfl rfl rfl rfl ?_
  refine nx_int (x := 256) rfl rfl ?_
  refine nx_newaL 2804 0 256 rfl rfl (Nat.le_of_ble_eq_true rfl) (Nat.le_of_ble_eq_true rfl) rfl rfl (by decide) (Nat.le_of_ble_eq_true rfl) (by omega) (by omega) H (fun t25 H => ?_)
  refine nx_eq (bc' := bc) (bs' := bs) (by omega) (by omega) ?_
  refine nx_putR (f := 804) (o := (some 0)) rfl rfl rfl (by decide) (by rw [hW]) rfl (by decide) H (fun t26 H => ?_)
  exact nx_rv rfl rfl H
def F_X8_add (t : TS) (x1 : Int32) : Option (Int32 × TS) := (if (tI t 801 0) < (Int32.ofNat (tL t 2800 0)) then (gd (tI t 801 0) (tL t 2800 0) (nxt (uA t 2800 0 (tI t 801 0).toNatClampNeg x1) (fun t21 => (nxt (uI t21 801 0 ((tI t21 801 0) + 1)) (fun t22 => (some (1, t22))))))) else (some (0, t)))
theorem TF_X8_add {W : NW} {d : Nat} {t : TS} {x1 : Int32} {Q : Option NV → TS → Prop} {bc bs : Nat} (hW : W.2.2.2 = mm_fx) (H : wp (F_X8_add t x1) (fun r => Q (some (eI r.1)) r.2)) : nC W (d + 1) 50 [eR (some (8, 0)), eI x1] t bc bs Q := by
  refine nC_in (d := d) (T := tX8_add) (ls := [some (eR (some (8, 0))), some (eI x1)]) rfl (Nat.le_of_ble_eq_true rfl) rfl (fun a0 e0 => ?_)
  unfold F_X8_add at H
  refine nx_ld rfl rfl rfl rfl ?_
  refine nx_getI rfl rfl rfl (by decide) ?_
  refine nx_ld rfl rfl rfl rfl ?_
  refine nx_getFix rfl rfl rfl (by decide) (by rw [hW]; rfl) rfl ?_
  refine nx_alen (p := (2800, 0)) rfl rfl (Nat.le_of_ble_eq_true rfl) (Nat.le_of_ble_eq_true rfl) (Nat.le_of_ble_eq_true rfl) ?_
  refine nx_icmp rfl rfl (by rfl) H (fun H => ?_) (fun H => ?_)
  · refine nx_ld rfl rfl rfl rfl ?_
    refine nx_getFix rfl rfl rfl (by decide) (by rw [hW]; rfl) rfl ?_
    refine nx_ld rfl rfl rfl rfl ?_
    refine nx_getI rfl rfl rfl (by decide) ?_
    refine nx_ld rfl rfl rfl rfl ?_
    refine nx_iast (p := (2800, 0)) rfl rfl (Nat.le_of_ble_eq_true rfl) (Nat.le_of_ble_eq_true rfl) rfl H (fun t21 H => ?_)
    refine nx_ld rfl rfl rfl rfl ?_
    show nX _ _ _ _ _ _ 25 _ _ _ _ _
    refine nx_dup rfl rfl (Nat.ne_of_beq_eq_false rfl) ?_
    refine nx_getI rfl rfl rfl (by decide) ?_
    refine nx_int (x := 1) rfl rfl ?_
    refine nx_ii rfl rfl ?_
    refine nx_putI rfl rfl rfl (by decide) H (fun t22 H => ?_)
    refine nx_int (x := 1) rfl rfl ?_
    exact nx_rzlt rfl rfl (by decide) H
  refine nx_int (x := 0) rfl rfl ?_
  exact nx_rzlt rfl rfl (by decide) H
def B_X8_mostWith_62 (t : TS) (v5 : Int32) : Option Int32 := (some (v5))
theorem TB_X8_mostWith_62 {W : NW} {d : Nat} {Q : Option NV → TS → Prop} {a0 : Nat → Nat → Nat} {e0 : Nat → Nat → Bool} {t : TS} {bc bs : Nat} (hW : W.2.2.2 = mm_fx) : ∀ (v1 : Int32) (v2 : Int32) (v3 : Int32) (v4 : Int32) (v5 : Int32), wp (B_X8_mostWith_62 t v5) (fun r => Q (some (eI r)) t) → nX W d tX8_mostWith Q a0 e0 62 [some (eR (some (8, 0))), some (eI v1), some (eI v2), some (eI v3), some (eI v4), some (eI v5)] [] t bc bs := by
  intro v1 v2 v3 v4 v5 H
  unfold B_X8_mostWith_62 at H
  refine nx_ld rfl rfl rfl rfl ?_
  refine nx_goto rfl rfl ?_
  exact nx_ri rfl rfl H
def B_X8_mostWith_23 (t : TS) (v1 : Int32) (v2 : Int32) (v3 : Int32) (s0 : Int32) : Option Int32 := (if ¬ ((v1 >>> (v3 &&& 31)) &&& 1) = 0 then (some ((-1))) else (if ¬ s0 = 0 then (gd (v1 ||| ((1 : Int32) <<< (v3 &&& 31))) (tL t 2804 0) (if (tA t 2804 0 (v1 ||| ((1 : Int32) <<< (v3 &&& 31))).toNatClampNeg) < 0 then (B_X8_mostWith_62  t (tA t 2804 0 (v1 ||| ((1 : Int32) <<< (v3 &&& 31))).toNatClampNeg)) else (if ¬ v3 = v2 then (some (((tA t 2804 0 (v1 ||| ((1 : Int32) <<< (v3 &&& 31))).toNatClampNeg) + 1))) else (B_X8_mostWith_62  t (tA t 2804 0 (v1 ||| ((1 : Int32) <<< (v3 &&& 31))).toNatClampNeg))))) else (some ((-1)))))
theorem TB_X8_mostWith_23 {W : NW} {d : Nat} {Q : Option NV → TS → Prop} {a0 : Nat → Nat → Nat} {e0 : Nat → Nat → Bool} {t : TS} {bc bs : Nat} (hW : W.2.2.2 = mm_fx) : ∀ (v1 : Int32) (v2 : Int32) (v3 : Int32) (s0 : Int32), wp (B_X8_mostWith_23 t v1 v2 v3 s0) (fun r => Q (some (eI r)) t) → nX W d tX8_mostWith Q a0 e0 23 [some (eR (some (8, 0))), some (eI v1), some (eI v2), some (eI v3), none, none] [eI s0] t bc bs := by
  intro v1 v2 v3 s0 H
  unfold B_X8_mostWith_23 at H
  refine nx_st (ls' := [some (eR (some (8, 0))), some (eI v1), some (eI v2), some (eI v3), some (eI s0), none]) rfl rfl rfl (Nat.le_of_ble_eq_true rfl) rfl ?_
  refine nx_ld rfl rfl rfl rfl ?_
  refine nx_ld rfl rfl rfl rfl ?_
  refine nx_ii rfl rfl ?_
  refine nx_int (x := 1) rfl rfl ?_
  refine nx_ii rfl rfl ?_
  refine nx_if rfl rfl (by rfl) H (fun H => ?_) (fun H => ?_)
  · refine nx_int (x := (-1)) rfl rfl ?_
    exact nx_ri rfl rfl H
  refine nx_ld rfl rfl rfl rfl ?_
  refine nx_if rfl rfl (by rfl) H (fun H => ?_) (fun H => ?_)
  · refine nx_ld rfl rfl rfl rfl ?_
    refine nx_getFix rfl rfl rfl (by decide) (by rw [hW]; rfl) rfl ?_
    refine nx_ld rfl rfl rfl rfl ?_
    refine nx_int (x := 1) rfl rfl ?_
    refine nx_ld rfl rfl rfl rfl ?_
    refine nx_ii rfl rfl ?_
    refine nx_ii rfl rfl ?_
    show nX _ _ _ _ _ _ 49 _ _ _ _ _
    refine nx_iald (p := (2804, 0)) rfl rfl (Nat.le_of_ble_eq_true rfl) (Nat.le_of_ble_eq_true rfl) rfl H (fun H => ?_)
    refine nx_st (ls' := [some (eR (some (8, 0))), some (eI v1), some (eI v2), some (eI v3), some (eI s0), some (eI (tA t 2804 0 (v1 ||| ((1 : Int32) <<< (v3 &&& 31))).toNatClampNeg))]) rfl rfl rfl (Nat.le_of_ble_eq_true rfl) rfl ?_
    refine nx_ld rfl rfl rfl rfl ?_
    refine nx_if rfl rfl (by rfl) H (fun H => ?_) (fun H => ?_)
    · exact TB_X8_mostWith_62 hW    _ _ _ _ _ H
    refine nx_ld rfl rfl rfl rfl ?_
    refine nx_ld rfl rfl rfl rfl ?_
    refine nx_icmp rfl rfl (by rfl) H (fun H => ?_) (fun H => ?_)
    · refine nx_ld rfl rfl rfl rfl ?_
      refine nx_int (x := 1) rfl rfl ?_
      refine nx_ii rfl rfl ?_
      exact nx_ri rfl rfl H
    exact TB_X8_mostWith_62 hW    _ _ _ _ _ H
  refine nx_int (x := (-1)) rfl rfl ?_
  exact nx_ri rfl rfl H
def B_X8_mostWith_18 (t : TS) (v1 : Int32) (v2 : Int32) (v3 : Int32) : Option Int32 := (B_X8_mostWith_23  t v1 v2 v3 1)
theorem TB_X8_mostWith_18 {W : NW} {d : Nat} {Q : Option NV → TS → Prop} {a0 : Nat → Nat → Nat} {e0 : Nat → Nat → Bool} {t : TS} {bc bs : Nat} (hW : W.2.2.2 = mm_fx) : ∀ (v1 : Int32) (v2 : Int32) (v3 : Int32), wp (B_X8_mostWith_18 t v1 v2 v3) (fun r => Q (some (eI r)) t) → nX W d tX8_mostWith Q a0 e0 18 [some (eR (some (8, 0))), some (eI v1), some (eI v2), some (eI v3), none, none] [] t bc bs := by
  intro v1 v2 v3 H
  unfold B_X8_mostWith_18 at H
  refine nx_int (x := 1) rfl rfl ?_
  refine nx_goto rfl rfl ?_
  exact TB_X8_mostWith_23 hW    _ _ _ _ H
def F_X8_mostWith (t : TS) (x1 : Int32) (x2 : Int32) (x3 : Int32) : Option Int32 := (if x3 = x2 then (B_X8_mostWith_18  t x1 x2 x3) else (gd x2 (tL t 2800 0) (if (((tA t 2800 0 x2.toNatClampNeg) >>> (x3 &&& 31)) &&& 1) = 0 then (B_X8_mostWith_23  t x1 x2 x3 0) else (B_X8_mostWith_18  t x1 x2 x3))))
theorem TF_X8_mostWith {W : NW} {d : Nat} {t : TS} {x1 : Int32} {x2 : Int32} {x3 : Int32} {Q : Option NV → TS → Prop} {bc bs : Nat} (hW : W.2.2.2 = mm_fx) (H : wp (F_X8_mostWith t x1 x2 x3) (fun r => Q (some (eI r)) t)) : nC W (d + 1) 52 [eR (some (8, 0)), eI x1, eI x2, eI x3] t bc bs Q := by
  refine nC_in (d := d) (T := tX8_mostWith) (ls := [some (eR (some (8, 0))), some (eI x1), some (eI x2), some (eI x3), none, none]) rfl (Nat.le_of_ble_eq_true rfl) rfl (fun a0 e0 => ?_)
  unfold F_X8_mostWith at H
  refine nx_ld rfl rfl rfl rfl ?_
  refine nx_ld rfl rfl rfl rfl ?_
  refine nx_icmp rfl rfl (by rfl) H (fun H => ?_) (fun H => ?_)
  · exact TB_X8_mostWith_18 hW    _ _ _ H
  refine nx_ld rfl rfl rfl rfl ?_
  refine nx_getFix rfl rfl rfl (by decide) (by rw [hW]; rfl) rfl ?_
  refine nx_ld rfl rfl rfl rfl ?_
  refine nx_iald (p := (2800, 0)) rfl rfl (Nat.le_of_ble_eq_true rfl) (Nat.le_of_ble_eq_true rfl) rfl H (fun H => ?_)
  refine nx_ld rfl rfl rfl rfl ?_
  refine nx_ii rfl rfl ?_
  refine nx_int (x := 1) rfl rfl ?_
  show nX _ _ _ _ _ _ 14 _ _ _ _ _
  refine nx_ii rfl rfl ?_
  refine nx_if rfl rfl (by rfl) H (fun H => ?_) (fun H => ?_)
  · refine nx_int (x := 0) rfl rfl ?_
    exact TB_X8_mostWith_23 hW    _ _ _ _ H
  exact TB_X8_mostWith_18 hW    _ _ _ H
def B_X8_firstOf_43 (k2 : TS → Int32 → Int32 → Int32 → Option Int32) (t : TS) (v1 : Int32) (v2 : Int32) (v3 : Int32) : Option Int32 := (k2 t v1 v2 (v3 + 1))
theorem TB_X8_firstOf_43 {W : NW} {d : Nat} {Q : Option NV → TS → Prop} {a0 : Nat → Nat → Nat} {e0 : Nat → Nat → Bool} {t : TS} {k2 : TS → Int32 → Int32 → Int32 → Option Int32} {bc bs : Nat} (hW : W.2.2.2 = mm_fx) (hk2 : ∀ (v1 : Int32) (v2 : Int32) (v3 : Int32), wp (k2 t v1 v2 v3) (fun r => Q (some (eI r)) t) → nX W (d + 1) tX8_firstOf Q a0 e0 2 [some (eR (some (8, 0))), some (eI v1), some (eI v2), some (eI v3)] [] t bc bs) : ∀ (v1 : Int32) (v2 : Int32) (v3 : Int32), wp (B_X8_firstOf_43 k2 t v1 v2 v3) (fun r => Q (some (eI r)) t) → nX W (d + 1) tX8_firstOf Q a0 e0 43 [some (eR (some (8, 0))), some (eI v1), some (eI v2), some (eI v3)] [] t bc bs := by
  intro v1 v2 v3 H
  unfold B_X8_firstOf_43 at H
  refine nx_iinc2 1 (ls' := [some (eR (some (8, 0))), some (eI v1), some (eI v2), some (eI (v3 + 1))]) rfl rfl rfl rfl rfl ?_
  refine nx_goto rfl rfl ?_
  exact hk2 _ _ _ H
def BB_X8_firstOf_2 (k2 : TS → Int32 → Int32 → Int32 → Option Int32) (t : TS) (v1 : Int32) (v2 : Int32) (v3 : Int32) : Option Int32 := (if (tI t 801 0) ≤ v3 then (some (v2)) else (if v3 = v2 then (B_X8_firstOf_43 k2 t v1 v2 v3) else (Option.bind (F_X8_mostWith t v1 v2 v3) (fun r21 => (if r21 < 0 then (B_X8_firstOf_43 k2 t v1 v2 v3) else (Option.bind (F_X8_mostWith t v1 v2 v3) (fun r22 => (gd v1 (tL t 2804 0) (if ¬ r22 = (tA t 2804 0 v1.toNatClampNeg) then (B_X8_firstOf_43 k2 t v1 v2 v3) else (some (v3)))))))))))
theorem TBB_X8_firstOf_2 {W : NW} {d : Nat} {Q : Option NV → TS → Prop} {a0 : Nat → Nat → Nat} {e0 : Nat → Nat → Bool} {t : TS} {k2 : TS → Int32 → Int32 → Int32 → Option Int32} {bc bs : Nat} (hW : W.2.2.2 = mm_fx) (hk2 : ∀ (v1 : Int32) (v2 : Int32) (v3 : Int32), wp (k2 t v1 v2 v3) (fun r => Q (some (eI r)) t) → nX W (d + 1) tX8_firstOf Q a0 e0 2 [some (eR (some (8, 0))), some (eI v1), some (eI v2), some (eI v3)] [] t bc bs) : ∀ (v1 : Int32) (v2 : Int32) (v3 : Int32), wp (BB_X8_firstOf_2 k2 t v1 v2 v3) (fun r => Q (some (eI r)) t) → nX W (d + 1) tX8_firstOf Q a0 e0 2 [some (eR (some (8, 0))), some (eI v1), some (eI v2), some (eI v3)] [] t bc bs := by
  intro v1 v2 v3 H
  unfold BB_X8_firstOf_2 at H
  refine nx_ld rfl rfl rfl rfl ?_
  refine nx_ld rfl rfl rfl rfl ?_
  refine nx_getI rfl rfl rfl (by decide) ?_
  refine nx_icmp rfl rfl (by rfl) H (fun H => ?_) (fun H => ?_)
  · refine nx_ld rfl rfl rfl rfl ?_
    exact nx_ri rfl rfl H
  refine nx_ld rfl rfl rfl rfl ?_
  refine nx_ld rfl rfl rfl rfl ?_
  refine nx_icmp rfl rfl (by rfl) H (fun H => ?_) (fun H => ?_)
  · exact TB_X8_firstOf_43 hW   hk2 _ _ _ H
  refine nx_ld rfl rfl rfl rfl ?_
  refine nx_ld rfl rfl rfl rfl ?_
  refine nx_ld rfl rfl rfl rfl ?_
  refine nx_ld rfl rfl rfl rfl ?_
  refine nx_cVI (as := [eI v1, eI v2, eI v3]) (st' := []) rfl rfl (Nat.le_of_ble_eq_true rfl) rfl rfl (Nat.le_of_ble_eq_true rfl) (c0 := 8) rfl (by decide) H (fun Q H => TF_X8_mostWith hW  H) (fun r21 H => ?_)
  refine nx_if rfl rfl (by rfl) H (fun H => ?_) (fun H => ?_)
  · exact TB_X8_firstOf_43 hW   hk2 _ _ _ H
  refine nx_ld rfl rfl rfl rfl ?_
  refine nx_ld rfl rfl rfl rfl ?_
  refine nx_ld rfl rfl rfl rfl ?_
  refine nx_ld rfl rfl rfl rfl ?_
  refine nx_cVI (as := [eI v1, eI v2, eI v3]) (st' := []) rfl rfl (Nat.le_of_ble_eq_true rfl) rfl rfl (Nat.le_of_ble_eq_true rfl) (c0 := 8) rfl (by decide) H (fun Q H => TF_X8_mostWith hW  H) (fun r22 H => ?_)
  refine nx_ld rfl rfl rfl rfl ?_
  refine nx_getFix rfl rfl rfl (by decide) (by rw [hW]; rfl) rfl ?_
  show nX _ _ _ _ _ _ 36 _ _ _ _ _
  refine nx_ld rfl rfl rfl rfl ?_
  refine nx_iald (p := (2804, 0)) rfl rfl (Nat.le_of_ble_eq_true rfl) (Nat.le_of_ble_eq_true rfl) rfl H (fun H => ?_)
  refine nx_icmp rfl rfl (by rfl) H (fun H => ?_) (fun H => ?_)
  · exact TB_X8_firstOf_43 hW   hk2 _ _ _ H
  refine nx_ld rfl rfl rfl rfl ?_
  exact nx_ri rfl rfl H
def B_X8_firstOf_2 : Nat → TS → Int32 → Int32 → Int32 → Option Int32
  | 0 => fun _ _ _ _ => none
  | n + 1 => fun t v1 v2 v3 => BB_X8_firstOf_2 (B_X8_firstOf_2 n) t v1 v2 v3
theorem TB_X8_firstOf_2 {W : NW} {d : Nat} {Q : Option NV → TS → Prop} {a0 : Nat → Nat → Nat} {e0 : Nat → Nat → Bool} {t : TS} {bc bs : Nat} (hW : W.2.2.2 = mm_fx) : ∀ (n : Nat) (v1 : Int32) (v2 : Int32) (v3 : Int32), wp (B_X8_firstOf_2 n t v1 v2 v3) (fun r => Q (some (eI r)) t) → nX W (d + 1) tX8_firstOf Q a0 e0 2 [some (eR (some (8, 0))), some (eI v1), some (eI v2), some (eI v3)] [] t bc bs := by
  intro n
  induction n with
  | zero => intro v1 v2 v3 H; exact (wp_none H).elim
  | succ n ih =>
    intro v1 v2 v3 H
    exact TBB_X8_firstOf_2 hW    ih v1 v2 v3 H
def F_X8_firstOf (t : TS) (x1 : Int32) (x2 : Int32) : Option Int32 := (B_X8_firstOf_2  10000 t x1 x2 0)
theorem TF_X8_firstOf {W : NW} {d : Nat} {t : TS} {x1 : Int32} {x2 : Int32} {Q : Option NV → TS → Prop} {bc bs : Nat} (hW : W.2.2.2 = mm_fx) (H : wp (F_X8_firstOf t x1 x2) (fun r => Q (some (eI r)) t)) : nC W (d + 2) 53 [eR (some (8, 0)), eI x1, eI x2] t bc bs Q := by
  refine nC_in (d := (d + 1)) (T := tX8_firstOf) (ls := [some (eR (some (8, 0))), some (eI x1), some (eI x2), none]) rfl (Nat.le_of_ble_eq_true rfl) rfl (fun a0 e0 => ?_)
  unfold F_X8_firstOf at H
  refine nx_int (x := 0) rfl rfl ?_
  refine nx_st (ls' := [some (eR (some (8, 0))), some (eI x1), some (eI x2), some (eI 0)]) rfl rfl rfl (Nat.le_of_ble_eq_true rfl) rfl ?_
  exact TB_X8_firstOf_2 hW    10000 _ _ _ H
def B_X8_takeMost_124 (t : TS) : Option (Int32 × TS) := (nxt (uI t 803 0 (tI t 801 0)) (fun t21 => (nxt (uI t21 801 0 0) (fun t22 => (gd (0 : Int32) (tL t22 2804 0) (some ((tA t22 2804 0 (0 : Int32).toNatClampNeg), t22)))))))
theorem TB_X8_takeMost_124 {W : NW} {d : Nat} {Q : Option NV → TS → Prop} {a0 : Nat → Nat → Nat} {e0 : Nat → Nat → Bool} {bc bs : Nat} (hW : W.2.2.2 = mm_fx) : ∀ (t : TS) (v1 : Int32) (v2 : Int32) (v3 : Int32) (v4 : Option NV), wp (B_X8_takeMost_124 t) (fun r => Q (some (eI r.1)) r.2) → nX W (d + 2) tX8_takeMost Q a0 e0 124 [some (eR (some (8, 0))), some (eI v1), some (eI v2), some (eI v3), v4] [] t bc bs := by
  intro t v1 v2 v3 v4 H
  unfold B_X8_takeMost_124 at H
  refine nx_ld rfl rfl rfl rfl ?_
  refine nx_ld rfl rfl rfl rfl ?_
  refine nx_getI rfl rfl rfl (by decide) ?_
  refine nx_putI rfl rfl rfl (by decide) H (fun t21 H => ?_)
  refine nx_ld rfl rfl rfl rfl ?_
  refine nx_int (x := 0) rfl rfl ?_
  refine nx_putI rfl rfl rfl (by decide) H (fun t22 H => ?_)
  show nX _ _ _ _ _ _ 137 _ _ _ _ _
  refine nx_ld rfl rfl rfl rfl ?_
  refine nx_getFix rfl rfl rfl (by decide) (by rw [hW]; rfl) rfl ?_
  refine nx_int (x := 0) rfl rfl ?_
  refine nx_iald (p := (2804, 0)) rfl rfl (Nat.le_of_ble_eq_true rfl) (Nat.le_of_ble_eq_true rfl) rfl H (fun H => ?_)
  exact nx_rit rfl rfl H
def BB_X8_takeMost_87 (k87 : TS → Int32 → Int32 → Option (Int32 × TS)) (t : TS) (v2 : Int32) (v3 : Int32) : Option (Int32 × TS) := (if (tI t 801 0) ≤ v3 then (B_X8_takeMost_124  t) else (Option.bind (F_X8_firstOf t v2 v3) (fun r21 => (gd v3 (tL t 2802 0) (nxt (uA t 2802 0 v3.toNatClampNeg r21) (fun t22 => (gd v3 (tL t22 2802 0) (k87 t22 (v2 ||| ((1 : Int32) <<< ((tA t22 2802 0 v3.toNatClampNeg) &&& 31))) (v3 + 1)))))))))
theorem TBB_X8_takeMost_87 {W : NW} {d : Nat} {Q : Option NV → TS → Prop} {a0 : Nat → Nat → Nat} {e0 : Nat → Nat → Bool} {k87 : TS → Int32 → Int32 → Option (Int32 × TS)} {bc bs : Nat} (hW : W.2.2.2 = mm_fx) (hk87 : ∀ (t : TS) (v1 : Int32) (v2 : Int32) (v3 : Int32) (v4 : Option NV), wp (k87 t v2 v3) (fun r => Q (some (eI r.1)) r.2) → nX W (d + 2) tX8_takeMost Q a0 e0 87 [some (eR (some (8, 0))), some (eI v1), some (eI v2), some (eI v3), v4] [] t bc bs) : ∀ (t : TS) (v1 : Int32) (v2 : Int32) (v3 : Int32) (v4 : Option NV), wp (BB_X8_takeMost_87 k87 t v2 v3) (fun r => Q (some (eI r.1)) r.2) → nX W (d + 2) tX8_takeMost Q a0 e0 87 [some (eR (some (8, 0))), some (eI v1), some (eI v2), some (eI v3), v4] [] t bc bs := by
  intro t v1 v2 v3 v4 H
  unfold BB_X8_takeMost_87 at H
  refine nx_ld rfl rfl rfl rfl ?_
  refine nx_ld rfl rfl rfl rfl ?_
  refine nx_getI rfl rfl rfl (by decide) ?_
  refine nx_icmp rfl rfl (by rfl) H (fun H => ?_) (fun H => ?_)
  · exact TB_X8_takeMost_124 hW    _ _ _ _ _ H
  refine nx_ld rfl rfl rfl rfl ?_
  refine nx_getFix rfl rfl rfl (by decide) (by rw [hW]; rfl) rfl ?_
  refine nx_ld rfl rfl rfl rfl ?_
  refine nx_ld rfl rfl rfl rfl ?_
  refine nx_ld rfl rfl rfl rfl ?_
  refine nx_ld rfl rfl rfl rfl ?_
  refine nx_cVI (as := [eI v2, eI v3]) (st' := [eI v3, eR (some (2802, 0))]) rfl rfl (Nat.le_of_ble_eq_true rfl) rfl rfl (Nat.le_of_ble_eq_true rfl) (c0 := 8) rfl (by decide) H (fun Q H => TF_X8_firstOf hW  H) (fun r21 H => ?_)
  show nX _ _ _ _ _ _ 106 _ _ _ _ _
  refine nx_iast (p := (2802, 0)) rfl rfl (Nat.le_of_ble_eq_true rfl) (Nat.le_of_ble_eq_true rfl) rfl H (fun t22 H => ?_)
  refine nx_ld rfl rfl rfl rfl ?_
  refine nx_int (x := 1) rfl rfl ?_
  refine nx_ld rfl rfl rfl rfl ?_
  refine nx_getFix rfl rfl rfl (by decide) (by rw [hW]; rfl) rfl ?_
  refine nx_ld rfl rfl rfl rfl ?_
  refine nx_iald (p := (2802, 0)) rfl rfl (Nat.le_of_ble_eq_true rfl) (Nat.le_of_ble_eq_true rfl) rfl H (fun H => ?_)
  refine nx_ii rfl rfl ?_
  show nX _ _ _ _ _ _ 116 _ _ _ _ _
  refine nx_ii rfl rfl ?_
  refine nx_st (ls' := [some (eR (some (8, 0))), some (eI v1), some (eI (v2 ||| ((1 : Int32) <<< ((tA t22 2802 0 v3.toNatClampNeg) &&& 31)))), some (eI v3), v4]) rfl rfl rfl (Nat.le_of_ble_eq_true rfl) rfl ?_
  refine nx_iinc2 1 (ls' := [some (eR (some (8, 0))), some (eI v1), some (eI (v2 ||| ((1 : Int32) <<< ((tA t22 2802 0 v3.toNatClampNeg) &&& 31)))), some (eI (v3 + 1)), v4]) rfl rfl rfl rfl rfl ?_
  refine nx_goto rfl rfl ?_
  exact hk87 _ _ _ _ _ H
def B_X8_takeMost_87 : Nat → TS → Int32 → Int32 → Option (Int32 × TS)
  | 0 => fun _ _ _ => none
  | n + 1 => fun t v2 v3 => BB_X8_takeMost_87 (B_X8_takeMost_87 n) t v2 v3
theorem TB_X8_takeMost_87 {W : NW} {d : Nat} {Q : Option NV → TS → Prop} {a0 : Nat → Nat → Nat} {e0 : Nat → Nat → Bool} {bc bs : Nat} (hW : W.2.2.2 = mm_fx) : ∀ (n : Nat) (t : TS) (v1 : Int32) (v2 : Int32) (v3 : Int32) (v4 : Option NV), wp (B_X8_takeMost_87 n t v2 v3) (fun r => Q (some (eI r.1)) r.2) → nX W (d + 2) tX8_takeMost Q a0 e0 87 [some (eR (some (8, 0))), some (eI v1), some (eI v2), some (eI v3), v4] [] t bc bs := by
  intro n
  induction n with
  | zero => intro t v1 v2 v3 v4 H; exact (wp_none H).elim
  | succ n ih =>
    intro t v1 v2 v3 v4 H
    exact TBB_X8_takeMost_87 hW    ih t v1 v2 v3 v4 H
def B_X8_takeMost_83 (t : TS) : Option (Int32 × TS) := (B_X8_takeMost_87  10000 t 0 0)
theorem TB_X8_takeMost_83 {W : NW} {d : Nat} {Q : Option NV → TS → Prop} {a0 : Nat → Nat → Nat} {e0 : Nat → Nat → Bool} {bc bs : Nat} (hW : W.2.2.2 = mm_fx) : ∀ (t : TS) (v1 : Int32) (v2 : Int32) (v3 : Option NV) (v4 : Option NV), wp (B_X8_takeMost_83 t) (fun r => Q (some (eI r.1)) r.2) → nX W (d + 2) tX8_takeMost Q a0 e0 83 [some (eR (some (8, 0))), some (eI v1), some (eI v2), v3, v4] [] t bc bs := by
  intro t v1 v2 v3 v4 H
  unfold B_X8_takeMost_83 at H
  refine nx_int (x := 0) rfl rfl ?_
  refine nx_st (ls' := [some (eR (some (8, 0))), some (eI v1), some (eI 0), v3, v4]) rfl rfl rfl (Nat.le_of_ble_eq_true rfl) rfl ?_
  refine nx_int (x := 0) rfl rfl ?_
  refine nx_st (ls' := [some (eR (some (8, 0))), some (eI v1), some (eI 0), some (eI 0), v4]) rfl rfl rfl (Nat.le_of_ble_eq_true rfl) rfl ?_
  exact TB_X8_takeMost_87 hW    10000 _ _ _ _ _ H
def B_X8_takeMost_77 (k20 : TS → Int32 → Option (Int32 × TS)) (t : TS) (v2 : Int32) : Option (Int32 × TS) := (k20 t (v2 + (-1)))
theorem TB_X8_takeMost_77 {W : NW} {d : Nat} {Q : Option NV → TS → Prop} {a0 : Nat → Nat → Nat} {e0 : Nat → Nat → Bool} {k20 : TS → Int32 → Option (Int32 × TS)} {bc bs : Nat} (hW : W.2.2.2 = mm_fx) (hk20 : ∀ (t : TS) (v1 : Int32) (v2 : Int32) (v3 : Option NV) (v4 : Option NV), wp (k20 t v2) (fun r => Q (some (eI r.1)) r.2) → nX W (d + 2) tX8_takeMost Q a0 e0 20 [some (eR (some (8, 0))), some (eI v1), some (eI v2), v3, v4] [] t bc bs) : ∀ (t : TS) (v1 : Int32) (v2 : Int32) (v3 : Int32) (v4 : Int32), wp (B_X8_takeMost_77 k20 t v2) (fun r => Q (some (eI r.1)) r.2) → nX W (d + 2) tX8_takeMost Q a0 e0 77 [some (eR (some (8, 0))), some (eI v1), some (eI v2), some (eI v3), some (eI v4)] [] t bc bs := by
  intro t v1 v2 v3 v4 H
  unfold B_X8_takeMost_77 at H
  refine nx_iinc2 (-1) (ls' := [some (eR (some (8, 0))), some (eI v1), some (eI (v2 + (-1))), some (eI v3), some (eI v4)]) rfl rfl rfl rfl rfl ?_
  refine nx_goto rfl rfl ?_
  exact hk20 _ _ _ _ _ H
def BB_X8_takeMost_39 (k20 : TS → Int32 → Option (Int32 × TS)) (k39 : TS → Int32 → Int32 → Int32 → Option (Int32 × TS)) (t : TS) (v2 : Int32) (v3 : Int32) (v4 : Int32) : Option (Int32 × TS) := (if (tI t 801 0) ≤ v4 then (B_X8_takeMost_77 k20 t v2) else (gd v2 (tL t 2804 0) (Option.bind (F_X8_mostWith t v2 v3 v4) (fun r21 => (gd v2 (tL t 2804 0) (nxt (uA t 2804 0 v2.toNatClampNeg (if (tA t 2804 0 v2.toNatClampNeg) < r21 then r21 else (tA t 2804 0 v2.toNatClampNeg))) (fun t22 => (k39 t22 v2 v3 (v4 + 1)))))))))
theorem TBB_X8_takeMost_39 {W : NW} {d : Nat} {Q : Option NV → TS → Prop} {a0 : Nat → Nat → Nat} {e0 : Nat → Nat → Bool} {k20 : TS → Int32 → Option (Int32 × TS)} {k39 : TS → Int32 → Int32 → Int32 → Option (Int32 × TS)} {bc bs : Nat} (hW : W.2.2.2 = mm_fx) (hk20 : ∀ (t : TS) (v1 : Int32) (v2 : Int32) (v3 : Option NV) (v4 : Option NV), wp (k20 t v2) (fun r => Q (some (eI r.1)) r.2) → nX W (d + 2) tX8_takeMost Q a0 e0 20 [some (eR (some (8, 0))), some (eI v1), some (eI v2), v3, v4] [] t bc bs) (hk39 : ∀ (t : TS) (v1 : Int32) (v2 : Int32) (v3 : Int32) (v4 : Int32), wp (k39 t v2 v3 v4) (fun r => Q (some (eI r.1)) r.2) → nX W (d + 2) tX8_takeMost Q a0 e0 39 [some (eR (some (8, 0))), some (eI v1), some (eI v2), some (eI v3), some (eI v4)] [] t bc bs) : ∀ (t : TS) (v1 : Int32) (v2 : Int32) (v3 : Int32) (v4 : Int32), wp (BB_X8_takeMost_39 k20 k39 t v2 v3 v4) (fun r => Q (some (eI r.1)) r.2) → nX W (d + 2) tX8_takeMost Q a0 e0 39 [some (eR (some (8, 0))), some (eI v1), some (eI v2), some (eI v3), some (eI v4)] [] t bc bs := by
  intro t v1 v2 v3 v4 H
  unfold BB_X8_takeMost_39 at H
  refine nx_ld rfl rfl rfl rfl ?_
  refine nx_ld rfl rfl rfl rfl ?_
  refine nx_getI rfl rfl rfl (by decide) ?_
  refine nx_icmp rfl rfl (by rfl) H (fun H => ?_) (fun H => ?_)
  · exact TB_X8_takeMost_77 hW   hk20 _ _ _ _ _ H
  refine nx_ld rfl rfl rfl rfl ?_
  refine nx_getFix rfl rfl rfl (by decide) (by rw [hW]; rfl) rfl ?_
  refine nx_ld rfl rfl rfl rfl ?_
  refine nx_ld rfl rfl rfl rfl ?_
  refine nx_getFix rfl rfl rfl (by decide) (by rw [hW]; rfl) rfl ?_
  refine nx_ld rfl rfl rfl rfl ?_
  refine nx_iald (p := (2804, 0)) rfl rfl (Nat.le_of_ble_eq_true rfl) (Nat.le_of_ble_eq_true rfl) rfl H (fun H => ?_)
  show nX _ _ _ _ _ _ 59 _ _ _ _ _
  refine nx_ld rfl rfl rfl rfl ?_
  refine nx_ld rfl rfl rfl rfl ?_
  refine nx_ld rfl rfl rfl rfl ?_
  refine nx_ld rfl rfl rfl rfl ?_
  refine nx_cVI (as := [eI v2, eI v3, eI v4]) (st' := [eI (tA t 2804 0 v2.toNatClampNeg), eI v2, eR (some (2804, 0))]) rfl rfl (Nat.le_of_ble_eq_true rfl) rfl rfl (Nat.le_of_ble_eq_true rfl) (c0 := 8) rfl (by decide) H (fun Q H => TF_X8_mostWith hW  H) (fun r21 H => ?_)
  refine nx_ext2 rfl rfl (Nat.le_of_ble_eq_true rfl) ?_
  refine nx_iast (p := (2804, 0)) rfl rfl (Nat.le_of_ble_eq_true rfl) (Nat.le_of_ble_eq_true rfl) rfl H (fun t22 H => ?_)
  refine nx_iinc2 1 (ls' := [some (eR (some (8, 0))), some (eI v1), some (eI v2), some (eI v3), some (eI (v4 + 1))]) rfl rfl rfl rfl rfl ?_
  show nX _ _ _ _ _ _ 74 _ _ _ _ _
  refine nx_goto rfl rfl ?_
  exact hk39 _ _ _ _ _ H
def B_X8_takeMost_39 (k20 : TS → Int32 → Option (Int32 × TS)) : Nat → TS → Int32 → Int32 → Int32 → Option (Int32 × TS)
  | 0 => fun _ _ _ _ => none
  | n + 1 => fun t v2 v3 v4 => BB_X8_takeMost_39 k20 (B_X8_takeMost_39 k20 n) t v2 v3 v4
theorem TB_X8_takeMost_39 {W : NW} {d : Nat} {Q : Option NV → TS → Prop} {a0 : Nat → Nat → Nat} {e0 : Nat → Nat → Bool} {k20 : TS → Int32 → Option (Int32 × TS)} {bc bs : Nat} (hW : W.2.2.2 = mm_fx) (hk20 : ∀ (t : TS) (v1 : Int32) (v2 : Int32) (v3 : Option NV) (v4 : Option NV), wp (k20 t v2) (fun r => Q (some (eI r.1)) r.2) → nX W (d + 2) tX8_takeMost Q a0 e0 20 [some (eR (some (8, 0))), some (eI v1), some (eI v2), v3, v4] [] t bc bs) : ∀ (n : Nat) (t : TS) (v1 : Int32) (v2 : Int32) (v3 : Int32) (v4 : Int32), wp (B_X8_takeMost_39 k20 n t v2 v3 v4) (fun r => Q (some (eI r.1)) r.2) → nX W (d + 2) tX8_takeMost Q a0 e0 39 [some (eR (some (8, 0))), some (eI v1), some (eI v2), some (eI v3), some (eI v4)] [] t bc bs := by
  intro n
  induction n with
  | zero => intro t v1 v2 v3 v4 H; exact (wp_none H).elim
  | succ n ih =>
    intro t v1 v2 v3 v4 H
    exact TBB_X8_takeMost_39 hW   hk20 ih t v1 v2 v3 v4 H
def BB_X8_takeMost_20 (k20 : TS → Int32 → Option (Int32 × TS)) (t : TS) (v2 : Int32) : Option (Int32 × TS) := (if v2 < 0 then (B_X8_takeMost_83  t) else (Option.bind (F_J6_bitCount_0f7a4 t v2) (fun r21 => (gd v2 (tL t 2804 0) (nxt (uA t 2804 0 v2.toNatClampNeg (-1)) (fun t22 => (B_X8_takeMost_39 k20 10000 t22 v2 r21 0)))))))
theorem TBB_X8_takeMost_20 {W : NW} {d : Nat} {Q : Option NV → TS → Prop} {a0 : Nat → Nat → Nat} {e0 : Nat → Nat → Bool} {k20 : TS → Int32 → Option (Int32 × TS)} {bc bs : Nat} (hW : W.2.2.2 = mm_fx) (hk20 : ∀ (t : TS) (v1 : Int32) (v2 : Int32) (v3 : Option NV) (v4 : Option NV), wp (k20 t v2) (fun r => Q (some (eI r.1)) r.2) → nX W (d + 2) tX8_takeMost Q a0 e0 20 [some (eR (some (8, 0))), some (eI v1), some (eI v2), v3, v4] [] t bc bs) : ∀ (t : TS) (v1 : Int32) (v2 : Int32) (v3 : Option NV) (v4 : Option NV), wp (BB_X8_takeMost_20 k20 t v2) (fun r => Q (some (eI r.1)) r.2) → nX W (d + 2) tX8_takeMost Q a0 e0 20 [some (eR (some (8, 0))), some (eI v1), some (eI v2), v3, v4] [] t bc bs := by
  intro t v1 v2 v3 v4 H
  unfold BB_X8_takeMost_20 at H
  refine nx_ld rfl rfl rfl rfl ?_
  refine nx_if rfl rfl (by rfl) H (fun H => ?_) (fun H => ?_)
  · exact TB_X8_takeMost_83 hW    _ _ _ _ _ H
  refine nx_ld rfl rfl rfl rfl ?_
  refine nx_cSI (as := [eI v2]) (st' := []) rfl rfl (Nat.le_of_ble_eq_true rfl) rfl rfl (Nat.le_of_ble_eq_true rfl) H (fun Q H => TF_J6_bitCount_0f7a4 hW  H) (fun r21 H => ?_)
  refine nx_st (ls' := [some (eR (some (8, 0))), some (eI v1), some (eI v2), some (eI r21), v4]) rfl rfl rfl (Nat.le_of_ble_eq_true rfl) rfl ?_
  refine nx_ld rfl rfl rfl rfl ?_
  refine nx_getFix rfl rfl rfl (by decide) (by rw [hW]; rfl) rfl ?_
  refine nx_ld rfl rfl rfl rfl ?_
  refine nx_int (x := (-1)) rfl rfl ?_
  show nX _ _ _ _ _ _ 35 _ _ _ _ _
  refine nx_iast (p := (2804, 0)) rfl rfl (Nat.le_of_ble_eq_true rfl) (Nat.le_of_ble_eq_true rfl) rfl H (fun t22 H => ?_)
  refine nx_int (x := 0) rfl rfl ?_
  refine nx_st (ls' := [some (eR (some (8, 0))), some (eI v1), some (eI v2), some (eI r21), some (eI 0)]) rfl rfl rfl (Nat.le_of_ble_eq_true rfl) rfl ?_
  exact TB_X8_takeMost_39 hW   hk20 10000 _ _ _ _ _ H
def B_X8_takeMost_20 : Nat → TS → Int32 → Option (Int32 × TS)
  | 0 => fun _ _ => none
  | n + 1 => fun t v2 => BB_X8_takeMost_20 (B_X8_takeMost_20 n) t v2
theorem TB_X8_takeMost_20 {W : NW} {d : Nat} {Q : Option NV → TS → Prop} {a0 : Nat → Nat → Nat} {e0 : Nat → Nat → Bool} {bc bs : Nat} (hW : W.2.2.2 = mm_fx) : ∀ (n : Nat) (t : TS) (v1 : Int32) (v2 : Int32) (v3 : Option NV) (v4 : Option NV), wp (B_X8_takeMost_20 n t v2) (fun r => Q (some (eI r.1)) r.2) → nX W (d + 2) tX8_takeMost Q a0 e0 20 [some (eR (some (8, 0))), some (eI v1), some (eI v2), v3, v4] [] t bc bs := by
  intro n
  induction n with
  | zero => intro t v1 v2 v3 v4 H; exact (wp_none H).elim
  | succ n ih =>
    intro t v1 v2 v3 v4 H
    exact TBB_X8_takeMost_20 hW    ih t v1 v2 v3 v4 H
def F_X8_takeMost (t : TS) : Option (Int32 × TS) := (gd (((1 : Int32) <<< ((tI t 801 0) &&& 31)) - 1) (tL t 2804 0) (nxt (uA t 2804 0 (((1 : Int32) <<< ((tI t 801 0) &&& 31)) - 1).toNatClampNeg 0) (fun t21 => (B_X8_takeMost_20  10000 t21 ((((1 : Int32) <<< ((tI t 801 0) &&& 31)) - 1) - 1)))))
theorem TF_X8_takeMost {W : NW} {d : Nat} {t : TS} {Q : Option NV → TS → Prop} {bc bs : Nat} (hW : W.2.2.2 = mm_fx) (H : wp (F_X8_takeMost t) (fun r => Q (some (eI r.1)) r.2)) : nC W (d + 3) 51 [eR (some (8, 0))] t bc bs Q := by
  refine nC_in (d := (d + 2)) (T := tX8_takeMost) (ls := [some (eR (some (8, 0))), none, none, none, none]) rfl (Nat.le_of_ble_eq_true rfl) rfl (fun a0 e0 => ?_)
  unfold F_X8_takeMost at H
  refine nx_int (x := 1) rfl rfl ?_
  refine nx_ld rfl rfl rfl rfl ?_
  refine nx_getI rfl rfl rfl (by decide) ?_
  refine nx_ii rfl rfl ?_
  refine nx_int (x := 1) rfl rfl ?_
  refine nx_ii rfl rfl ?_
  refine nx_st (ls' := [some (eR (some (8, 0))), some (eI (((1 : Int32) <<< ((tI t 801 0) &&& 31)) - 1)), none, none, none]) rfl rfl rfl (Nat.le_of_ble_eq_true rfl) rfl ?_
  show nX _ _ _ _ _ _ 9 _ _ _ _ _
  refine nx_ld rfl rfl rfl rfl ?_
  refine nx_getFix rfl rfl rfl (by decide) (by rw [hW]; rfl) rfl ?_
  refine nx_ld rfl rfl rfl rfl ?_
  refine nx_int (x := 0) rfl rfl ?_
  refine nx_iast (p := (2804, 0)) rfl rfl (Nat.le_of_ble_eq_true rfl) (Nat.le_of_ble_eq_true rfl) rfl H (fun t21 H => ?_)
  refine nx_ld rfl rfl rfl rfl ?_
  refine nx_int (x := 1) rfl rfl ?_
  refine nx_ii rfl rfl ?_
  show nX _ _ _ _ _ _ 19 _ _ _ _ _
  refine nx_st (ls' := [some (eR (some (8, 0))), some (eI (((1 : Int32) <<< ((tI t 801 0) &&& 31)) - 1)), some (eI ((((1 : Int32) <<< ((tI t 801 0) &&& 31)) - 1) - 1)), none, none]) rfl rfl rfl (Nat.le_of_ble_eq_true rfl) rfl ?_
  exact TB_X8_takeMost_20 hW    10000 _ _ _ _ _ H
def F_X9_init (t : TS) (i0 : Nat) (x1 : Int32) (x2 : Int32) (x3 : Int32) (o4 : Option Nat) (x5 : Int32) : Option TS := (nxt (uI t 900 i0 x1) (fun t21 => (nxt (uI t21 901 i0 x2) (fun t22 => (nxt (uI t22 902 i0 x3) (fun t23 => (nxt (uR t23 903 i0 o4) (fun t24 => (nxt (uI t24 904 i0 x5) (fun t25 => (some t25)))))))))))
theorem TF_X9_init {W : NW} {d : Nat} {t : TS} {i0 : Nat} {x1 : Int32} {x2 : Int32} {x3 : Int32} {o4 : Option Nat} {x5 : Int32} {Q : Option NV → TS → Prop} {bc bs : Nat} (hW : W.2.2.2 = mm_fx) (H : wp (F_X9_init t i0 x1 x2 x3 o4 x5) (fun r => Q none r)) : nC W (d + 1) 54 [eR (some (9, i0)), eI x1, eI x2, eI x3, eO 2700 o4, eI x5] t bc bs Q := by
  refine nC_in (d := d) (T := tX9_init) (ls := [some (eR (some (9, i0))), some (eI x1), some (eI x2), some (eI x3), some (eO 2700 o4), some (eI x5)]) rfl (Nat.le_of_ble_eq_true rfl) rfl (fun a0 e0 => ?_)
  unfold F_X9_init at H
  refine nx_ld rfl rfl rfl rfl ?_
  refine nx_objI rfl rfl (Nat.le_of_ble_eq_true rfl) ?_
  refine nx_ld rfl rfl rfl rfl ?_
  refine nx_ld rfl rfl rfl rfl ?_
  refine nx_putI rfl rfl rfl (by decide) H (fun t21 H => ?_)
  refine nx_ld rfl rfl rfl rfl ?_
  refine nx_ld rfl rfl rfl rfl ?_
  show nX _ _ _ _ _ _ 11 _ _ _ _ _
  refine nx_putI rfl rfl rfl (by decide) H (fun t22 H => ?_)
  refine nx_ld rfl rfl rfl rfl ?_
  refine nx_ld rfl rfl rfl rfl ?_
  refine nx_putI rfl rfl rfl (by decide) H (fun t23 H => ?_)
  refine nx_ld rfl rfl rfl rfl ?_
  refine nx_ld rfl rfl rfl rfl ?_
  refine nx_putR (f := 903) (o := o4) rfl rfl rfl (by decide) (by rw [hW]; rfl) rfl (by decide) H (fun t24 H => ?_)
  refine nx_ld rfl rfl rfl rfl ?_
  show nX _ _ _ _ _ _ 26 _ _ _ _ _
  refine nx_ld rfl rfl rfl rfl ?_
  refine nx_putI rfl rfl rfl (by decide) H (fun t25 H => ?_)
  exact nx_rv rfl rfl H
def F_X9_use (t : TS) (i0 : Nat) : Option Int32 := (some ((irm (tI t 900 i0) 10)))
theorem TF_X9_use {W : NW} {d : Nat} {t : TS} {i0 : Nat} {Q : Option NV → TS → Prop} {bc bs : Nat} (hW : W.2.2.2 = mm_fx) (H : wp (F_X9_use t i0) (fun r => Q (some (eI r)) t)) : nC W (d + 1) 55 [eR (some (9, i0))] t bc bs Q := by
  refine nC_in (d := d) (T := tX9_use) (ls := [some (eR (some (9, i0)))]) rfl (Nat.le_of_ble_eq_true rfl) rfl (fun a0 e0 => ?_)
  unfold F_X9_use at H
  refine nx_ld rfl rfl rfl rfl ?_
  refine nx_getI rfl rfl rfl (by decide) ?_
  refine nx_int (x := 10) rfl rfl ?_
  refine nx_idivL rfl rfl (by decide) ?_
  exact nx_ri rfl rfl H
def F_X10_init (t : TS) (i0 : Nat) : Option TS := (gE (tE t 3004 i0) (nxt (uN t 3004 i0 60) (fun t21 => (nxt (uR t21 1004 i0 (some i0)) (fun t22 => (some t22))))))
theorem TF_X10_init {W : NW} {d : Nat} {t : TS} {i0 : Nat} {Q : Option NV → TS → Prop} {bc bs : Nat} (hW : W.2.2.2 = (fun _ => false)) (H : wp (F_X10_init t i0) (fun r => Q none r)) : nC W (d + 1) 56 [eR (some (10, i0))] t (bc + 1) (bs + 60) Q := by
  refine nC_in (d := d) (T := tX10_init) (ls := [some (eR (some (10, i0)))]) rfl (Nat.le_of_ble_eq_true rfl) rfl (fun a0 e0 => ?_)
  unfold F_X10_init at H
  refine nx_ld rfl rfl rfl rfl ?_
  refine nx_objI rfl rfl (Nat.le_of_ble_eq_true rfl) ?_
  refine nx_ld rfl rfl rfl rfl ?_
  refine nx_int (x := 60) rfl rfl ?_
  refine nx_newaL 3004 i0 60 rfl rfl (Nat.le_of_ble_eq_true rfl) (Nat.le_of_ble_eq_true rfl) rfl rfl (by decide) (Nat.le_of_ble_eq_true rfl) (by omega) (by omega) H (fun t21 H => ?_)
  refine nx_eq (bc' := bc) (bs' := bs) (by omega) (by omega) ?_
  refine nx_putR (f := 1004) (o := (some i0)) rfl rfl rfl (by decide) (by rw [hW]) rfl (by decide) H (fun t22 H => ?_)
  exact nx_rv rfl rfl H
def B_X10_hold_10 (t : TS) (v0 : Nat) (v1 : Option Nat) (s0 : Int32) (s1 : Nat) : Option TS := (nxt (uI t 1000 s1 s0) (fun t21 => (nxt (uR t21 1001 v0 v1) (fun t22 => (some t22)))))
theorem TB_X10_hold_10 {W : NW} {d : Nat} {Q : Option NV → TS → Prop} {a0 : Nat → Nat → Nat} {e0 : Nat → Nat → Bool} {bc bs : Nat} (hW : W.2.2.2 = mm_fx) : ∀ (t : TS) (v0 : Nat) (v1 : Option Nat) (s0 : Int32) (s1 : Nat), wp (B_X10_hold_10 t v0 v1 s0 s1) (fun r => Q none r) → nX W d tX10_hold Q a0 e0 10 [some (eR (some (10, v0))), some (eO 1 v1)] [eI s0, eR (some (10, s1))] t bc bs := by
  intro t v0 v1 s0 s1 H
  unfold B_X10_hold_10 at H
  refine nx_putI rfl rfl rfl (by decide) H (fun t21 H => ?_)
  refine nx_ld rfl rfl rfl rfl ?_
  refine nx_ld rfl rfl rfl rfl ?_
  refine nx_putR (f := 1001) (o := v1) rfl rfl rfl (by decide) (by rw [hW]; rfl) rfl (by decide) H (fun t22 H => ?_)
  exact nx_rv rfl rfl H
def F_X10_hold (t : TS) (i0 : Nat) (o1 : Option Nat) : Option TS := (oc o1 (B_X10_hold_10  t i0 none 0 i0) (fun j21 => (B_X10_hold_10  t i0 (some j21) 1 i0)))
theorem TF_X10_hold {W : NW} {d : Nat} {t : TS} {i0 : Nat} {o1 : Option Nat} {Q : Option NV → TS → Prop} {bc bs : Nat} (hW : W.2.2.2 = mm_fx) (H : wp (F_X10_hold t i0 o1) (fun r => Q none r)) : nC W (d + 1) 57 [eR (some (10, i0)), eO 1 o1] t bc bs Q := by
  refine nC_in (d := d) (T := tX10_hold) (ls := [some (eR (some (10, i0))), some (eO 1 o1)]) rfl (Nat.le_of_ble_eq_true rfl) rfl (fun a0 e0 => ?_)
  unfold F_X10_hold at H
  refine nx_ld rfl rfl rfl rfl ?_
  refine nx_ld rfl rfl rfl rfl ?_
  rcases o1 with _ | j21
  · replace H := oc_no H
    refine nx_non0 (c := 1) rfl rfl ?_
    refine nx_int (x := 0) rfl rfl ?_
    refine nx_goto rfl rfl ?_
    exact TB_X10_hold_10 hW    _ _ _ _ _ H
  replace H := oc_so H
  refine nx_non1 rfl rfl ?_
  refine nx_int (x := 1) rfl rfl ?_
  exact TB_X10_hold_10 hW    _ _ ((some j21)) _ _ H
def BB_X10_holdRow_22 (k22 : TS → Nat → Int32 → Option TS) (t : TS) (v0 : Nat) (v3 : Int32) : Option TS := (if (Int32.ofNat (tL t 3004 v0)) ≤ v3 then (some t) else (gd v3 (tL t 3004 v0) (nxt (uJ t 3004 v0 v3.toNatClampNeg 0) (fun t21 => (k22 t21 v0 (v3 + 1))))))
theorem TBB_X10_holdRow_22 {W : NW} {d : Nat} {Q : Option NV → TS → Prop} {a0 : Nat → Nat → Nat} {e0 : Nat → Nat → Bool} {k22 : TS → Nat → Int32 → Option TS} {bc bs : Nat} (hW : W.2.2.2 = mm_fx) (hk22 : ∀ (t : TS) (v0 : Nat) (v1 : Int32) (v2 : Int32) (v3 : Int32), wp (k22 t v0 v3) (fun r => Q none r) → nX W d tX10_holdRow Q a0 e0 22 [some (eR (some (10, v0))), some (eI v1), some (eI v2), some (eI v3)] [] t bc bs) : ∀ (t : TS) (v0 : Nat) (v1 : Int32) (v2 : Int32) (v3 : Int32), wp (BB_X10_holdRow_22 k22 t v0 v3) (fun r => Q none r) → nX W d tX10_holdRow Q a0 e0 22 [some (eR (some (10, v0))), some (eI v1), some (eI v2), some (eI v3)] [] t bc bs := by
  intro t v0 v1 v2 v3 H
  unfold BB_X10_holdRow_22 at H
  refine nx_ld rfl rfl rfl rfl ?_
  refine nx_ld rfl rfl rfl rfl ?_
  refine nx_getFix rfl rfl rfl (by decide) (by rw [hW]; rfl) rfl ?_
  refine nx_alen (p := (3004, v0)) rfl rfl (Nat.le_of_ble_eq_true rfl) (Nat.le_of_ble_eq_true rfl) (Nat.le_of_ble_eq_true rfl) ?_
  refine nx_icmp rfl rfl (by rfl) H (fun H => ?_) (fun H => ?_)
  · exact nx_rv rfl rfl H
  refine nx_ld rfl rfl rfl rfl ?_
  refine nx_getFix rfl rfl rfl (by decide) (by rw [hW]; rfl) rfl ?_
  refine nx_ld rfl rfl rfl rfl ?_
  refine nx_long (x := 0) rfl rfl ?_
  refine nx_last (c := 3004) (i := v0) rfl rfl (Nat.le_of_ble_eq_true rfl) (Nat.le_of_ble_eq_true rfl) rfl H (fun t21 H => ?_)
  refine nx_iinc2 1 (ls' := [some (eR (some (10, v0))), some (eI v1), some (eI v2), some (eI (v3 + 1))]) rfl rfl rfl rfl rfl ?_
  refine nx_goto rfl rfl ?_
  exact hk22 _ _ _ _ _ H
def B_X10_holdRow_22 : Nat → TS → Nat → Int32 → Option TS
  | 0 => fun _ _ _ => none
  | n + 1 => fun t v0 v3 => BB_X10_holdRow_22 (B_X10_holdRow_22 n) t v0 v3
theorem TB_X10_holdRow_22 {W : NW} {d : Nat} {Q : Option NV → TS → Prop} {a0 : Nat → Nat → Nat} {e0 : Nat → Nat → Bool} {bc bs : Nat} (hW : W.2.2.2 = mm_fx) : ∀ (n : Nat) (t : TS) (v0 : Nat) (v1 : Int32) (v2 : Int32) (v3 : Int32), wp (B_X10_holdRow_22 n t v0 v3) (fun r => Q none r) → nX W d tX10_holdRow Q a0 e0 22 [some (eR (some (10, v0))), some (eI v1), some (eI v2), some (eI v3)] [] t bc bs := by
  intro n
  induction n with
  | zero => intro t v0 v1 v2 v3 H; exact (wp_none H).elim
  | succ n ih =>
    intro t v0 v1 v2 v3 H
    exact TBB_X10_holdRow_22 hW    ih t v0 v1 v2 v3 H
def F_X10_holdRow (t : TS) (i0 : Nat) (x1 : Int32) (x2 : Int32) : Option TS := (nxt (uI t 1000 i0 2) (fun t21 => (nxt (uR t21 1001 i0 none) (fun t22 => (nxt (uI t22 1002 i0 x1) (fun t23 => (nxt (uI t23 1003 i0 x2) (fun t24 => (B_X10_holdRow_22  10000 t24 i0 0)))))))))
theorem TF_X10_holdRow {W : NW} {d : Nat} {t : TS} {i0 : Nat} {x1 : Int32} {x2 : Int32} {Q : Option NV → TS → Prop} {bc bs : Nat} (hW : W.2.2.2 = mm_fx) (H : wp (F_X10_holdRow t i0 x1 x2) (fun r => Q none r)) : nC W (d + 1) 58 [eR (some (10, i0)), eI x1, eI x2] t bc bs Q := by
  refine nC_in (d := d) (T := tX10_holdRow) (ls := [some (eR (some (10, i0))), some (eI x1), some (eI x2), none]) rfl (Nat.le_of_ble_eq_true rfl) rfl (fun a0 e0 => ?_)
  unfold F_X10_holdRow at H
  refine nx_ld rfl rfl rfl rfl ?_
  refine nx_int (x := 2) rfl rfl ?_
  refine nx_putI rfl rfl rfl (by decide) H (fun t21 H => ?_)
  refine nx_ld rfl rfl rfl rfl ?_
  refine nx_nul 1 rfl rfl ?_
  refine nx_putR (f := 1001) (o := none) rfl rfl rfl (by decide) (by rw [hW]; rfl) rfl (by decide) H (fun t22 H => ?_)
  refine nx_ld rfl rfl rfl rfl ?_
  show nX _ _ _ _ _ _ 11 _ _ _ _ _
  refine nx_ld rfl rfl rfl rfl ?_
  refine nx_putI rfl rfl rfl (by decide) H (fun t23 H => ?_)
  refine nx_ld rfl rfl rfl rfl ?_
  refine nx_ld rfl rfl rfl rfl ?_
  refine nx_putI rfl rfl rfl (by decide) H (fun t24 H => ?_)
  refine nx_int (x := 0) rfl rfl ?_
  refine nx_st (ls' := [some (eR (some (10, i0))), some (eI x1), some (eI x2), some (eI 0)]) rfl rfl rfl (Nat.le_of_ble_eq_true rfl) rfl ?_
  exact TB_X10_holdRow_22 hW    10000 _ _ _ _ _ H
def F_X10_isRowOf (t : TS) (i0 : Nat) (x1 : Int32) : Option Int32 := (if ¬ (tI t 1000 i0) = 2 then (some (0)) else (if ¬ (tI t 1002 i0) = x1 then (some (0)) else (some (1))))
theorem TF_X10_isRowOf {W : NW} {d : Nat} {t : TS} {i0 : Nat} {x1 : Int32} {Q : Option NV → TS → Prop} {bc bs : Nat} (hW : W.2.2.2 = mm_fx) (H : wp (F_X10_isRowOf t i0 x1) (fun r => Q (some (eI r)) t)) : nC W (d + 1) 59 [eR (some (10, i0)), eI x1] t bc bs Q := by
  refine nC_in (d := d) (T := tX10_isRowOf) (ls := [some (eR (some (10, i0))), some (eI x1)]) rfl (Nat.le_of_ble_eq_true rfl) rfl (fun a0 e0 => ?_)
  unfold F_X10_isRowOf at H
  refine nx_ld rfl rfl rfl rfl ?_
  refine nx_getI rfl rfl rfl (by decide) ?_
  refine nx_int (x := 2) rfl rfl ?_
  refine nx_icmp rfl rfl (by rfl) H (fun H => ?_) (fun H => ?_)
  · refine nx_int (x := 0) rfl rfl ?_
    exact nx_rzl rfl rfl (by decide) H
  refine nx_ld rfl rfl rfl rfl ?_
  refine nx_getI rfl rfl rfl (by decide) ?_
  refine nx_ld rfl rfl rfl rfl ?_
  refine nx_icmp rfl rfl (by rfl) H (fun H => ?_) (fun H => ?_)
  · refine nx_int (x := 0) rfl rfl ?_
    exact nx_rzl rfl rfl (by decide) H
  refine nx_int (x := 1) rfl rfl ?_
  refine nx_goto rfl rfl ?_
  exact nx_rzl rfl rfl (by decide) H
def F_X10_has (t : TS) (i0 : Nat) (x1 : Int32) (x2 : Int32) : Option Int32 := (if ¬ (tI t 1000 i0) = 2 then (some (0)) else (if x1 < 0 then (some (0)) else (if x2 < 0 then (some (0)) else (if (tI t 1003 i0) < x1 then (some (0)) else (if ((tI t 1003 i0) - x1) < x2 then (some (0)) else (some (1)))))))
theorem TF_X10_has {W : NW} {d : Nat} {t : TS} {i0 : Nat} {x1 : Int32} {x2 : Int32} {Q : Option NV → TS → Prop} {bc bs : Nat} (hW : W.2.2.2 = mm_fx) (H : wp (F_X10_has t i0 x1 x2) (fun r => Q (some (eI r)) t)) : nC W (d + 1) 60 [eR (some (10, i0)), eI x1, eI x2] t bc bs Q := by
  refine nC_in (d := d) (T := tX10_has) (ls := [some (eR (some (10, i0))), some (eI x1), some (eI x2)]) rfl (Nat.le_of_ble_eq_true rfl) rfl (fun a0 e0 => ?_)
  unfold F_X10_has at H
  refine nx_ld rfl rfl rfl rfl ?_
  refine nx_getI rfl rfl rfl (by decide) ?_
  refine nx_int (x := 2) rfl rfl ?_
  refine nx_icmp rfl rfl (by rfl) H (fun H => ?_) (fun H => ?_)
  · refine nx_int (x := 0) rfl rfl ?_
    exact nx_rzl rfl rfl (by decide) H
  refine nx_ld rfl rfl rfl rfl ?_
  refine nx_if rfl rfl (by rfl) H (fun H => ?_) (fun H => ?_)
  · refine nx_int (x := 0) rfl rfl ?_
    exact nx_rzl rfl rfl (by decide) H
  refine nx_ld rfl rfl rfl rfl ?_
  refine nx_if rfl rfl (by rfl) H (fun H => ?_) (fun H => ?_)
  · refine nx_int (x := 0) rfl rfl ?_
    exact nx_rzl rfl rfl (by decide) H
  refine nx_ld rfl rfl rfl rfl ?_
  refine nx_ld rfl rfl rfl rfl ?_
  refine nx_getI rfl rfl rfl (by decide) ?_
  refine nx_icmp rfl rfl (by rfl) H (fun H => ?_) (fun H => ?_)
  · refine nx_int (x := 0) rfl rfl ?_
    exact nx_rzl rfl rfl (by decide) H
  refine nx_ld rfl rfl rfl rfl ?_
  refine nx_ld rfl rfl rfl rfl ?_
  refine nx_getI rfl rfl rfl (by decide) ?_
  refine nx_ld rfl rfl rfl rfl ?_
  refine nx_ii rfl rfl ?_
  refine nx_icmp rfl rfl (by rfl) H (fun H => ?_) (fun H => ?_)
  · refine nx_int (x := 0) rfl rfl ?_
    exact nx_rzl rfl rfl (by decide) H
  refine nx_int (x := 1) rfl rfl ?_
  refine nx_goto rfl rfl ?_
  exact nx_rzl rfl rfl (by decide) H
def F_X10_fitted (t : TS) (i0 : Nat) (x1 : Int64) : Option Int64 := (swi (tI t 1002 i0) 0 [(some (((x1.toInt32).toInt8.toInt32).toInt64)), (some (((x1.toInt32).toInt16.toInt32).toInt64)), (some ((x1.toInt32).toInt64)), (some x1), (if (lg_cmp x1 0) = 0 then (some 0) else (some 1))] (some x1))
theorem TF_X10_fitted {W : NW} {d : Nat} {t : TS} {i0 : Nat} {x1 : Int64} {Q : Option NV → TS → Prop} {bc bs : Nat} (hW : W.2.2.2 = mm_fx) (H : wp (F_X10_fitted t i0 x1) (fun r => Q (some (eJ r)) t)) : nC W (d + 1) 61 [eR (some (10, i0)), eJ x1] t bc bs Q := by
  refine nC_in (d := d) (T := tX10_fitted) (ls := [some (eR (some (10, i0))), some (eJ x1), none]) rfl (Nat.le_of_ble_eq_true rfl) rfl (fun a0 e0 => ?_)
  unfold F_X10_fitted at H
  refine nx_ld rfl rfl rfl rfl ?_
  refine nx_getI rfl rfl rfl (by decide) ?_
  refine nx_tsw rfl rfl (by decide) (by decide) (by decide) H (fun H => ?_) ?_
  · show nX _ _ _ _ _ _ 66 _ _ _ _ _
    refine nx_ld rfl rfl rfl rfl ?_
    exact nx_rj rfl rfl H
  refine ⟨fun H => ?_, fun H => ?_, fun H => ?_, fun H => ?_, fun H => ?_, trivial⟩
  · show nX _ _ _ _ _ _ 40 _ _ _ _ _
    refine nx_ld rfl rfl rfl rfl ?_
    refine nx_l2i rfl rfl ?_
    refine nx_i1 rfl rfl ?_
    refine nx_i2l rfl rfl ?_
    exact nx_rj rfl rfl H
  · show nX _ _ _ _ _ _ 45 _ _ _ _ _
    refine nx_ld rfl rfl rfl rfl ?_
    refine nx_l2i rfl rfl ?_
    refine nx_i1 rfl rfl ?_
    refine nx_i2l rfl rfl ?_
    exact nx_rj rfl rfl H
  · show nX _ _ _ _ _ _ 50 _ _ _ _ _
    refine nx_ld rfl rfl rfl rfl ?_
    refine nx_l2i rfl rfl ?_
    refine nx_i2l rfl rfl ?_
    exact nx_rj rfl rfl H
  · show nX _ _ _ _ _ _ 66 _ _ _ _ _
    refine nx_ld rfl rfl rfl rfl ?_
    exact nx_rj rfl rfl H
  · show nX _ _ _ _ _ _ 54 _ _ _ _ _
    refine nx_ld rfl rfl rfl rfl ?_
    refine nx_long (x := 0) rfl rfl ?_
    refine nx_lcmp rfl rfl ?_
    refine nx_if rfl rfl (by rfl) H (fun H => ?_) (fun H => ?_)
    · refine nx_long (x := 0) rfl rfl ?_
      exact nx_rj rfl rfl H
    refine nx_long (x := 1) rfl rfl ?_
    refine nx_goto rfl rfl ?_
    exact nx_rj rfl rfl H
def F_X11_init (t : TS) (i0 : Nat) (x1 : Int32) (o2 : Option Nat) (x3 : Int32) (x4 : Int32) (x5 : Int32) : Option TS := (nxt (uI t 1106 i0 1000000) (fun t21 => (nxt (uI t21 1100 i0 x1) (fun t22 => (nxt (uR t22 1101 i0 o2) (fun t23 => (nxt (uI t23 1102 i0 x3) (fun t24 => (nxt (uI t24 1103 i0 x4) (fun t25 => (nxt (uI t25 1104 i0 x5) (fun t26 => (some t26)))))))))))))
theorem TF_X11_init {W : NW} {d : Nat} {t : TS} {i0 : Nat} {x1 : Int32} {o2 : Option Nat} {x3 : Int32} {x4 : Int32} {x5 : Int32} {Q : Option NV → TS → Prop} {bc bs : Nat} (hW : W.2.2.2 = mm_fx) (H : wp (F_X11_init t i0 x1 o2 x3 x4 x5) (fun r => Q none r)) : nC W (d + 1) 62 [eR (some (11, i0)), eI x1, eO 1 o2, eI x3, eI x4, eI x5] t bc bs Q := by
  refine nC_in (d := d) (T := tX11_init) (ls := [some (eR (some (11, i0))), some (eI x1), some (eO 1 o2), some (eI x3), some (eI x4), some (eI x5)]) rfl (Nat.le_of_ble_eq_true rfl) rfl (fun a0 e0 => ?_)
  unfold F_X11_init at H
  refine nx_ld rfl rfl rfl rfl ?_
  refine nx_objI rfl rfl (Nat.le_of_ble_eq_true rfl) ?_
  refine nx_ld rfl rfl rfl rfl ?_
  refine nx_int (x := 1000000) rfl rfl ?_
  refine nx_putI rfl rfl rfl (by decide) H (fun t21 H => ?_)
  refine nx_ld rfl rfl rfl rfl ?_
  refine nx_ld rfl rfl rfl rfl ?_
  show nX _ _ _ _ _ _ 12 _ _ _ _ _
  refine nx_putI rfl rfl rfl (by decide) H (fun t22 H => ?_)
  refine nx_ld rfl rfl rfl rfl ?_
  refine nx_ld rfl rfl rfl rfl ?_
  refine nx_putR (f := 1101) (o := o2) rfl rfl rfl (by decide) (by rw [hW]; rfl) rfl (by decide) H (fun t23 H => ?_)
  refine nx_ld rfl rfl rfl rfl ?_
  refine nx_ld rfl rfl rfl rfl ?_
  refine nx_putI rfl rfl rfl (by decide) H (fun t24 H => ?_)
  refine nx_ld rfl rfl rfl rfl ?_
  show nX _ _ _ _ _ _ 26 _ _ _ _ _
  refine nx_ld rfl rfl rfl rfl ?_
  refine nx_putI rfl rfl rfl (by decide) H (fun t25 H => ?_)
  refine nx_ld rfl rfl rfl rfl ?_
  refine nx_ld rfl rfl rfl rfl ?_
  refine nx_putI rfl rfl rfl (by decide) H (fun t26 H => ?_)
  exact nx_rv rfl rfl H
def B_X12_init_200 (t : TS) : Option TS := (nxt (tR t 1208 0) (fun o21 => (oc o21 none (fun j22 => (gd (3 : Int32) (tL t 3208 j22) (nxt (uA t 3208 j22 (3 : Int32).toNatClampNeg 1) (fun t23 => (nxt (tR t23 1208 0) (fun o24 => (oc o24 none (fun j25 => (gd (6 : Int32) (tL t23 3208 j25) (nxt (uA t23 3208 j25 (6 : Int32).toNatClampNeg 1) (fun t26 => (some t26)))))))))))))))
theorem TB_X12_init_200 {W : NW} {d : Nat} {Q : Option NV → TS → Prop} {a0 : Nat → Nat → Nat} {e0 : Nat → Nat → Bool} {bc bs : Nat} (hW : W.2.2.2 = (fun _ => false)) : ∀ (t : TS) (v1 : Int32), wp (B_X12_init_200 t) (fun r => Q none r) → nX W (d + 1) tX12_init Q a0 e0 200 [some (eR (some (12, 0))), some (eI v1)] [] t (bc) (bs) := by
  intro t v1 H
  unfold B_X12_init_200 at H
  refine nx_ld rfl rfl rfl rfl ?_
  refine nx_getR rfl rfl rfl (by decide) rfl H (fun o21 H => ?_)
  refine nx_int (x := 3) rfl rfl ?_
  refine nx_int (x := 1) rfl rfl ?_
  rcases o21 with _ | j22
  · exact (wp_none (oc_no H)).elim
  replace H := oc_so H
  refine nx_iast (p := (3208, j22)) rfl rfl (Nat.le_of_ble_eq_true rfl) (Nat.le_of_ble_eq_true rfl) rfl H (fun t23 H => ?_)
  refine nx_ld rfl rfl rfl rfl ?_
  refine nx_getR rfl rfl rfl (by decide) rfl H (fun o24 H => ?_)
  show nX _ _ _ _ _ _ 211 _ _ _ _ _
  refine nx_int (x := 6) rfl rfl ?_
  refine nx_int (x := 1) rfl rfl ?_
  rcases o24 with _ | j25
  · exact (wp_none (oc_no H)).elim
  replace H := oc_so H
  refine nx_iast (p := (3208, j25)) rfl rfl (Nat.le_of_ble_eq_true rfl) (Nat.le_of_ble_eq_true rfl) rfl H (fun t26 H => ?_)
  exact nx_rv rfl rfl H
def BB_X12_init_172 (k172 : TS → Int32 → Option TS) (t : TS) (v1 : Int32) : Option TS := (nxt (tR t 1219 0) (fun o21 => (oc o21 none (fun j22 => (if (Int32.ofNat (tL t 3219 j22)) ≤ v1 then (B_X12_init_200  t) else (nxt (tR t 1219 0) (fun o23 => (gE (tE t 10 v1.toNatClampNeg) (nxt (uO t 10 v1.toNatClampNeg) (fun t24 => (Option.bind (F_X10_init t24 v1.toNatClampNeg) (fun r25 => (oc o23 none (fun j26 => (gd v1 (tL r25 3219 j26) (nxt (uQ r25 3219 j26 v1.toNatClampNeg (some v1.toNatClampNeg)) (fun t27 => (k172 t27 (v1 + 1)))))))))))))))))))
theorem TBB_X12_init_172 {W : NW} {d : Nat} {Q : Option NV → TS → Prop} {a0 : Nat → Nat → Nat} {e0 : Nat → Nat → Bool} {k172 : TS → Int32 → Option TS} {bc bs : Nat} (hW : W.2.2.2 = (fun _ => false)) (hk172 : ∀ (b' s' : Nat) (_ : bc ≤ b') (_ : bs ≤ s') (t : TS) (v1 : Int32), wp (k172 t v1) (fun r => Q none r) → nX W (d + 1) tX12_init Q a0 e0 172 [some (eR (some (12, 0))), some (eI v1)] [] t (b' + 2) (s' + 65)) : ∀ (t : TS) (v1 : Int32), wp (BB_X12_init_172 k172 t v1) (fun r => Q none r) → nX W (d + 1) tX12_init Q a0 e0 172 [some (eR (some (12, 0))), some (eI v1)] [] t (bc + 4) (bs + 130) := by
  intro t v1 H
  unfold BB_X12_init_172 at H
  refine nx_ld rfl rfl rfl rfl ?_
  refine nx_ld rfl rfl rfl rfl ?_
  refine nx_getR rfl rfl rfl (by decide) rfl H (fun o21 H => ?_)
  rcases o21 with _ | j22
  · exact (wp_none (oc_no H)).elim
  replace H := oc_so H
  refine nx_alen (p := (3219, j22)) rfl rfl (Nat.le_of_ble_eq_true rfl) (Nat.le_of_ble_eq_true rfl) (Nat.le_of_ble_eq_true rfl) ?_
  refine nx_icmp rfl rfl (by rfl) H (fun H => ?_) (fun H => ?_)
  · refine nx_eq (bc' := (bc + 4) + 0) (bs' := (bs + 130) + 0) (by omega) (by omega) ?_
    exact TB_X12_init_200 hW    _ _ H
  refine nx_ld rfl rfl rfl rfl ?_
  refine nx_getR rfl rfl rfl (by decide) rfl H (fun o23 H => ?_)
  refine nx_ld rfl rfl rfl rfl ?_
  refine nx_new v1.toNatClampNeg (n := 5) rfl rfl (by decide) (fun f _ => by rw [hW]) (by omega) (by omega) H (fun t24 H => ?_)
  refine nx_eq (bc' := bc + 3) (bs' := bs + 125) (by omega) (by omega) ?_
  refine nx_dup rfl rfl (Nat.ne_of_beq_eq_false rfl) ?_
  refine nx_aVVt 1 60 (as := []) (st' := [eR (some (10, v1.toNatClampNeg)), eI v1, eO 3219 o23]) rfl rfl (Nat.le_of_ble_eq_true rfl) rfl rfl (Nat.le_of_ble_eq_true rfl) (c0 := 10) rfl (by decide) (by omega) (by omega) H (fun Q H => TF_X10_init hW  H) (fun r25 H => ?_)
  refine nx_eq (bc' := bc + 2) (bs' := bs + 65) (by omega) (by omega) ?_
  rcases o23 with _ | j26
  · exact (wp_none (oc_no H)).elim
  replace H := oc_so H
  refine nx_aast (c := 3219) (i := j26) (e := 10) (o := (some v1.toNatClampNeg)) rfl rfl (Nat.le_of_ble_eq_true rfl) (Nat.le_of_ble_eq_true rfl) (Nat.le_of_ble_eq_true rfl) rfl (by decide) H (fun t27 H => ?_)
  show nX _ _ _ _ _ _ 194 _ _ _ _ _
  refine nx_iinc2 1 (ls' := [some (eR (some (12, 0))), some (eI (v1 + 1))]) rfl rfl rfl rfl rfl ?_
  refine nx_goto rfl rfl ?_
  refine nx_eq (bc' := (bc) + 2) (bs' := (bs) + 65) (by omega) (by omega) ?_
  exact hk172 (bc) (bs) (by omega) (by omega) _ _ H
def B_X12_init_172 : Nat → TS → Int32 → Option TS
  | 0 => fun _ _ => none
  | n + 1 => fun t v1 => BB_X12_init_172 (B_X12_init_172 n) t v1
theorem TB_X12_init_172 {W : NW} {d : Nat} {Q : Option NV → TS → Prop} {a0 : Nat → Nat → Nat} {e0 : Nat → Nat → Bool} {bc bs : Nat} (hW : W.2.2.2 = (fun _ => false)) : ∀ (n : Nat) (b0 s0 : Nat) (_ : bc ≤ b0) (_ : bs ≤ s0) (t : TS) (v1 : Int32), wp (B_X12_init_172 n t v1) (fun r => Q none r) → nX W (d + 1) tX12_init Q a0 e0 172 [some (eR (some (12, 0))), some (eI v1)] [] t (b0 + 2 * n + 2) (s0 + 65 * n + 65) := by
  intro n
  induction n with
  | zero => intro b0 s0 g1 g2 t v1 H; exact (wp_none H).elim
  | succ n ih =>
    intro b0 s0 g1 g2 t v1 H
    refine nx_eq (bc' := (b0 + 2 * n) + 4) (bs' := (s0 + 65 * n) + 130) (by omega) (by omega) ?_
    refine TBB_X12_init_172 (bc := b0 + 2 * n) (bs := s0 + 65 * n) hW    (fun b' s' g3 g4 => ?_) t v1 H
    intro t v1 H
    refine nx_eq (bc' := (b' - 2 * n) + 2 * n + 2) (bs' := (s' - 65 * n) + 65 * n + 65) (by omega) (by omega) ?_
    exact ih (b' - 2 * n) (s' - 65 * n) (by omega) (by omega) t v1 H
def B_X12_init_170 (t : TS) : Option TS := (B_X12_init_172  8 t 0)
theorem TB_X12_init_170 {W : NW} {d : Nat} {Q : Option NV → TS → Prop} {a0 : Nat → Nat → Nat} {e0 : Nat → Nat → Bool} {bc bs : Nat} (hW : W.2.2.2 = (fun _ => false)) : ∀ (t : TS) (v1 : Int32), wp (B_X12_init_170 t) (fun r => Q none r) → nX W (d + 1) tX12_init Q a0 e0 170 [some (eR (some (12, 0))), some (eI v1)] [] t (bc + 18) (bs + 585) := by
  intro t v1 H
  unfold B_X12_init_170 at H
  refine nx_int (x := 0) rfl rfl ?_
  refine nx_st (ls' := [some (eR (some (12, 0))), some (eI 0)]) rfl rfl rfl (Nat.le_of_ble_eq_true rfl) rfl ?_
  refine nx_eq (bc' := (bc) + 2 * 8 + 2) (bs' := (bs) + 65 * 8 + 65) (by omega) (by omega) ?_
  exact TB_X12_init_172 (bc := bc) (bs := bs) hW    8 (bc) (bs) (by omega) (by omega) _ _ H
def BB_X12_init_142 (k142 : TS → Int32 → Option TS) (t : TS) (v1 : Int32) : Option TS := (nxt (tR t 1202 0) (fun o21 => (oc o21 none (fun j22 => (if (Int32.ofNat (tL t 3202 j22)) ≤ v1 then (B_X12_init_170  t) else (nxt (tR t 1202 0) (fun o23 => (gE (tE t 5 v1.toNatClampNeg) (nxt (uO t 5 v1.toNatClampNeg) (fun t24 => (Option.bind (F_X5_init t24 v1.toNatClampNeg) (fun r25 => (oc o23 none (fun j26 => (gd v1 (tL r25 3202 j26) (nxt (uQ r25 3202 j26 v1.toNatClampNeg (some v1.toNatClampNeg)) (fun t27 => (k142 t27 (v1 + 1)))))))))))))))))))
theorem TBB_X12_init_142 {W : NW} {d : Nat} {Q : Option NV → TS → Prop} {a0 : Nat → Nat → Nat} {e0 : Nat → Nat → Bool} {k142 : TS → Int32 → Option TS} {bc bs : Nat} (hW : W.2.2.2 = (fun _ => false)) (hk142 : ∀ (b' s' : Nat) (_ : bc ≤ b') (_ : bs ≤ s') (t : TS) (v1 : Int32), wp (k142 t v1) (fun r => Q none r) → nX W (d + 1) tX12_init Q a0 e0 142 [some (eR (some (12, 0))), some (eI v1)] [] t (b' + 18) (s' + 585)) : ∀ (t : TS) (v1 : Int32), wp (BB_X12_init_142 k142 t v1) (fun r => Q none r) → nX W (d + 1) tX12_init Q a0 e0 142 [some (eR (some (12, 0))), some (eI v1)] [] t (bc + 21) (bs + 601) := by
  intro t v1 H
  unfold BB_X12_init_142 at H
  refine nx_ld rfl rfl rfl rfl ?_
  refine nx_ld rfl rfl rfl rfl ?_
  refine nx_getR rfl rfl rfl (by decide) rfl H (fun o21 H => ?_)
  rcases o21 with _ | j22
  · exact (wp_none (oc_no H)).elim
  replace H := oc_so H
  refine nx_alen (p := (3202, j22)) rfl rfl (Nat.le_of_ble_eq_true rfl) (Nat.le_of_ble_eq_true rfl) (Nat.le_of_ble_eq_true rfl) ?_
  refine nx_icmp rfl rfl (by rfl) H (fun H => ?_) (fun H => ?_)
  · refine nx_eq (bc' := (bc + 3) + 18) (bs' := (bs + 16) + 585) (by omega) (by omega) ?_
    exact TB_X12_init_170 hW    _ _ H
  refine nx_ld rfl rfl rfl rfl ?_
  refine nx_getR rfl rfl rfl (by decide) rfl H (fun o23 H => ?_)
  refine nx_ld rfl rfl rfl rfl ?_
  refine nx_new v1.toNatClampNeg (n := 4) rfl rfl (by decide) (fun f _ => by rw [hW]) (by omega) (by omega) H (fun t24 H => ?_)
  refine nx_eq (bc' := bc + 20) (bs' := bs + 597) (by omega) (by omega) ?_
  refine nx_dup rfl rfl (Nat.ne_of_beq_eq_false rfl) ?_
  refine nx_aVVt 2 12 (as := []) (st' := [eR (some (5, v1.toNatClampNeg)), eI v1, eO 3202 o23]) rfl rfl (Nat.le_of_ble_eq_true rfl) rfl rfl (Nat.le_of_ble_eq_true rfl) (c0 := 5) rfl (by decide) (by omega) (by omega) H (fun Q H => TF_X5_init hW  H) (fun r25 H => ?_)
  refine nx_eq (bc' := bc + 18) (bs' := bs + 585) (by omega) (by omega) ?_
  rcases o23 with _ | j26
  · exact (wp_none (oc_no H)).elim
  replace H := oc_so H
  refine nx_aast (c := 3202) (i := j26) (e := 5) (o := (some v1.toNatClampNeg)) rfl rfl (Nat.le_of_ble_eq_true rfl) (Nat.le_of_ble_eq_true rfl) (Nat.le_of_ble_eq_true rfl) rfl (by decide) H (fun t27 H => ?_)
  show nX _ _ _ _ _ _ 164 _ _ _ _ _
  refine nx_iinc2 1 (ls' := [some (eR (some (12, 0))), some (eI (v1 + 1))]) rfl rfl rfl rfl rfl ?_
  refine nx_goto rfl rfl ?_
  refine nx_eq (bc' := (bc) + 18) (bs' := (bs) + 585) (by omega) (by omega) ?_
  exact hk142 (bc) (bs) (by omega) (by omega) _ _ H
def B_X12_init_142 : Nat → TS → Int32 → Option TS
  | 0 => fun _ _ => none
  | n + 1 => fun t v1 => BB_X12_init_142 (B_X12_init_142 n) t v1
theorem TB_X12_init_142 {W : NW} {d : Nat} {Q : Option NV → TS → Prop} {a0 : Nat → Nat → Nat} {e0 : Nat → Nat → Bool} {bc bs : Nat} (hW : W.2.2.2 = (fun _ => false)) : ∀ (n : Nat) (b0 s0 : Nat) (_ : bc ≤ b0) (_ : bs ≤ s0) (t : TS) (v1 : Int32), wp (B_X12_init_142 n t v1) (fun r => Q none r) → nX W (d + 1) tX12_init Q a0 e0 142 [some (eR (some (12, 0))), some (eI v1)] [] t (b0 + 3 * n + 18) (s0 + 16 * n + 585) := by
  intro n
  induction n with
  | zero => intro b0 s0 g1 g2 t v1 H; exact (wp_none H).elim
  | succ n ih =>
    intro b0 s0 g1 g2 t v1 H
    refine nx_eq (bc' := (b0 + 3 * n) + 21) (bs' := (s0 + 16 * n) + 601) (by omega) (by omega) ?_
    refine TBB_X12_init_142 (bc := b0 + 3 * n) (bs := s0 + 16 * n) hW    (fun b' s' g3 g4 => ?_) t v1 H
    intro t v1 H
    refine nx_eq (bc' := (b' - 3 * n) + 3 * n + 18) (bs' := (s' - 16 * n) + 16 * n + 585) (by omega) (by omega) ?_
    exact ih (b' - 3 * n) (s' - 16 * n) (by omega) (by omega) t v1 H
def B_X12_init_76 (t : TS) : Option TS := (gE (tE t 4 0) (nxt (uO t 4 0) (fun t21 => (Option.bind (F_X4_init t21) (fun r22 => (nxt (uR r22 1214 0 (some 0)) (fun t23 => (gE (tE t23 8 0) (nxt (uO t23 8 0) (fun t24 => (Option.bind (F_X8_init t24) (fun r25 => (nxt (uR r25 1215 0 (some 0)) (fun t26 => (gE (tE t26 2 0) (nxt (uO t26 2 0) (fun t27 => (Option.bind (F_X2_init t27) (fun r28 => (nxt (uR r28 1216 0 (some 0)) (fun t29 => (gE (tE t29 3 0) (nxt (uO t29 3 0) (fun t30 => (Option.bind (F_X3_init t30) (fun r31 => (nxt (uR r31 1217 0 (some 0)) (fun t32 => (gE (tE t32 0 0) (nxt (uO t32 0 0) (fun t33 => (Option.bind (F_X0_init t33) (fun r34 => (nxt (uR r34 1218 0 (some 0)) (fun t35 => (gE (tE t35 3219 0) (nxt (uN t35 3219 0 6) (fun t36 => (nxt (uR t36 1219 0 (some 0)) (fun t37 => (B_X12_init_142  6 t37 0)))))))))))))))))))))))))))))))))))))))))
theorem TB_X12_init_76 {W : NW} {d : Nat} {Q : Option NV → TS → Prop} {a0 : Nat → Nat → Nat} {e0 : Nat → Nat → Bool} {bc bs : Nat} (hW : W.2.2.2 = (fun _ => false)) : ∀ (t : TS) , wp (B_X12_init_76 t) (fun r => Q none r) → nX W (d + 1) tX12_init Q a0 e0 76 [some (eR (some (12, 0))), none] [] t (bc + 59) (bs + 1125) := by
  intro t H
  unfold B_X12_init_76 at H
  refine nx_ld rfl rfl rfl rfl ?_
  refine nx_new 0 (n := 6) rfl rfl (by decide) (fun f _ => by rw [hW]) (by omega) (by omega) H (fun t21 H => ?_)
  refine nx_eq (bc' := bc + 58) (bs' := bs + 1119) (by omega) (by omega) ?_
  refine nx_dup rfl rfl (Nat.ne_of_beq_eq_false rfl) ?_
  refine nx_aVVt 5 30 (as := []) (st' := [eR (some (4, 0)), eR (some (12, 0))]) rfl rfl (Nat.le_of_ble_eq_true rfl) rfl rfl (Nat.le_of_ble_eq_true rfl) (c0 := 4) rfl (by decide) (by omega) (by omega) H (fun Q H => TF_X4_init hW  H) (fun r22 H => ?_)
  refine nx_eq (bc' := bc + 53) (bs' := bs + 1089) (by omega) (by omega) ?_
  refine nx_putR (f := 1214) (o := (some 0)) rfl rfl rfl (by decide) (by rw [hW]) rfl (by decide) H (fun t23 H => ?_)
  refine nx_ld rfl rfl rfl rfl ?_
  refine nx_new 0 (n := 5) rfl rfl (by decide) (fun f _ => by rw [hW]) (by omega) (by omega) H (fun t24 H => ?_)
  refine nx_eq (bc' := bc + 52) (bs' := bs + 1084) (by omega) (by omega) ?_
  show nX _ _ _ _ _ _ 91 _ _ _ _ _
  refine nx_dup rfl rfl (Nat.ne_of_beq_eq_false rfl) ?_
  refine nx_aVVt 3 272 (as := []) (st' := [eR (some (8, 0)), eR (some (12, 0))]) rfl rfl (Nat.le_of_ble_eq_true rfl) rfl rfl (Nat.le_of_ble_eq_true rfl) (c0 := 8) rfl (by decide) (by omega) (by omega) H (fun Q H => TF_X8_init hW  H) (fun r25 H => ?_)
  refine nx_eq (bc' := bc + 49) (bs' := bs + 812) (by omega) (by omega) ?_
  refine nx_putR (f := 1215) (o := (some 0)) rfl rfl rfl (by decide) (by rw [hW]) rfl (by decide) H (fun t26 H => ?_)
  refine nx_ld rfl rfl rfl rfl ?_
  refine nx_new 0 (n := 5) rfl rfl (by decide) (fun f _ => by rw [hW]) (by omega) (by omega) H (fun t27 H => ?_)
  refine nx_eq (bc' := bc + 48) (bs' := bs + 807) (by omega) (by omega) ?_
  refine nx_dup rfl rfl (Nat.ne_of_beq_eq_false rfl) ?_
  refine nx_aVVt 4 40 (as := []) (st' := [eR (some (2, 0)), eR (some (12, 0))]) rfl rfl (Nat.le_of_ble_eq_true rfl) rfl rfl (Nat.le_of_ble_eq_true rfl) (c0 := 2) rfl (by decide) (by omega) (by omega) H (fun Q H => TF_X2_init hW  H) (fun r28 H => ?_)
  refine nx_eq (bc' := bc + 44) (bs' := bs + 767) (by omega) (by omega) ?_
  refine nx_putR (f := 1216) (o := (some 0)) rfl rfl rfl (by decide) (by rw [hW]) rfl (by decide) H (fun t29 H => ?_)
  show nX _ _ _ _ _ _ 109 _ _ _ _ _
  refine nx_ld rfl rfl rfl rfl ?_
  refine nx_new 0 (n := 6) rfl rfl (by decide) (fun f _ => by rw [hW]) (by omega) (by omega) H (fun t30 H => ?_)
  refine nx_eq (bc' := bc + 43) (bs' := bs + 761) (by omega) (by omega) ?_
  refine nx_dup rfl rfl (Nat.ne_of_beq_eq_false rfl) ?_
  refine nx_aVVt 4 48 (as := []) (st' := [eR (some (3, 0)), eR (some (12, 0))]) rfl rfl (Nat.le_of_ble_eq_true rfl) rfl rfl (Nat.le_of_ble_eq_true rfl) (c0 := 3) rfl (by decide) (by omega) (by omega) H (fun Q H => TF_X3_init hW  H) (fun r31 H => ?_)
  refine nx_eq (bc' := bc + 39) (bs' := bs + 713) (by omega) (by omega) ?_
  refine nx_putR (f := 1217) (o := (some 0)) rfl rfl rfl (by decide) (by rw [hW]) rfl (by decide) H (fun t32 H => ?_)
  refine nx_ld rfl rfl rfl rfl ?_
  refine nx_new 0 (n := 2) rfl rfl (by decide) (fun f _ => by rw [hW]) (by omega) (by omega) H (fun t33 H => ?_)
  refine nx_eq (bc' := bc + 38) (bs' := bs + 711) (by omega) (by omega) ?_
  refine nx_dup rfl rfl (Nat.ne_of_beq_eq_false rfl) ?_
  show nX _ _ _ _ _ _ 125 _ _ _ _ _
  refine nx_aVVt 1 24 (as := []) (st' := [eR (some (0, 0)), eR (some (12, 0))]) rfl rfl (Nat.le_of_ble_eq_true rfl) rfl rfl (Nat.le_of_ble_eq_true rfl) (c0 := 0) rfl (by decide) (by omega) (by omega) H (fun Q H => TF_X0_init hW  H) (fun r34 H => ?_)
  refine nx_eq (bc' := bc + 37) (bs' := bs + 687) (by omega) (by omega) ?_
  refine nx_putR (f := 1218) (o := (some 0)) rfl rfl rfl (by decide) (by rw [hW]) rfl (by decide) H (fun t35 H => ?_)
  refine nx_ld rfl rfl rfl rfl ?_
  refine nx_int (x := 6) rfl rfl ?_
  refine nx_newaL 3219 0 6 rfl rfl (Nat.le_of_ble_eq_true rfl) (Nat.le_of_ble_eq_true rfl) rfl rfl (by decide) (Nat.le_of_ble_eq_true rfl) (by omega) (by omega) H (fun t36 H => ?_)
  refine nx_eq (bc' := bc + 36) (bs' := bs + 681) (by omega) (by omega) ?_
  refine nx_putR (f := 1219) (o := (some 0)) rfl rfl rfl (by decide) (by rw [hW]) rfl (by decide) H (fun t37 H => ?_)
  refine nx_int (x := 0) rfl rfl ?_
  refine nx_st (ls' := [some (eR (some (12, 0))), some (eI 0)]) rfl rfl rfl (Nat.le_of_ble_eq_true rfl) rfl ?_
  refine nx_eq (bc' := (bc) + 3 * 6 + 18) (bs' := (bs) + 16 * 6 + 585) (by omega) (by omega) ?_
  exact TB_X12_init_142 (bc := bc) (bs := bs) hW    6 (bc) (bs) (by omega) (by omega) _ _ H
def F_X12_init (t : TS) : Option TS := (gE (tE t 3202 0) (nxt (uN t 3202 0 4) (fun t21 => (nxt (uR t21 1202 0 (some 0)) (fun t22 => (gE (tE t22 3203 0) (nxt (uN t22 3203 0 150) (fun t23 => (nxt (uR t23 1203 0 (some 0)) (fun t24 => (gE (tE t24 3206 0) (nxt (uN t24 3206 0 200) (fun t25 => (nxt (uR t25 1206 0 (some 0)) (fun t26 => (gE (tE t26 3208 0) (nxt (uN t26 3208 0 9) (fun t27 => (nxt (uR t27 1208 0 (some 0)) (fun t28 => (gE (tE t28 3209 0) (nxt (uN t28 3209 0 150) (fun t29 => (nxt (uR t29 1209 0 (some 0)) (fun t30 => (gE (tE t30 3210 0) (nxt (uN t30 3210 0 4) (fun t31 => (nxt (uR t31 1210 0 (some 0)) (fun t32 => (gE (tE t32 3211 0) (nxt (uN t32 3211 0 16) (fun t33 => (nxt (uR t33 1211 0 (some 0)) (fun t34 => (gE (tE t34 7 0) (nxt (uO t34 7 0) (fun t35 => (Option.bind (F_X7_init t35) (fun r36 => (nxt (uR r36 1213 0 (some 0)) (fun t37 => (B_X12_init_76  t37)))))))))))))))))))))))))))))))))))))))))))
theorem TF_X12_init {W : NW} {d : Nat} {t : TS} {Q : Option NV → TS → Prop} {bc bs : Nat} (hW : W.2.2.2 = (fun _ => false)) (H : wp (F_X12_init t) (fun r => Q none r)) : nC W (d + 2) 63 [eR (some (12, 0))] t (bc + 69) (bs + 1838) Q := by
  refine nC_in (d := (d + 1)) (T := tX12_init) (ls := [some (eR (some (12, 0))), none]) rfl (Nat.le_of_ble_eq_true rfl) rfl (fun a0 e0 => ?_)
  unfold F_X12_init at H
  refine nx_ld rfl rfl rfl rfl ?_
  refine nx_objI rfl rfl (Nat.le_of_ble_eq_true rfl) ?_
  refine nx_ld rfl rfl rfl rfl ?_
  refine nx_int (x := 4) rfl rfl ?_
  refine nx_newaL 3202 0 4 rfl rfl (Nat.le_of_ble_eq_true rfl) (Nat.le_of_ble_eq_true rfl) rfl rfl (by decide) (Nat.le_of_ble_eq_true rfl) (by omega) (by omega) H (fun t21 H => ?_)
  refine nx_eq (bc' := bc + 68) (bs' := bs + 1834) (by omega) (by omega) ?_
  refine nx_putR (f := 1202) (o := (some 0)) rfl rfl rfl (by decide) (by rw [hW]) rfl (by decide) H (fun t22 H => ?_)
  refine nx_ld rfl rfl rfl rfl ?_
  show nX _ _ _ _ _ _ 13 _ _ _ _ _
  refine nx_int (x := 150) rfl rfl ?_
  refine nx_newaL 3203 0 150 rfl rfl (Nat.le_of_ble_eq_true rfl) (Nat.le_of_ble_eq_true rfl) rfl rfl (by decide) (Nat.le_of_ble_eq_true rfl) (by omega) (by omega) H (fun t23 H => ?_)
  refine nx_eq (bc' := bc + 67) (bs' := bs + 1684) (by omega) (by omega) ?_
  refine nx_putR (f := 1203) (o := (some 0)) rfl rfl rfl (by decide) (by rw [hW]) rfl (by decide) H (fun t24 H => ?_)
  refine nx_ld rfl rfl rfl rfl ?_
  refine nx_int (x := 200) rfl rfl ?_
  refine nx_newaL 3206 0 200 rfl rfl (Nat.le_of_ble_eq_true rfl) (Nat.le_of_ble_eq_true rfl) rfl rfl (by decide) (Nat.le_of_ble_eq_true rfl) (by omega) (by omega) H (fun t25 H => ?_)
  refine nx_eq (bc' := bc + 66) (bs' := bs + 1484) (by omega) (by omega) ?_
  refine nx_putR (f := 1206) (o := (some 0)) rfl rfl rfl (by decide) (by rw [hW]) rfl (by decide) H (fun t26 H => ?_)
  refine nx_ld rfl rfl rfl rfl ?_
  show nX _ _ _ _ _ _ 33 _ _ _ _ _
  refine nx_int (x := 9) rfl rfl ?_
  refine nx_newaL 3208 0 9 rfl rfl (Nat.le_of_ble_eq_true rfl) (Nat.le_of_ble_eq_true rfl) rfl rfl (by decide) (Nat.le_of_ble_eq_true rfl) (by omega) (by omega) H (fun t27 H => ?_)
  refine nx_eq (bc' := bc + 65) (bs' := bs + 1475) (by omega) (by omega) ?_
  refine nx_putR (f := 1208) (o := (some 0)) rfl rfl rfl (by decide) (by rw [hW]) rfl (by decide) H (fun t28 H => ?_)
  refine nx_ld rfl rfl rfl rfl ?_
  refine nx_int (x := 150) rfl rfl ?_
  refine nx_newaL 3209 0 150 rfl rfl (Nat.le_of_ble_eq_true rfl) (Nat.le_of_ble_eq_true rfl) rfl rfl (by decide) (Nat.le_of_ble_eq_true rfl) (by omega) (by omega) H (fun t29 H => ?_)
  refine nx_eq (bc' := bc + 64) (bs' := bs + 1325) (by omega) (by omega) ?_
  refine nx_putR (f := 1209) (o := (some 0)) rfl rfl rfl (by decide) (by rw [hW]) rfl (by decide) H (fun t30 H => ?_)
  refine nx_ld rfl rfl rfl rfl ?_
  show nX _ _ _ _ _ _ 50 _ _ _ _ _
  refine nx_int (x := 4) rfl rfl ?_
  refine nx_newaL 3210 0 4 rfl rfl (Nat.le_of_ble_eq_true rfl) (Nat.le_of_ble_eq_true rfl) rfl rfl (by decide) (Nat.le_of_ble_eq_true rfl) (by omega) (by omega) H (fun t31 H => ?_)
  refine nx_eq (bc' := bc + 63) (bs' := bs + 1321) (by omega) (by omega) ?_
  refine nx_putR (f := 1210) (o := (some 0)) rfl rfl rfl (by decide) (by rw [hW]) rfl (by decide) H (fun t32 H => ?_)
  refine nx_ld rfl rfl rfl rfl ?_
  refine nx_int (x := 16) rfl rfl ?_
  refine nx_newaL 3211 0 16 rfl rfl (Nat.le_of_ble_eq_true rfl) (Nat.le_of_ble_eq_true rfl) rfl rfl (by decide) (Nat.le_of_ble_eq_true rfl) (by omega) (by omega) H (fun t33 H => ?_)
  refine nx_eq (bc' := bc + 62) (bs' := bs + 1305) (by omega) (by omega) ?_
  refine nx_putR (f := 1211) (o := (some 0)) rfl rfl rfl (by decide) (by rw [hW]) rfl (by decide) H (fun t34 H => ?_)
  refine nx_ld rfl rfl rfl rfl ?_
  show nX _ _ _ _ _ _ 66 _ _ _ _ _
  refine nx_new 0 (n := 8) rfl rfl (by decide) (fun f _ => by rw [hW]) (by omega) (by omega) H (fun t35 H => ?_)
  refine nx_eq (bc' := bc + 61) (bs' := bs + 1297) (by omega) (by omega) ?_
  refine nx_dup rfl rfl (Nat.ne_of_beq_eq_false rfl) ?_
  refine nx_aVVt 2 172 (as := []) (st' := [eR (some (7, 0)), eR (some (12, 0))]) rfl rfl (Nat.le_of_ble_eq_true rfl) rfl rfl (Nat.le_of_ble_eq_true rfl) (c0 := 7) rfl (by decide) (by omega) (by omega) H (fun Q H => TF_X7_init hW  H) (fun r36 H => ?_)
  refine nx_eq (bc' := bc + 59) (bs' := bs + 1125) (by omega) (by omega) ?_
  refine nx_putR (f := 1213) (o := (some 0)) rfl rfl rfl (by decide) (by rw [hW]) rfl (by decide) H (fun t37 H => ?_)
  refine nx_eq (bc' := (bc) + 59) (bs' := (bs) + 1125) (by omega) (by omega) ?_
  exact TB_X12_init_76 hW    _ H
def F_X12_days (t : TS) (x1 : Int32) : Option (Int32 × TS) := (Option.bind (F_X12_within t x1 1 300) (fun r21 => (if r21 = 0 then (some ((-1), t)) else (if x1 ≤ (2999 - (tI t 1200 0)) then (nxt (uI t 1200 0 ((tI t 1200 0) + x1)) (fun t22 => (nxt (uI t22 1201 0 0) (fun t23 => (some ((tI t23 1200 0), t23)))))) else (some ((-1), t))))))
theorem TF_X12_days {W : NW} {d : Nat} {t : TS} {x1 : Int32} {Q : Option NV → TS → Prop} {bc bs : Nat} (hW : W.2.2.2 = mm_fx) (H : wp (F_X12_days t x1) (fun r => Q (some (eI r.1)) r.2)) : nC W (d + 2) 64 [eR (some (12, 0)), eI x1] t bc bs Q := by
  refine nC_in (d := (d + 1)) (T := tX12_days) (ls := [some (eR (some (12, 0))), some (eI x1)]) rfl (Nat.le_of_ble_eq_true rfl) rfl (fun a0 e0 => ?_)
  unfold F_X12_days at H
  refine nx_ld rfl rfl rfl rfl ?_
  refine nx_int (x := 1) rfl rfl ?_
  refine nx_int (x := 300) rfl rfl ?_
  refine nx_cSI (as := [eI x1, eI 1, eI 300]) (st' := []) rfl rfl (Nat.le_of_ble_eq_true rfl) rfl rfl (Nat.le_of_ble_eq_true rfl) H (fun Q H => TF_X12_within hW  H) (fun r21 H => ?_)
  refine nx_if rfl rfl (by rfl) H (fun H => ?_) (fun H => ?_)
  · refine nx_int (x := (-1)) rfl rfl ?_
    exact nx_rit rfl rfl H
  refine nx_ld rfl rfl rfl rfl ?_
  refine nx_int (x := 2999) rfl rfl ?_
  refine nx_ld rfl rfl rfl rfl ?_
  refine nx_getI rfl rfl rfl (by decide) ?_
  refine nx_ii rfl rfl ?_
  refine nx_icmp rfl rfl (by rfl) H (fun H => ?_) (fun H => ?_)
  · refine nx_ld rfl rfl rfl rfl ?_
    refine nx_dup rfl rfl (Nat.ne_of_beq_eq_false rfl) ?_
    refine nx_getI rfl rfl rfl (by decide) ?_
    refine nx_ld rfl rfl rfl rfl ?_
    refine nx_ii rfl rfl ?_
    refine nx_putI rfl rfl rfl (by decide) H (fun t22 H => ?_)
    refine nx_ld rfl rfl rfl rfl ?_
    show nX _ _ _ _ _ _ 36 _ _ _ _ _
    refine nx_int (x := 0) rfl rfl ?_
    refine nx_putI rfl rfl rfl (by decide) H (fun t23 H => ?_)
    refine nx_ld rfl rfl rfl rfl ?_
    refine nx_getI rfl rfl rfl (by decide) ?_
    exact nx_rit rfl rfl H
  refine nx_int (x := (-1)) rfl rfl ?_
  exact nx_rit rfl rfl H
def F_X12_minute (t : TS) (x1 : Int32) : Option (Int32 × TS) := (Option.bind (F_X12_within t x1 (tI t 1201 0) 1439) (fun r21 => (if ¬ r21 = 0 then (nxt (uI t 1201 0 x1) (fun t22 => (some ((tI t 1201 0), t22)))) else (some ((-1), t)))))
theorem TF_X12_minute {W : NW} {d : Nat} {t : TS} {x1 : Int32} {Q : Option NV → TS → Prop} {bc bs : Nat} (hW : W.2.2.2 = mm_fx) (H : wp (F_X12_minute t x1) (fun r => Q (some (eI r.1)) r.2)) : nC W (d + 2) 65 [eR (some (12, 0)), eI x1] t bc bs Q := by
  refine nC_in (d := (d + 1)) (T := tX12_minute) (ls := [some (eR (some (12, 0))), some (eI x1), none]) rfl (Nat.le_of_ble_eq_true rfl) rfl (fun a0 e0 => ?_)
  unfold F_X12_minute at H
  refine nx_ld rfl rfl rfl rfl ?_
  refine nx_ld rfl rfl rfl rfl ?_
  refine nx_getI rfl rfl rfl (by decide) ?_
  refine nx_int (x := 1439) rfl rfl ?_
  refine nx_cSI (as := [eI x1, eI (tI t 1201 0), eI 1439]) (st' := []) rfl rfl (Nat.le_of_ble_eq_true rfl) rfl rfl (Nat.le_of_ble_eq_true rfl) H (fun Q H => TF_X12_within hW  H) (fun r21 H => ?_)
  refine nx_if rfl rfl (by rfl) H (fun H => ?_) (fun H => ?_)
  · refine nx_ld rfl rfl rfl rfl ?_
    refine nx_getI rfl rfl rfl (by decide) ?_
    refine nx_st (ls' := [some (eR (some (12, 0))), some (eI x1), some (eI (tI t 1201 0))]) rfl rfl rfl (Nat.le_of_ble_eq_true rfl) rfl ?_
    refine nx_ld rfl rfl rfl rfl ?_
    refine nx_ld rfl rfl rfl rfl ?_
    refine nx_putI rfl rfl rfl (by decide) H (fun t22 H => ?_)
    refine nx_ld rfl rfl rfl rfl ?_
    show nX _ _ _ _ _ _ 27 _ _ _ _ _
    exact nx_rit rfl rfl H
  refine nx_int (x := (-1)) rfl rfl ?_
  exact nx_rit rfl rfl H
def F_X12_leagueAt (t : TS) (x1 : Int32) : Option (Option Nat) := (Option.bind (F_X12_within t x1 0 ((Int32.ofNat (tL t 3202 0)) - 1)) (fun r21 => (if r21 = 0 then (some none) else (gd x1 (tL t 3202 0) (nxt (tQ t 3202 0 x1.toNatClampNeg) (fun o22 => (some o22)))))))
theorem TF_X12_leagueAt {W : NW} {d : Nat} {t : TS} {x1 : Int32} {Q : Option NV → TS → Prop} {bc bs : Nat} (hW : W.2.2.2 = mm_fx) (H : wp (F_X12_leagueAt t x1) (fun r => Q (some (eO 5 r)) t)) : nC W (d + 2) 115 [eR (some (12, 0)), eI x1] t bc bs Q := by
  refine nC_in (d := (d + 1)) (T := tX12_leagueAt) (ls := [some (eR (some (12, 0))), some (eI x1)]) rfl (Nat.le_of_ble_eq_true rfl) rfl (fun a0 e0 => ?_)
  unfold F_X12_leagueAt at H
  refine nx_ld rfl rfl rfl rfl ?_
  refine nx_int (x := 0) rfl rfl ?_
  refine nx_ld rfl rfl rfl rfl ?_
  refine nx_getFix rfl rfl rfl (by decide) (by rw [hW]; rfl) rfl ?_
  refine nx_alen (p := (3202, 0)) rfl rfl (Nat.le_of_ble_eq_true rfl) (Nat.le_of_ble_eq_true rfl) (Nat.le_of_ble_eq_true rfl) ?_
  refine nx_int (x := 1) rfl rfl ?_
  refine nx_ii rfl rfl ?_
  show nX _ _ _ _ _ _ 9 _ _ _ _ _
  refine nx_cSI (as := [eI x1, eI 0, eI ((Int32.ofNat (tL t 3202 0)) - 1)]) (st' := []) rfl rfl (Nat.le_of_ble_eq_true rfl) rfl rfl (Nat.le_of_ble_eq_true rfl) H (fun Q H => TF_X12_within hW  H) (fun r21 H => ?_)
  refine nx_if rfl rfl (by rfl) H (fun H => ?_) (fun H => ?_)
  · refine nx_nul 5 rfl rfl ?_
    exact nx_ro 5 none rfl rfl H
  refine nx_ld rfl rfl rfl rfl ?_
  refine nx_getFix rfl rfl rfl (by decide) (by rw [hW]; rfl) rfl ?_
  refine nx_ld rfl rfl rfl rfl ?_
  refine nx_aald (c := 3202) (i := 0) rfl rfl (Nat.le_of_ble_eq_true rfl) (Nat.le_of_ble_eq_true rfl) (Nat.le_of_ble_eq_true rfl) rfl H (fun o22 H => ?_)
  refine nx_goto rfl rfl ?_
  exact nx_ro 5 o22 rfl rfl H
def F_X12_window (t : TS) (x1 : Int32) (x2 : Int32) (x3 : Int32) : Option (Int32 × TS) := (Option.bind (F_X12_leagueAt t x1) (fun r21 => (oc r21 (some ((-1), t)) (fun j22 => (Option.bind (F_X12_within t x2 0 2999) (fun r23 => (if r23 = 0 then (some ((-1), t)) else (Option.bind (F_X12_within t x3 x2 2999) (fun r24 => (if ¬ r24 = 0 then (ob2 (F_X5_addWindow t j22 x2 x3) (fun x26 t27 => (if x26 = 0 then (some ((-3), t27)) else (some ((tI t27 502 j22), t27))))) else (some ((-1), t))))))))))))
theorem TF_X12_window {W : NW} {d : Nat} {t : TS} {x1 : Int32} {x2 : Int32} {x3 : Int32} {Q : Option NV → TS → Prop} {bc bs : Nat} (hW : W.2.2.2 = mm_fx) (H : wp (F_X12_window t x1 x2 x3) (fun r => Q (some (eI r.1)) r.2)) : nC W (d + 3) 66 [eR (some (12, 0)), eI x1, eI x2, eI x3] t bc bs Q := by
  refine nC_in (d := (d + 2)) (T := tX12_window) (ls := [some (eR (some (12, 0))), some (eI x1), some (eI x2), some (eI x3), none]) rfl (Nat.le_of_ble_eq_true rfl) rfl (fun a0 e0 => ?_)
  unfold F_X12_window at H
  refine nx_ld rfl rfl rfl rfl ?_
  refine nx_ld rfl rfl rfl rfl ?_
  refine nx_cVO 5 (as := [eI x1]) (st' := []) rfl rfl (Nat.le_of_ble_eq_true rfl) rfl rfl (Nat.le_of_ble_eq_true rfl) (c0 := 12) rfl (by decide) H (fun Q H => TF_X12_leagueAt hW  H) (fun r21 H => ?_)
  refine nx_st (ls' := [some (eR (some (12, 0))), some (eI x1), some (eI x2), some (eI x3), some (eO 5 r21)]) rfl rfl rfl (Nat.le_of_ble_eq_true rfl) rfl ?_
  refine nx_ld rfl rfl rfl rfl ?_
  rcases r21 with _ | j22
  · replace H := oc_no H
    refine nx_null0 (c := 5) rfl rfl ?_
    refine nx_int (x := (-1)) rfl rfl ?_
    exact nx_rit rfl rfl H
  replace H := oc_so H
  refine nx_null1 rfl rfl ?_
  refine nx_ld rfl rfl rfl rfl ?_
  refine nx_int (x := 0) rfl rfl ?_
  refine nx_int (x := 2999) rfl rfl ?_
  refine nx_cSI (as := [eI x2, eI 0, eI 2999]) (st' := []) rfl rfl (Nat.le_of_ble_eq_true rfl) rfl rfl (Nat.le_of_ble_eq_true rfl) H (fun Q H => TF_X12_within hW  H) (fun r23 H => ?_)
  refine nx_if rfl rfl (by rfl) H (fun H => ?_) (fun H => ?_)
  · refine nx_int (x := (-1)) rfl rfl ?_
    exact nx_rit rfl rfl H
  refine nx_ld rfl rfl rfl rfl ?_
  refine nx_ld rfl rfl rfl rfl ?_
  refine nx_int (x := 2999) rfl rfl ?_
  refine nx_cSI (as := [eI x3, eI x2, eI 2999]) (st' := []) rfl rfl (Nat.le_of_ble_eq_true rfl) rfl rfl (Nat.le_of_ble_eq_true rfl) H (fun Q H => TF_X12_within hW  H) (fun r24 H => ?_)
  refine nx_if rfl rfl (by rfl) H (fun H => ?_) (fun H => ?_)
  · refine nx_ld rfl rfl rfl rfl ?_
    refine nx_ld rfl rfl rfl rfl ?_
    refine nx_ld rfl rfl rfl rfl ?_
    refine nx_cVI2 (as := [eI x2, eI x3]) (st' := []) rfl rfl (Nat.le_of_ble_eq_true rfl) rfl rfl (Nat.le_of_ble_eq_true rfl) (c0 := 5) rfl (by decide) H (fun Q H => TF_X5_addWindow hW  H) (fun x26 t27 H => ?_)
    refine nx_if rfl rfl (by rfl) H (fun H => ?_) (fun H => ?_)
    · refine nx_int (x := (-3)) rfl rfl ?_
      exact nx_rit rfl rfl H
    refine nx_ld rfl rfl rfl rfl ?_
    refine nx_getI rfl rfl rfl (by decide) ?_
    refine nx_goto rfl rfl ?_
    exact nx_rit rfl rfl H
  refine nx_int (x := (-1)) rfl rfl ?_
  exact nx_rit rfl rfl H
def F_X12_bit (t : TS) (x1 : Int32) : Option Int32 := (if x1 = 0 then (some (0)) else (some (1)))
theorem TF_X12_bit {W : NW} {d : Nat} {t : TS} {x1 : Int32} {Q : Option NV → TS → Prop} {bc bs : Nat} (hW : W.2.2.2 = mm_fx) (H : wp (F_X12_bit t x1) (fun r => Q (some (eI r)) t)) : nC W (d + 1) 114 [eI x1] t bc bs Q := by
  refine nC_in (d := d) (T := tX12_bit) (ls := [some (eI x1)]) rfl (Nat.le_of_ble_eq_true rfl) rfl (fun a0 e0 => ?_)
  unfold F_X12_bit at H
  refine nx_ld rfl rfl rfl rfl ?_
  refine nx_if rfl rfl (by rfl) H (fun H => ?_) (fun H => ?_)
  · refine nx_int (x := 0) rfl rfl ?_
    exact nx_ri rfl rfl H
  refine nx_int (x := 1) rfl rfl ?_
  refine nx_goto rfl rfl ?_
  exact nx_ri rfl rfl H
def F_X12_open (t : TS) (x1 : Int32) (x2 : Int32) : Option Int32 := (Option.bind (F_X12_leagueAt t x1) (fun r21 => (oc r21 (some ((-1))) (fun j22 => (Option.bind (F_X12_within t x2 0 2999) (fun r23 => (if ¬ r23 = 0 then (Option.bind (F_X5_isOpen t j22 x2) (fun r24 => (Option.bind (F_X12_bit t r24) (fun r25 => (some (r25)))))) else (some ((-1))))))))))
theorem TF_X12_open {W : NW} {d : Nat} {t : TS} {x1 : Int32} {x2 : Int32} {Q : Option NV → TS → Prop} {bc bs : Nat} (hW : W.2.2.2 = mm_fx) (H : wp (F_X12_open t x1 x2) (fun r => Q (some (eI r)) t)) : nC W (d + 3) 67 [eR (some (12, 0)), eI x1, eI x2] t bc bs Q := by
  refine nC_in (d := (d + 2)) (T := tX12_open) (ls := [some (eR (some (12, 0))), some (eI x1), some (eI x2), none]) rfl (Nat.le_of_ble_eq_true rfl) rfl (fun a0 e0 => ?_)
  unfold F_X12_open at H
  refine nx_ld rfl rfl rfl rfl ?_
  refine nx_ld rfl rfl rfl rfl ?_
  refine nx_cVO 5 (as := [eI x1]) (st' := []) rfl rfl (Nat.le_of_ble_eq_true rfl) rfl rfl (Nat.le_of_ble_eq_true rfl) (c0 := 12) rfl (by decide) H (fun Q H => TF_X12_leagueAt hW  H) (fun r21 H => ?_)
  refine nx_st (ls' := [some (eR (some (12, 0))), some (eI x1), some (eI x2), some (eO 5 r21)]) rfl rfl rfl (Nat.le_of_ble_eq_true rfl) rfl ?_
  refine nx_ld rfl rfl rfl rfl ?_
  rcases r21 with _ | j22
  · replace H := oc_no H
    refine nx_null0 (c := 5) rfl rfl ?_
    refine nx_int (x := (-1)) rfl rfl ?_
    exact nx_ri rfl rfl H
  replace H := oc_so H
  refine nx_null1 rfl rfl ?_
  refine nx_ld rfl rfl rfl rfl ?_
  refine nx_int (x := 0) rfl rfl ?_
  refine nx_int (x := 2999) rfl rfl ?_
  refine nx_cSI (as := [eI x2, eI 0, eI 2999]) (st' := []) rfl rfl (Nat.le_of_ble_eq_true rfl) rfl rfl (Nat.le_of_ble_eq_true rfl) H (fun Q H => TF_X12_within hW  H) (fun r23 H => ?_)
  refine nx_if rfl rfl (by rfl) H (fun H => ?_) (fun H => ?_)
  · refine nx_ld rfl rfl rfl rfl ?_
    refine nx_ld rfl rfl rfl rfl ?_
    refine nx_cVI (as := [eI x2]) (st' := []) rfl rfl (Nat.le_of_ble_eq_true rfl) rfl rfl (Nat.le_of_ble_eq_true rfl) (c0 := 5) rfl (by decide) H (fun Q H => TF_X5_isOpen hW  H) (fun r24 H => ?_)
    refine nx_cSI (as := [eI r24]) (st' := []) rfl rfl (Nat.le_of_ble_eq_true rfl) rfl rfl (Nat.le_of_ble_eq_true rfl) H (fun Q H => TF_X12_bit hW  H) (fun r25 H => ?_)
    exact nx_ri rfl rfl H
  refine nx_int (x := (-1)) rfl rfl ?_
  exact nx_ri rfl rfl H
def F_X12_papers (t : TS) (x1 : Int32) (x2 : Int32) : Option (Int32 × TS) := (Option.bind (F_X12_leagueAt t x1) (fun r21 => (oc r21 (some ((-1), t)) (fun j22 => (Option.bind (F_X12_within t x2 0 1439) (fun r23 => (if ¬ r23 = 0 then (nxt (uI t 503 j22 x2) (fun t24 => (some ((tI t 503 j22), t24)))) else (some ((-1), t)))))))))
theorem TF_X12_papers {W : NW} {d : Nat} {t : TS} {x1 : Int32} {x2 : Int32} {Q : Option NV → TS → Prop} {bc bs : Nat} (hW : W.2.2.2 = mm_fx) (H : wp (F_X12_papers t x1 x2) (fun r => Q (some (eI r.1)) r.2)) : nC W (d + 3) 68 [eR (some (12, 0)), eI x1, eI x2] t bc bs Q := by
  refine nC_in (d := (d + 2)) (T := tX12_papers) (ls := [some (eR (some (12, 0))), some (eI x1), some (eI x2), none, none]) rfl (Nat.le_of_ble_eq_true rfl) rfl (fun a0 e0 => ?_)
  unfold F_X12_papers at H
  refine nx_ld rfl rfl rfl rfl ?_
  refine nx_ld rfl rfl rfl rfl ?_
  refine nx_cVO 5 (as := [eI x1]) (st' := []) rfl rfl (Nat.le_of_ble_eq_true rfl) rfl rfl (Nat.le_of_ble_eq_true rfl) (c0 := 12) rfl (by decide) H (fun Q H => TF_X12_leagueAt hW  H) (fun r21 H => ?_)
  refine nx_st (ls' := [some (eR (some (12, 0))), some (eI x1), some (eI x2), some (eO 5 r21), none]) rfl rfl rfl (Nat.le_of_ble_eq_true rfl) rfl ?_
  refine nx_ld rfl rfl rfl rfl ?_
  rcases r21 with _ | j22
  · replace H := oc_no H
    refine nx_null0 (c := 5) rfl rfl ?_
    refine nx_int (x := (-1)) rfl rfl ?_
    exact nx_rit rfl rfl H
  replace H := oc_so H
  refine nx_null1 rfl rfl ?_
  refine nx_ld rfl rfl rfl rfl ?_
  refine nx_int (x := 0) rfl rfl ?_
  refine nx_int (x := 1439) rfl rfl ?_
  refine nx_cSI (as := [eI x2, eI 0, eI 1439]) (st' := []) rfl rfl (Nat.le_of_ble_eq_true rfl) rfl rfl (Nat.le_of_ble_eq_true rfl) H (fun Q H => TF_X12_within hW  H) (fun r23 H => ?_)
  refine nx_if rfl rfl (by rfl) H (fun H => ?_) (fun H => ?_)
  · refine nx_ld rfl rfl rfl rfl ?_
    refine nx_getI rfl rfl rfl (by decide) ?_
    refine nx_st (ls' := [some (eR (some (12, 0))), some (eI x1), some (eI x2), some (eR (some (5, j22))), some (eI (tI t 503 j22))]) rfl rfl rfl (Nat.le_of_ble_eq_true rfl) rfl ?_
    refine nx_ld rfl rfl rfl rfl ?_
    refine nx_ld rfl rfl rfl rfl ?_
    refine nx_putI rfl rfl rfl (by decide) H (fun t24 H => ?_)
    refine nx_ld rfl rfl rfl rfl ?_
    show nX _ _ _ _ _ _ 36 _ _ _ _ _
    exact nx_rit rfl rfl H
  refine nx_int (x := (-1)) rfl rfl ?_
  exact nx_rit rfl rfl H
def F_X12_addBody (t : TS) (x1 : Int32) : Option (Option Nat × TS) := (if (tI t 1204 0) < 150 then (gE (tE t 1 ((tI t 1204 0).toNatClampNeg)) (nxt (uO t 1 ((tI t 1204 0).toNatClampNeg)) (fun t21 => (Option.bind (F_X1_init t21 ((tI t 1204 0).toNatClampNeg) (tI t21 1204 0) x1) (fun r22 => (gd (tI r22 1204 0) (tL r22 3203 0) (nxt (uQ r22 3203 0 (tI r22 1204 0).toNatClampNeg (some ((tI t 1204 0).toNatClampNeg))) (fun t23 => (nxt (uI t23 1204 0 ((tI t23 1204 0) + 1)) (fun t24 => (some ((some ((tI t 1204 0).toNatClampNeg)), t24)))))))))))) else (some (none, t)))
theorem TF_X12_addBody {W : NW} {d : Nat} {t : TS} {x1 : Int32} {Q : Option NV → TS → Prop} {bc bs : Nat} (hW : W.2.2.2 = mm_fx) (H : wp (F_X12_addBody t x1) (fun r => Q (some (eO 1 r.1)) r.2)) : nC W (d + 2) 126 [eR (some (12, 0)), eI x1] t (bc + 2) (bs + 23) Q := by
  refine nC_in (d := (d + 1)) (T := tX12_addBody) (ls := [some (eR (some (12, 0))), some (eI x1), none]) rfl (Nat.le_of_ble_eq_true rfl) rfl (fun a0 e0 => ?_)
  unfold F_X12_addBody at H
  refine nx_ld rfl rfl rfl rfl ?_
  refine nx_getI rfl rfl rfl (by decide) ?_
  refine nx_int (x := 150) rfl rfl ?_
  refine nx_icmp rfl rfl (by rfl) H (fun H => ?_) (fun H => ?_)
  · refine nx_new ((tI t 1204 0).toNatClampNeg) (n := 13) rfl rfl (by decide) (by rw [hW]; exact mm_fx_no (by decide)) (by omega) (by omega) H (fun t21 H => ?_)
    refine nx_eq (bc' := bc + 1) (bs' := bs + 10) (by omega) (by omega) ?_
    refine nx_dup rfl rfl (Nat.ne_of_beq_eq_false rfl) ?_
    refine nx_ld rfl rfl rfl rfl ?_
    refine nx_getI rfl rfl rfl (by decide) ?_
    refine nx_ld rfl rfl rfl rfl ?_
    refine nx_aVVt 1 10 (as := [eI (tI t21 1204 0), eI x1]) (st' := [eR (some (1, ((tI t 1204 0).toNatClampNeg)))]) rfl rfl (Nat.le_of_ble_eq_true rfl) rfl rfl (Nat.le_of_ble_eq_true rfl) (c0 := 1) rfl (by decide) (by omega) (by omega) H (fun Q H => TF_X1_init hW  H) (fun r22 H => ?_)
    refine nx_eq (bc' := bc) (bs' := bs) (by omega) (by omega) ?_
    refine nx_st (ls' := [some (eR (some (12, 0))), some (eI x1), some (eR (some (1, ((tI t 1204 0).toNatClampNeg))))]) rfl rfl rfl (Nat.le_of_ble_eq_true rfl) rfl ?_
    show nX _ _ _ _ _ _ 25 _ _ _ _ _
    refine nx_ld rfl rfl rfl rfl ?_
    refine nx_getFix rfl rfl rfl (by decide) (by rw [hW]; rfl) rfl ?_
    refine nx_ld rfl rfl rfl rfl ?_
    refine nx_getI rfl rfl rfl (by decide) ?_
    refine nx_ld rfl rfl rfl rfl ?_
    refine nx_aast (c := 3203) (i := 0) (e := 1) (o := (some ((tI t 1204 0).toNatClampNeg))) rfl rfl (Nat.le_of_ble_eq_true rfl) (Nat.le_of_ble_eq_true rfl) (Nat.le_of_ble_eq_true rfl) rfl (by decide) H (fun t23 H => ?_)
    refine nx_ld rfl rfl rfl rfl ?_
    refine nx_dup rfl rfl (Nat.ne_of_beq_eq_false rfl) ?_
    show nX _ _ _ _ _ _ 37 _ _ _ _ _
    refine nx_getI rfl rfl rfl (by decide) ?_
    refine nx_int (x := 1) rfl rfl ?_
    refine nx_ii rfl rfl ?_
    refine nx_putI rfl rfl rfl (by decide) H (fun t24 H => ?_)
    refine nx_ld rfl rfl rfl rfl ?_
    exact nx_rot 1 (some ((tI t 1204 0).toNatClampNeg)) rfl rfl H
  refine nx_nul 1 rfl rfl ?_
  exact nx_rot 1 none rfl rfl H
def B_X12_body_17 (t : TS) (v1 : Int32) : Option (Int32 × TS) := (ob2 (F_X12_addBody t v1) (fun o22 t23 => (oc o22 (some ((-3), t23)) (fun j24 => (some ((tI t23 100 j24), t23))))))
theorem TB_X12_body_17 {W : NW} {d : Nat} {Q : Option NV → TS → Prop} {a0 : Nat → Nat → Nat} {e0 : Nat → Nat → Bool} {bc bs : Nat} (hW : W.2.2.2 = mm_fx) : ∀ (t : TS) (v1 : Int32), wp (B_X12_body_17 t v1) (fun r => Q (some (eI r.1)) r.2) → nX W (d + 2) tX12_body Q a0 e0 17 [some (eR (some (12, 0))), some (eI v1), none] [] t (bc + 2) (bs + 23) := by
  intro t v1 H
  unfold B_X12_body_17 at H
  refine nx_ld rfl rfl rfl rfl ?_
  refine nx_ld rfl rfl rfl rfl ?_
  refine nx_aVO2 1 2 23 (as := [eI v1]) (st' := []) rfl rfl (Nat.le_of_ble_eq_true rfl) rfl rfl (Nat.le_of_ble_eq_true rfl) (c0 := 12) rfl (by decide) (by omega) (by omega) H (fun Q H => TF_X12_addBody hW  H) (fun o22 t23 H => ?_)
  refine nx_eq (bc' := bc) (bs' := bs) (by omega) (by omega) ?_
  refine nx_st (ls' := [some (eR (some (12, 0))), some (eI v1), some (eO 1 o22)]) rfl rfl rfl (Nat.le_of_ble_eq_true rfl) rfl ?_
  refine nx_ld rfl rfl rfl rfl ?_
  rcases o22 with _ | j24
  · replace H := oc_no H
    refine nx_non0 (c := 1) rfl rfl ?_
    refine nx_int (x := (-3)) rfl rfl ?_
    refine nx_goto rfl rfl ?_
    exact nx_rit rfl rfl H
  replace H := oc_so H
  refine nx_non1 rfl rfl ?_
  refine nx_ld rfl rfl rfl rfl ?_
  refine nx_getI rfl rfl rfl (by decide) ?_
  exact nx_rit rfl rfl H
def F_X12_body (t : TS) (x1 : Int32) : Option (Int32 × TS) := (if x1 = 0 then (B_X12_body_17  t x1) else (if x1 = 1 then (B_X12_body_17  t x1) else (if x1 = 6 then (B_X12_body_17  t x1) else (some ((-1), t)))))
theorem TF_X12_body {W : NW} {d : Nat} {t : TS} {x1 : Int32} {Q : Option NV → TS → Prop} {bc bs : Nat} (hW : W.2.2.2 = mm_fx) (H : wp (F_X12_body t x1) (fun r => Q (some (eI r.1)) r.2)) : nC W (d + 3) 69 [eR (some (12, 0)), eI x1] t (bc + 2) (bs + 23) Q := by
  refine nC_in (d := (d + 2)) (T := tX12_body) (ls := [some (eR (some (12, 0))), some (eI x1), none]) rfl (Nat.le_of_ble_eq_true rfl) rfl (fun a0 e0 => ?_)
  unfold F_X12_body at H
  refine nx_ld rfl rfl rfl rfl ?_
  refine nx_if rfl rfl (by rfl) H (fun H => ?_) (fun H => ?_)
  · refine nx_eq (bc' := (bc) + 2) (bs' := (bs) + 23) (by omega) (by omega) ?_
    exact TB_X12_body_17 hW    _ _ H
  refine nx_ld rfl rfl rfl rfl ?_
  refine nx_int (x := 1) rfl rfl ?_
  refine nx_icmp rfl rfl (by rfl) H (fun H => ?_) (fun H => ?_)
  · refine nx_eq (bc' := (bc) + 2) (bs' := (bs) + 23) (by omega) (by omega) ?_
    exact TB_X12_body_17 hW    _ _ H
  refine nx_ld rfl rfl rfl rfl ?_
  refine nx_int (x := 6) rfl rfl ?_
  refine nx_icmp rfl rfl (by rfl) H (fun H => ?_) (fun H => ?_)
  · refine nx_eq (bc' := (bc) + 2) (bs' := (bs) + 23) (by omega) (by omega) ?_
    exact TB_X12_body_17 hW    _ _ H
  refine nx_int (x := (-1)) rfl rfl ?_
  exact nx_rit rfl rfl H
def B_X12_club_11 (t : TS) (v1 : Int32) (v2 : Int32) (v3 : Int32) : Option (Int32 × TS) := (Option.bind (F_X12_leagueAt t v2) (fun r21 => (oc r21 (some ((-1), t)) (fun j22 => (Option.bind (F_X12_within t v3 0 9999999) (fun r23 => (if ¬ r23 = 0 then (ob2 (F_X12_addBody t v1) (fun o25 t26 => (oc o25 (some ((-3), t26)) (fun j27 => (nxt (uI t26 102 j27 v2) (fun t28 => (nxt (uI t28 103 j27 v3) (fun t29 => (some ((tI t29 100 j27), t29)))))))))) else (some ((-1), t)))))))))
theorem TB_X12_club_11 {W : NW} {d : Nat} {Q : Option NV → TS → Prop} {a0 : Nat → Nat → Nat} {e0 : Nat → Nat → Bool} {bc bs : Nat} (hW : W.2.2.2 = mm_fx) : ∀ (t : TS) (v1 : Int32) (v2 : Int32) (v3 : Int32), wp (B_X12_club_11 t v1 v2 v3) (fun r => Q (some (eI r.1)) r.2) → nX W (d + 2) tX12_club Q a0 e0 11 [some (eR (some (12, 0))), some (eI v1), some (eI v2), some (eI v3), none] [] t (bc + 2) (bs + 23) := by
  intro t v1 v2 v3 H
  unfold B_X12_club_11 at H
  refine nx_ld rfl rfl rfl rfl ?_
  refine nx_ld rfl rfl rfl rfl ?_
  refine nx_cVO 5 (as := [eI v2]) (st' := []) rfl rfl (Nat.le_of_ble_eq_true rfl) rfl rfl (Nat.le_of_ble_eq_true rfl) (c0 := 12) rfl (by decide) H (fun Q H => TF_X12_leagueAt hW  H) (fun r21 H => ?_)
  rcases r21 with _ | j22
  · replace H := oc_no H
    refine nx_null0 (c := 5) rfl rfl ?_
    refine nx_int (x := (-1)) rfl rfl ?_
    exact nx_rit rfl rfl H
  replace H := oc_so H
  refine nx_null1 rfl rfl ?_
  refine nx_ld rfl rfl rfl rfl ?_
  refine nx_int (x := 0) rfl rfl ?_
  refine nx_int (x := 9999999) rfl rfl ?_
  refine nx_cSI (as := [eI v3, eI 0, eI 9999999]) (st' := []) rfl rfl (Nat.le_of_ble_eq_true rfl) rfl rfl (Nat.le_of_ble_eq_true rfl) H (fun Q H => TF_X12_within hW  H) (fun r23 H => ?_)
  refine nx_if rfl rfl (by rfl) H (fun H => ?_) (fun H => ?_)
  · refine nx_ld rfl rfl rfl rfl ?_
    refine nx_ld rfl rfl rfl rfl ?_
    refine nx_aVO2 1 2 23 (as := [eI v1]) (st' := []) rfl rfl (Nat.le_of_ble_eq_true rfl) rfl rfl (Nat.le_of_ble_eq_true rfl) (c0 := 12) rfl (by decide) (by omega) (by omega) H (fun Q H => TF_X12_addBody hW  H) (fun o25 t26 H => ?_)
    refine nx_eq (bc' := bc) (bs' := bs) (by omega) (by omega) ?_
    refine nx_st (ls' := [some (eR (some (12, 0))), some (eI v1), some (eI v2), some (eI v3), some (eO 1 o25)]) rfl rfl rfl (Nat.le_of_ble_eq_true rfl) rfl ?_
    refine nx_ld rfl rfl rfl rfl ?_
    rcases o25 with _ | j27
    · replace H := oc_no H
      refine nx_non0 (c := 1) rfl rfl ?_
      refine nx_int (x := (-3)) rfl rfl ?_
      exact nx_rit rfl rfl H
    replace H := oc_so H
    refine nx_non1 rfl rfl ?_
    refine nx_ld rfl rfl rfl rfl ?_
    refine nx_ld rfl rfl rfl rfl ?_
    refine nx_putI rfl rfl rfl (by decide) H (fun t28 H => ?_)
    refine nx_ld rfl rfl rfl rfl ?_
    refine nx_ld rfl rfl rfl rfl ?_
    refine nx_putI rfl rfl rfl (by decide) H (fun t29 H => ?_)
    refine nx_ld rfl rfl rfl rfl ?_
    show nX _ _ _ _ _ _ 60 _ _ _ _ _
    refine nx_getI rfl rfl rfl (by decide) ?_
    exact nx_rit rfl rfl H
  refine nx_int (x := (-1)) rfl rfl ?_
  exact nx_rit rfl rfl H
def F_X12_club (t : TS) (x1 : Int32) (x2 : Int32) (x3 : Int32) : Option (Int32 × TS) := (if x1 = 5 then (B_X12_club_11  t x1 x2 x3) else (if ¬ x1 = 7 then (some ((-1), t)) else (B_X12_club_11  t x1 x2 x3)))
theorem TF_X12_club {W : NW} {d : Nat} {t : TS} {x1 : Int32} {x2 : Int32} {x3 : Int32} {Q : Option NV → TS → Prop} {bc bs : Nat} (hW : W.2.2.2 = mm_fx) (H : wp (F_X12_club t x1 x2 x3) (fun r => Q (some (eI r.1)) r.2)) : nC W (d + 3) 70 [eR (some (12, 0)), eI x1, eI x2, eI x3] t (bc + 2) (bs + 23) Q := by
  refine nC_in (d := (d + 2)) (T := tX12_club) (ls := [some (eR (some (12, 0))), some (eI x1), some (eI x2), some (eI x3), none]) rfl (Nat.le_of_ble_eq_true rfl) rfl (fun a0 e0 => ?_)
  unfold F_X12_club at H
  refine nx_ld rfl rfl rfl rfl ?_
  refine nx_int (x := 5) rfl rfl ?_
  refine nx_icmp rfl rfl (by rfl) H (fun H => ?_) (fun H => ?_)
  · refine nx_eq (bc' := (bc) + 2) (bs' := (bs) + 23) (by omega) (by omega) ?_
    exact TB_X12_club_11 hW    _ _ _ _ H
  refine nx_ld rfl rfl rfl rfl ?_
  refine nx_int (x := 7) rfl rfl ?_
  refine nx_icmp rfl rfl (by rfl) H (fun H => ?_) (fun H => ?_)
  · refine nx_int (x := (-1)) rfl rfl ?_
    exact nx_rit rfl rfl H
  refine nx_eq (bc' := (bc) + 2) (bs' := (bs) + 23) (by omega) (by omega) ?_
  exact TB_X12_club_11 hW    _ _ _ _ H
