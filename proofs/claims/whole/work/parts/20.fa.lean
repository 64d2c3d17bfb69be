/-! functions of methods over the typed heap, and that the runs follow them (by program: wip/whole/walk.py) -/
def F_X0_init (t : TS) : Option TS := (gE (tE t 2000 0) (nxt (uN t 2000 0 24) (fun t21 => (nxt (uR t21 0 0 (some 0)) (fun t22 => (some t22))))))
theorem TF_X0_init {W : NW} {d : Nat} {t : TS} {Q : Option NV → TS → Prop} {bc bs : Nat} (hW : W.2.2.2 = (fun _ => false)) (H : wp (F_X0_init t) (fun r => Q none r)) : nC W (d + 1) 0 [eR (some (0, 0))] t (bc + 1) (bs + 24) Q := by
  refine nC_in (d := d) (T := tX0_init) (ls := [some (eR (some (0, 0)))]) rfl (Nat.le_of_ble_eq_true rfl) rfl (fun a0 e0 => ?_)
  unfold F_X0_init at H
  refine nx_ld rfl rfl rfl rfl ?_
  refine nx_objI rfl rfl (Nat.le_of_ble_eq_true rfl) ?_
  refine nx_ld rfl rfl rfl rfl ?_
  refine nx_int (x := 24) rfl rfl ?_
  refine nx_newaL 2000 0 24 rfl rfl (Nat.le_of_ble_eq_true rfl) (Nat.le_of_ble_eq_true rfl) rfl rfl (by decide) (Nat.le_of_ble_eq_true rfl) (by omega) (by omega) H (fun t21 H => ?_)
  refine nx_eq (bc' := bc) (bs' := bs) (by omega) (by omega) ?_
  refine nx_putR (f := 0) (o := (some 0)) rfl rfl rfl (by decide) (by rw [hW]) rfl (by decide) H (fun t22 H => ?_)
  exact nx_rv rfl rfl H
def B_X0_perform_81 (g : Nat → TS → (Option Nat) → Int32 → Int32 → Int32 → Int32 → Option (Int32 × TS)) (t : TS) (v1 : Option Nat) (v4 : Int32) (v5 : Int32) (v6 : Int32) (v7 : Int32) : Option (Int32 × TS) := (nxt (uI t 1 0 ((tI t 1 0) + 1)) (fun t21 => (gd v6 (mm_sv 0).length (ob2 (g 1 t21 v1 v7 ((mm_sv 0).getD v6.toNatClampNeg 0) v4 (v5 + 1)) (fun x23 t24 => (some (x23, t24)))))))
theorem TB_X0_perform_81 {W : NW} {d : Nat} {Q : Option NV → TS → Prop} {a0 : Nat → Nat → Nat} {e0 : Nat → Nat → Bool} {g : Nat → TS → (Option Nat) → Int32 → Int32 → Int32 → Int32 → Option (Int32 × TS)} {bc bs : Nat} (hW : W.2.2.2 = mm_fx) (hg0 : ∀ (t : TS) (o1 : Option Nat) (x2 : Int32) (x3 : Int32) (x4 : Int32) (x5 : Int32) (bc bs : Nat) (Q : Option NV → TS → Prop), wp (g 0 t o1 x2 x3 x4 x5) (fun r => Q (some (eI r.1)) r.2) → nC W (d + 1) 1 [eR (some (0, 0)), eO 1 o1, eI x2, eI x3, eI x4, eI x5] t bc bs Q) (hg1 : ∀ (t : TS) (o1 : Option Nat) (x2 : Int32) (x3 : Int32) (x4 : Int32) (x5 : Int32) (bc bs : Nat) (Q : Option NV → TS → Prop), wp (g 1 t o1 x2 x3 x4 x5) (fun r => Q (some (eI r.1)) r.2) → nC W (d + 1) 2 [eR (some (0, 0)), eO 1 o1, eI x2, eI x3, eI x4, eI x5] t bc bs Q) : ∀ (t : TS) (v1 : Option Nat) (v2 : Int32) (v3 : Int32) (v4 : Int32) (v5 : Int32) (v6 : Int32) (v7 : Int32), wp (B_X0_perform_81 g t v1 v4 v5 v6 v7) (fun r => Q (some (eI r.1)) r.2) → nX W (d + 1) tX0_perform Q a0 e0 81 [some (eR (some (0, 0))), some (eO 1 v1), some (eI v2), some (eI v3), some (eI v4), some (eI v5), some (eI v6), some (eI v7)] [] t bc bs := by
  intro t v1 v2 v3 v4 v5 v6 v7 H
  unfold B_X0_perform_81 at H
  refine nx_ld rfl rfl rfl rfl ?_
  refine nx_dup rfl rfl (Nat.ne_of_beq_eq_false rfl) ?_
  refine nx_getI rfl rfl rfl (by decide) ?_
  refine nx_int (x := 1) rfl rfl ?_
  refine nx_ii rfl rfl ?_
  refine nx_putI rfl rfl rfl (by decide) H (fun t21 H => ?_)
  refine nx_ld rfl rfl rfl rfl ?_
  show nX _ _ _ _ _ _ 92 _ _ _ _ _
  refine nx_ld rfl rfl rfl rfl ?_
  refine nx_ld rfl rfl rfl rfl ?_
  refine nx_sta 0 rfl rfl ?_
  refine nx_ld rfl rfl rfl rfl ?_
  refine nx_ialdZ (s := 0) rfl rfl (by decide) H (fun H => ?_)
  refine nx_ld rfl rfl rfl rfl ?_
  refine nx_ld rfl rfl rfl rfl ?_
  refine nx_int (x := 1) rfl rfl ?_
  show nX _ _ _ _ _ _ 106 _ _ _ _ _
  refine nx_ii rfl rfl ?_
  refine nx_cVI2 (as := [eO 1 v1, eI v7, eI ((mm_sv 0).getD v6.toNatClampNeg 0), eI v4, eI (v5 + 1)]) (st' := []) rfl rfl (Nat.le_of_ble_eq_true rfl) rfl rfl (Nat.le_of_ble_eq_true rfl) (c0 := 0) rfl (by decide) H (fun Q H => hg1 _ _ _ _ _ _ _ _ _ H) (fun x23 t24 H => ?_)
  exact nx_rit rfl rfl H
def B_X0_perform_32 (g : Nat → TS → (Option Nat) → Int32 → Int32 → Int32 → Int32 → Option (Int32 × TS)) (t : TS) (v1 : Option Nat) (v3 : Int32) (v4 : Int32) (v5 : Int32) (v6 : Int32) : Option (Int32 × TS) := (if v6 < 0 then (some (0, t)) else (if v5 < 40 then (gd ((4 * v6) + v3) (mm_sv 4).length (if (Int32.ofNat (tL t 2000 0)) ≤ (tI t 1 0) then (B_X0_perform_81 g  t v1 v4 v5 v6 ((mm_sv 4).getD ((4 * v6) + v3).toNatClampNeg 0)) else (gd (tI t 1 0) (tL t 2000 0) (nxt (uA t 2000 0 (tI t 1 0).toNatClampNeg ((mm_sv 4).getD ((4 * v6) + v3).toNatClampNeg 0)) (fun t21 => (B_X0_perform_81 g  t21 v1 v4 v5 v6 ((mm_sv 4).getD ((4 * v6) + v3).toNatClampNeg 0))))))) else (some (0, t))))
theorem TB_X0_perform_32 {W : NW} {d : Nat} {Q : Option NV → TS → Prop} {a0 : Nat → Nat → Nat} {e0 : Nat → Nat → Bool} {g : Nat → TS → (Option Nat) → Int32 → Int32 → Int32 → Int32 → Option (Int32 × TS)} {bc bs : Nat} (hW : W.2.2.2 = mm_fx) (hg0 : ∀ (t : TS) (o1 : Option Nat) (x2 : Int32) (x3 : Int32) (x4 : Int32) (x5 : Int32) (bc bs : Nat) (Q : Option NV → TS → Prop), wp (g 0 t o1 x2 x3 x4 x5) (fun r => Q (some (eI r.1)) r.2) → nC W (d + 1) 1 [eR (some (0, 0)), eO 1 o1, eI x2, eI x3, eI x4, eI x5] t bc bs Q) (hg1 : ∀ (t : TS) (o1 : Option Nat) (x2 : Int32) (x3 : Int32) (x4 : Int32) (x5 : Int32) (bc bs : Nat) (Q : Option NV → TS → Prop), wp (g 1 t o1 x2 x3 x4 x5) (fun r => Q (some (eI r.1)) r.2) → nC W (d + 1) 2 [eR (some (0, 0)), eO 1 o1, eI x2, eI x3, eI x4, eI x5] t bc bs Q) : ∀ (t : TS) (v1 : Option Nat) (v2 : Int32) (v3 : Int32) (v4 : Int32) (v5 : Int32) (v6 : Int32), wp (B_X0_perform_32 g t v1 v3 v4 v5 v6) (fun r => Q (some (eI r.1)) r.2) → nX W (d + 1) tX0_perform Q a0 e0 32 [some (eR (some (0, 0))), some (eO 1 v1), some (eI v2), some (eI v3), some (eI v4), some (eI v5), some (eI v6), none] [] t bc bs := by
  intro t v1 v2 v3 v4 v5 v6 H
  unfold B_X0_perform_32 at H
  refine nx_ld rfl rfl rfl rfl ?_
  refine nx_if rfl rfl (by rfl) H (fun H => ?_) (fun H => ?_)
  · refine nx_int (x := 0) rfl rfl ?_
    exact nx_rit rfl rfl H
  refine nx_ld rfl rfl rfl rfl ?_
  refine nx_int (x := 40) rfl rfl ?_
  refine nx_icmp rfl rfl (by rfl) H (fun H => ?_) (fun H => ?_)
  · refine nx_sta 4 rfl rfl ?_
    refine nx_int (x := 4) rfl rfl ?_
    refine nx_ld rfl rfl rfl rfl ?_
    refine nx_ii rfl rfl ?_
    refine nx_ld rfl rfl rfl rfl ?_
    refine nx_ii rfl rfl ?_
    refine nx_ialdZ (s := 4) rfl rfl (by decide) H (fun H => ?_)
    show nX _ _ _ _ _ _ 56 _ _ _ _ _
    refine nx_st (ls' := [some (eR (some (0, 0))), some (eO 1 v1), some (eI v2), some (eI v3), some (eI v4), some (eI v5), some (eI v6), some (eI ((mm_sv 4).getD ((4 * v6) + v3).toNatClampNeg 0))]) rfl rfl rfl (Nat.le_of_ble_eq_true rfl) rfl ?_
    refine nx_ld rfl rfl rfl rfl ?_
    refine nx_getI rfl rfl rfl (by decide) ?_
    refine nx_ld rfl rfl rfl rfl ?_
    refine nx_getFix rfl rfl rfl (by decide) (by rw [hW]; rfl) rfl ?_
    refine nx_alen (p := (2000, 0)) rfl rfl (Nat.le_of_ble_eq_true rfl) (Nat.le_of_ble_eq_true rfl) (Nat.le_of_ble_eq_true rfl) ?_
    refine nx_icmp rfl rfl (by rfl) H (fun H => ?_) (fun H => ?_)
    · exact TB_X0_perform_81 hW  hg0 hg1  _ _ _ _ _ _ _ _ H
    refine nx_ld rfl rfl rfl rfl ?_
    refine nx_getFix rfl rfl rfl (by decide) (by rw [hW]; rfl) rfl ?_
    refine nx_ld rfl rfl rfl rfl ?_
    refine nx_getI rfl rfl rfl (by decide) ?_
    refine nx_ld rfl rfl rfl rfl ?_
    refine nx_iast (p := (2000, 0)) rfl rfl (Nat.le_of_ble_eq_true rfl) (Nat.le_of_ble_eq_true rfl) rfl H (fun t21 H => ?_)
    exact TB_X0_perform_81 hW  hg0 hg1  _ _ _ _ _ _ _ _ H
  refine nx_int (x := 0) rfl rfl ?_
  exact nx_rit rfl rfl H
def BB_X0_perform_3 (g : Nat → TS → (Option Nat) → Int32 → Int32 → Int32 → Int32 → Option (Int32 × TS)) (k3 : TS → (Option Nat) → Int32 → Int32 → Int32 → Int32 → Option (Int32 × TS)) (t : TS) (v1 : Option Nat) (v3 : Int32) (v4 : Int32) (v5 : Int32) (v6 : Int32) : Option (Int32 × TS) := (if v6 ≤ 0 then (B_X0_perform_32 g  t v1 v3 v4 v5 v6) else (gd ((4 * v6) + v3) (mm_sv 4).length (if ¬ ((mm_sv 4).getD ((4 * v6) + v3).toNatClampNeg 0) = 0 then (B_X0_perform_32 g  t v1 v3 v4 v5 v6) else (gd v6 (mm_sv 0).length (k3 t v1 v3 v4 v5 ((mm_sv 0).getD v6.toNatClampNeg 0))))))
theorem TBB_X0_perform_3 {W : NW} {d : Nat} {Q : Option NV → TS → Prop} {a0 : Nat → Nat → Nat} {e0 : Nat → Nat → Bool} {g : Nat → TS → (Option Nat) → Int32 → Int32 → Int32 → Int32 → Option (Int32 × TS)} {k3 : TS → (Option Nat) → Int32 → Int32 → Int32 → Int32 → Option (Int32 × TS)} {bc bs : Nat} (hW : W.2.2.2 = mm_fx) (hg0 : ∀ (t : TS) (o1 : Option Nat) (x2 : Int32) (x3 : Int32) (x4 : Int32) (x5 : Int32) (bc bs : Nat) (Q : Option NV → TS → Prop), wp (g 0 t o1 x2 x3 x4 x5) (fun r => Q (some (eI r.1)) r.2) → nC W (d + 1) 1 [eR (some (0, 0)), eO 1 o1, eI x2, eI x3, eI x4, eI x5] t bc bs Q) (hg1 : ∀ (t : TS) (o1 : Option Nat) (x2 : Int32) (x3 : Int32) (x4 : Int32) (x5 : Int32) (bc bs : Nat) (Q : Option NV → TS → Prop), wp (g 1 t o1 x2 x3 x4 x5) (fun r => Q (some (eI r.1)) r.2) → nC W (d + 1) 2 [eR (some (0, 0)), eO 1 o1, eI x2, eI x3, eI x4, eI x5] t bc bs Q) (hk3 : ∀ (t : TS) (v1 : Option Nat) (v2 : Int32) (v3 : Int32) (v4 : Int32) (v5 : Int32) (v6 : Int32), wp (k3 t v1 v3 v4 v5 v6) (fun r => Q (some (eI r.1)) r.2) → nX W (d + 1) tX0_perform Q a0 e0 3 [some (eR (some (0, 0))), some (eO 1 v1), some (eI v2), some (eI v3), some (eI v4), some (eI v5), some (eI v6), none] [] t bc bs) : ∀ (t : TS) (v1 : Option Nat) (v2 : Int32) (v3 : Int32) (v4 : Int32) (v5 : Int32) (v6 : Int32), wp (BB_X0_perform_3 g k3 t v1 v3 v4 v5 v6) (fun r => Q (some (eI r.1)) r.2) → nX W (d + 1) tX0_perform Q a0 e0 3 [some (eR (some (0, 0))), some (eO 1 v1), some (eI v2), some (eI v3), some (eI v4), some (eI v5), some (eI v6), none] [] t bc bs := by
  intro t v1 v2 v3 v4 v5 v6 H
  unfold BB_X0_perform_3 at H
  refine nx_ld rfl rfl rfl rfl ?_
  refine nx_if rfl rfl (by rfl) H (fun H => ?_) (fun H => ?_)
  · exact TB_X0_perform_32 hW  hg0 hg1  _ _ _ _ _ _ _ H
  refine nx_sta 4 rfl rfl ?_
  refine nx_int (x := 4) rfl rfl ?_
  refine nx_ld rfl rfl rfl rfl ?_
  refine nx_ii rfl rfl ?_
  refine nx_ld rfl rfl rfl rfl ?_
  refine nx_ii rfl rfl ?_
  refine nx_ialdZ (s := 4) rfl rfl (by decide) H (fun H => ?_)
  show nX _ _ _ _ _ _ 18 _ _ _ _ _
  refine nx_if rfl rfl (by rfl) H (fun H => ?_) (fun H => ?_)
  · exact TB_X0_perform_32 hW  hg0 hg1  _ _ _ _ _ _ _ H
  refine nx_sta 0 rfl rfl ?_
  refine nx_ld rfl rfl rfl rfl ?_
  refine nx_ialdZ (s := 0) rfl rfl (by decide) H (fun H => ?_)
  refine nx_st (ls' := [some (eR (some (0, 0))), some (eO 1 v1), some (eI v2), some (eI v3), some (eI v4), some (eI v5), some (eI ((mm_sv 0).getD v6.toNatClampNeg 0)), none]) rfl rfl rfl (Nat.le_of_ble_eq_true rfl) rfl ?_
  refine nx_goto rfl rfl ?_
  exact hk3 _ _ _ _ _ _ _ H
def B_X0_perform_3 (g : Nat → TS → (Option Nat) → Int32 → Int32 → Int32 → Int32 → Option (Int32 × TS)) : Nat → TS → (Option Nat) → Int32 → Int32 → Int32 → Int32 → Option (Int32 × TS)
  | 0 => fun _ _ _ _ _ _ => none
  | n + 1 => fun t v1 v3 v4 v5 v6 => BB_X0_perform_3 g (B_X0_perform_3 g n) t v1 v3 v4 v5 v6
theorem TB_X0_perform_3 {W : NW} {d : Nat} {Q : Option NV → TS → Prop} {a0 : Nat → Nat → Nat} {e0 : Nat → Nat → Bool} {g : Nat → TS → (Option Nat) → Int32 → Int32 → Int32 → Int32 → Option (Int32 × TS)} {bc bs : Nat} (hW : W.2.2.2 = mm_fx) (hg0 : ∀ (t : TS) (o1 : Option Nat) (x2 : Int32) (x3 : Int32) (x4 : Int32) (x5 : Int32) (bc bs : Nat) (Q : Option NV → TS → Prop), wp (g 0 t o1 x2 x3 x4 x5) (fun r => Q (some (eI r.1)) r.2) → nC W (d + 1) 1 [eR (some (0, 0)), eO 1 o1, eI x2, eI x3, eI x4, eI x5] t bc bs Q) (hg1 : ∀ (t : TS) (o1 : Option Nat) (x2 : Int32) (x3 : Int32) (x4 : Int32) (x5 : Int32) (bc bs : Nat) (Q : Option NV → TS → Prop), wp (g 1 t o1 x2 x3 x4 x5) (fun r => Q (some (eI r.1)) r.2) → nC W (d + 1) 2 [eR (some (0, 0)), eO 1 o1, eI x2, eI x3, eI x4, eI x5] t bc bs Q) : ∀ (n : Nat) (t : TS) (v1 : Option Nat) (v2 : Int32) (v3 : Int32) (v4 : Int32) (v5 : Int32) (v6 : Int32), wp (B_X0_perform_3 g n t v1 v3 v4 v5 v6) (fun r => Q (some (eI r.1)) r.2) → nX W (d + 1) tX0_perform Q a0 e0 3 [some (eR (some (0, 0))), some (eO 1 v1), some (eI v2), some (eI v3), some (eI v4), some (eI v5), some (eI v6), none] [] t bc bs := by
  intro n
  induction n with
  | zero => intro t v1 v2 v3 v4 v5 v6 H; exact (wp_none H).elim
  | succ n ih =>
    intro t v1 v2 v3 v4 v5 v6 H
    exact TBB_X0_perform_3 hW  hg0 hg1   ih t v1 v2 v3 v4 v5 v6 H
def Fb_X0_perform (g : Nat → TS → (Option Nat) → Int32 → Int32 → Int32 → Int32 → Option (Int32 × TS)) (t : TS) (o1 : Option Nat) (x2 : Int32) (x3 : Int32) (x4 : Int32) (x5 : Int32) : Option (Int32 × TS) := (B_X0_perform_3 g  10000 t o1 x3 x4 x5 x2)
theorem TFb_X0_perform {W : NW} {d : Nat} {g : Nat → TS → (Option Nat) → Int32 → Int32 → Int32 → Int32 → Option (Int32 × TS)} {t : TS} {o1 : Option Nat} {x2 : Int32} {x3 : Int32} {x4 : Int32} {x5 : Int32} {Q : Option NV → TS → Prop} {bc bs : Nat} (hW : W.2.2.2 = mm_fx) (hg0 : ∀ (t : TS) (o1 : Option Nat) (x2 : Int32) (x3 : Int32) (x4 : Int32) (x5 : Int32) (bc bs : Nat) (Q : Option NV → TS → Prop), wp (g 0 t o1 x2 x3 x4 x5) (fun r => Q (some (eI r.1)) r.2) → nC W (d + 1) 1 [eR (some (0, 0)), eO 1 o1, eI x2, eI x3, eI x4, eI x5] t bc bs Q) (hg1 : ∀ (t : TS) (o1 : Option Nat) (x2 : Int32) (x3 : Int32) (x4 : Int32) (x5 : Int32) (bc bs : Nat) (Q : Option NV → TS → Prop), wp (g 1 t o1 x2 x3 x4 x5) (fun r => Q (some (eI r.1)) r.2) → nC W (d + 1) 2 [eR (some (0, 0)), eO 1 o1, eI x2, eI x3, eI x4, eI x5] t bc bs Q) (H : wp (Fb_X0_perform g t o1 x2 x3 x4 x5) (fun r => Q (some (eI r.1)) r.2)) : nC W (d + 2) 1 [eR (some (0, 0)), eO 1 o1, eI x2, eI x3, eI x4, eI x5] t bc bs Q := by
  refine nC_in (d := (d + 1)) (T := tX0_perform) (ls := [some (eR (some (0, 0))), some (eO 1 o1), some (eI x2), some (eI x3), some (eI x4), some (eI x5), none, none]) rfl (Nat.le_of_ble_eq_true rfl) rfl (fun a0 e0 => ?_)
  unfold Fb_X0_perform at H
  refine nx_ld rfl rfl rfl rfl ?_
  refine nx_st (ls' := [some (eR (some (0, 0))), some (eO 1 o1), some (eI x2), some (eI x3), some (eI x4), some (eI x5), some (eI x2), none]) rfl rfl rfl (Nat.le_of_ble_eq_true rfl) rfl ?_
  exact TB_X0_perform_3 hW  hg0 hg1  10000 _ _ _ _ _ _ _ H
def Fb_X0_run (g : Nat → TS → (Option Nat) → Int32 → Int32 → Int32 → Int32 → Option (Int32 × TS)) (t : TS) (o1 : Option Nat) (x2 : Int32) (x3 : Int32) (x4 : Int32) (x5 : Int32) : Option (Int32 × TS) := (oc o1 none (fun j21 => (swl x2 [(1, (some ((x4 - (tI t 100 j21)), t))), (2, (ob2 (g 0 t (some j21) (tI t 101 j21) 1 x4 x5) (fun x23 t24 => (ob2 (g 0 t24 (some j21) (tI t 101 j21) 2 x23 x5) (fun x26 t27 => (some (x26, t27))))))), (10, (ob2 (g 0 t (some j21) (tI t 101 j21) 0 x4 x5) (fun x29 t30 => (some ((x29 + 4), t30))))), (11, (some ((x4 ^^^ (tI t 100 j21)), t))), (20, (ob2 (g 0 t (some j21) x3 0 x4 x5) (fun x32 t33 => (some ((x32 * 2), t33))))), (30, (ob2 (g 0 t (some j21) x3 1 x4 x5) (fun x35 t36 => (some ((x35 - (tI t36 106 j21)), t36))))), (31, (ob2 (g 0 t (some j21) 0 3 x4 x5) (fun x38 t39 => (some ((x38 + 1), t39))))), (40, (ob2 (g 0 t (some j21) x3 0 (x4 + 1) x5) (fun x41 t42 => (some (x41, t42))))), (41, (ob2 (g 0 t (some j21) x3 2 x4 x5) (fun x44 t45 => (ob2 (g 0 t45 (some j21) (tI t 101 j21) 0 0 x5) (fun x47 t48 => (some ((x44 + x47), t48))))))), (50, (ob2 (g 0 t (some j21) x3 1 x4 x5) (fun x50 t51 => (some ((x50 * 3), t51))))), (60, (ob2 (g 0 t (some j21) x3 2 x4 x5) (fun x53 t54 => (some (((-x53)), t54))))), (61, (ob2 (g 0 t (some j21) x3 1 x4 x5) (fun x56 t57 => (some ((x56 ^^^ (tI t57 102 j21)), t57))))), (70, (ob2 (g 0 t (some j21) x3 3 x4 x5) (fun x59 t60 => (ob2 (g 0 t60 (some j21) (tI t 101 j21) 0 1 x5) (fun x62 t63 => (some ((x59 - x62), t63))))))), (80, (ob2 (g 0 t (some j21) x3 1 x4 x5) (fun x65 t66 => (ob2 (g 0 t66 (some j21) x3 2 x4 x5) (fun x68 t69 => (some ((x65 + x68), t69)))))))] (some (0, t)))))
theorem TFb_X0_run {W : NW} {d : Nat} {g : Nat → TS → (Option Nat) → Int32 → Int32 → Int32 → Int32 → Option (Int32 × TS)} {t : TS} {o1 : Option Nat} {x2 : Int32} {x3 : Int32} {x4 : Int32} {x5 : Int32} {Q : Option NV → TS → Prop} {bc bs : Nat} (hW : W.2.2.2 = mm_fx) (hg0 : ∀ (t : TS) (o1 : Option Nat) (x2 : Int32) (x3 : Int32) (x4 : Int32) (x5 : Int32) (bc bs : Nat) (Q : Option NV → TS → Prop), wp (g 0 t o1 x2 x3 x4 x5) (fun r => Q (some (eI r.1)) r.2) → nC W (d + 1) 1 [eR (some (0, 0)), eO 1 o1, eI x2, eI x3, eI x4, eI x5] t bc bs Q) (hg1 : ∀ (t : TS) (o1 : Option Nat) (x2 : Int32) (x3 : Int32) (x4 : Int32) (x5 : Int32) (bc bs : Nat) (Q : Option NV → TS → Prop), wp (g 1 t o1 x2 x3 x4 x5) (fun r => Q (some (eI r.1)) r.2) → nC W (d + 1) 2 [eR (some (0, 0)), eO 1 o1, eI x2, eI x3, eI x4, eI x5] t bc bs Q) (H : wp (Fb_X0_run g t o1 x2 x3 x4 x5) (fun r => Q (some (eI r.1)) r.2)) : nC W (d + 2) 2 [eR (some (0, 0)), eO 1 o1, eI x2, eI x3, eI x4, eI x5] t bc bs Q := by
  refine nC_in (d := (d + 1)) (T := tX0_run) (ls := [some (eR (some (0, 0))), some (eO 1 o1), some (eI x2), some (eI x3), some (eI x4), some (eI x5), none]) rfl (Nat.le_of_ble_eq_true rfl) rfl (fun a0 e0 => ?_)
  unfold Fb_X0_run at H
  refine nx_ld rfl rfl rfl rfl ?_
  rcases o1 with _ | j21
  · exact (wp_none (oc_no H)).elim
  replace H := oc_so H
  refine nx_getI rfl rfl rfl (by decide) ?_
  refine nx_st (ls' := [some (eR (some (0, 0))), some (eR (some (1, j21))), some (eI x2), some (eI x3), some (eI x4), some (eI x5), some (eI (tI t 101 j21))]) rfl rfl rfl (Nat.le_of_ble_eq_true rfl) rfl ?_
  refine nx_ld rfl rfl rfl rfl ?_
  refine nx_lsw rfl rfl H (fun H => ?_) ?_
  · show nX _ _ _ _ _ _ 357 _ _ _ _ _
    refine nx_int (x := 0) rfl rfl ?_
    exact nx_rit rfl rfl H
  refine ⟨rfl, by decide, by decide, fun H => ?_, rfl, by decide, by decide, fun H => ?_, rfl, by decide, by decide, fun H => ?_, rfl, by decide, by decide, fun H => ?_, rfl, by decide, by decide, fun H => ?_, rfl, by decide, by decide, fun H => ?_, rfl, by decide, by decide, fun H => ?_, rfl, by decide, by decide, fun H => ?_, rfl, by decide, by decide, fun H => ?_, rfl, by decide, by decide, fun H => ?_, rfl, by decide, by decide, fun H => ?_, rfl, by decide, by decide, fun H => ?_, rfl, by decide, by decide, fun H => ?_, rfl, by decide, by decide, fun H => ?_, trivial⟩
  · show nX _ _ _ _ _ _ 128 _ _ _ _ _
    replace H := sw2 H
    refine nx_ld rfl rfl rfl rfl ?_
    refine nx_ld rfl rfl rfl rfl ?_
    refine nx_getI rfl rfl rfl (by decide) ?_
    refine nx_ii rfl rfl ?_
    exact nx_rit rfl rfl H
  · show nX _ _ _ _ _ _ 136 _ _ _ _ _
    replace H := sw2 H
    refine nx_ld rfl rfl rfl rfl ?_
    refine nx_ld rfl rfl rfl rfl ?_
    refine nx_ld rfl rfl rfl rfl ?_
    refine nx_int (x := 2) rfl rfl ?_
    refine nx_ld rfl rfl rfl rfl ?_
    refine nx_ld rfl rfl rfl rfl ?_
    refine nx_ld rfl rfl rfl rfl ?_
    show nX _ _ _ _ _ _ 145 _ _ _ _ _
    refine nx_int (x := 1) rfl rfl ?_
    refine nx_ld rfl rfl rfl rfl ?_
    refine nx_ld rfl rfl rfl rfl ?_
    refine nx_cVI2 (as := [eO 1 (some j21), eI (tI t 101 j21), eI 1, eI x4, eI x5]) (st' := [eI 2, eI (tI t 101 j21), eR (some (1, j21)), eR (some (0, 0))]) rfl rfl (Nat.le_of_ble_eq_true rfl) rfl rfl (Nat.le_of_ble_eq_true rfl) (c0 := 0) rfl (by decide) H (fun Q H => hg0 _ _ _ _ _ _ _ _ _ H) (fun x23 t24 H => ?_)
    refine nx_ld rfl rfl rfl rfl ?_
    refine nx_cVI2 (as := [eO 1 (some j21), eI (tI t 101 j21), eI 2, eI x23, eI x5]) (st' := []) rfl rfl (Nat.le_of_ble_eq_true rfl) rfl rfl (Nat.le_of_ble_eq_true rfl) (c0 := 0) rfl (by decide) H (fun Q H => hg0 _ _ _ _ _ _ _ _ _ H) (fun x26 t27 H => ?_)
    exact nx_rit rfl rfl H
  · show nX _ _ _ _ _ _ 159 _ _ _ _ _
    replace H := sw2 H
    refine nx_ld rfl rfl rfl rfl ?_
    refine nx_ld rfl rfl rfl rfl ?_
    refine nx_ld rfl rfl rfl rfl ?_
    refine nx_int (x := 0) rfl rfl ?_
    refine nx_ld rfl rfl rfl rfl ?_
    refine nx_ld rfl rfl rfl rfl ?_
    refine nx_cVI2 (as := [eO 1 (some j21), eI (tI t 101 j21), eI 0, eI x4, eI x5]) (st' := []) rfl rfl (Nat.le_of_ble_eq_true rfl) rfl rfl (Nat.le_of_ble_eq_true rfl) (c0 := 0) rfl (by decide) H (fun Q H => hg0 _ _ _ _ _ _ _ _ _ H) (fun x29 t30 H => ?_)
    show nX _ _ _ _ _ _ 171 _ _ _ _ _
    refine nx_int (x := 4) rfl rfl ?_
    refine nx_ii rfl rfl ?_
    exact nx_rit rfl rfl H
  · show nX _ _ _ _ _ _ 174 _ _ _ _ _
    replace H := sw2 H
    refine nx_ld rfl rfl rfl rfl ?_
    refine nx_ld rfl rfl rfl rfl ?_
    refine nx_getI rfl rfl rfl (by decide) ?_
    refine nx_ii rfl rfl ?_
    exact nx_rit rfl rfl H
  · show nX _ _ _ _ _ _ 182 _ _ _ _ _
    replace H := sw2 H
    refine nx_ld rfl rfl rfl rfl ?_
    refine nx_ld rfl rfl rfl rfl ?_
    refine nx_ld rfl rfl rfl rfl ?_
    refine nx_int (x := 0) rfl rfl ?_
    refine nx_ld rfl rfl rfl rfl ?_
    refine nx_ld rfl rfl rfl rfl ?_
    refine nx_cVI2 (as := [eO 1 (some j21), eI x3, eI 0, eI x4, eI x5]) (st' := []) rfl rfl (Nat.le_of_ble_eq_true rfl) rfl rfl (Nat.le_of_ble_eq_true rfl) (c0 := 0) rfl (by decide) H (fun Q H => hg0 _ _ _ _ _ _ _ _ _ H) (fun x32 t33 H => ?_)
    show nX _ _ _ _ _ _ 193 _ _ _ _ _
    refine nx_int (x := 2) rfl rfl ?_
    refine nx_ii rfl rfl ?_
    exact nx_rit rfl rfl H
  · show nX _ _ _ _ _ _ 196 _ _ _ _ _
    replace H := sw2 H
    refine nx_ld rfl rfl rfl rfl ?_
    refine nx_ld rfl rfl rfl rfl ?_
    refine nx_ld rfl rfl rfl rfl ?_
    refine nx_int (x := 1) rfl rfl ?_
    refine nx_ld rfl rfl rfl rfl ?_
    refine nx_ld rfl rfl rfl rfl ?_
    refine nx_cVI2 (as := [eO 1 (some j21), eI x3, eI 1, eI x4, eI x5]) (st' := []) rfl rfl (Nat.le_of_ble_eq_true rfl) rfl rfl (Nat.le_of_ble_eq_true rfl) (c0 := 0) rfl (by decide) H (fun Q H => hg0 _ _ _ _ _ _ _ _ _ H) (fun x35 t36 H => ?_)
    show nX _ _ _ _ _ _ 207 _ _ _ _ _
    refine nx_ld rfl rfl rfl rfl ?_
    refine nx_getI rfl rfl rfl (by decide) ?_
    refine nx_ii rfl rfl ?_
    exact nx_rit rfl rfl H
  · show nX _ _ _ _ _ _ 213 _ _ _ _ _
    replace H := sw2 H
    refine nx_ld rfl rfl rfl rfl ?_
    refine nx_ld rfl rfl rfl rfl ?_
    refine nx_int (x := 0) rfl rfl ?_
    refine nx_int (x := 3) rfl rfl ?_
    refine nx_ld rfl rfl rfl rfl ?_
    refine nx_ld rfl rfl rfl rfl ?_
    refine nx_cVI2 (as := [eO 1 (some j21), eI 0, eI 3, eI x4, eI x5]) (st' := []) rfl rfl (Nat.le_of_ble_eq_true rfl) rfl rfl (Nat.le_of_ble_eq_true rfl) (c0 := 0) rfl (by decide) H (fun Q H => hg0 _ _ _ _ _ _ _ _ _ H) (fun x38 t39 H => ?_)
    show nX _ _ _ _ _ _ 224 _ _ _ _ _
    refine nx_int (x := 1) rfl rfl ?_
    refine nx_ii rfl rfl ?_
    exact nx_rit rfl rfl H
  · show nX _ _ _ _ _ _ 227 _ _ _ _ _
    replace H := sw2 H
    refine nx_ld rfl rfl rfl rfl ?_
    refine nx_ld rfl rfl rfl rfl ?_
    refine nx_ld rfl rfl rfl rfl ?_
    refine nx_int (x := 0) rfl rfl ?_
    refine nx_ld rfl rfl rfl rfl ?_
    refine nx_int (x := 1) rfl rfl ?_
    refine nx_ii rfl rfl ?_
    show nX _ _ _ _ _ _ 235 _ _ _ _ _
    refine nx_ld rfl rfl rfl rfl ?_
    refine nx_cVI2 (as := [eO 1 (some j21), eI x3, eI 0, eI (x4 + 1), eI x5]) (st' := []) rfl rfl (Nat.le_of_ble_eq_true rfl) rfl rfl (Nat.le_of_ble_eq_true rfl) (c0 := 0) rfl (by decide) H (fun Q H => hg0 _ _ _ _ _ _ _ _ _ H) (fun x41 t42 H => ?_)
    exact nx_rit rfl rfl H
  · show nX _ _ _ _ _ _ 241 _ _ _ _ _
    replace H := sw2 H
    refine nx_ld rfl rfl rfl rfl ?_
    refine nx_ld rfl rfl rfl rfl ?_
    refine nx_ld rfl rfl rfl rfl ?_
    refine nx_int (x := 2) rfl rfl ?_
    refine nx_ld rfl rfl rfl rfl ?_
    refine nx_ld rfl rfl rfl rfl ?_
    refine nx_cVI2 (as := [eO 1 (some j21), eI x3, eI 2, eI x4, eI x5]) (st' := []) rfl rfl (Nat.le_of_ble_eq_true rfl) rfl rfl (Nat.le_of_ble_eq_true rfl) (c0 := 0) rfl (by decide) H (fun Q H => hg0 _ _ _ _ _ _ _ _ _ H) (fun x44 t45 H => ?_)
    show nX _ _ _ _ _ _ 252 _ _ _ _ _
    refine nx_ld rfl rfl rfl rfl ?_
    refine nx_ld rfl rfl rfl rfl ?_
    refine nx_ld rfl rfl rfl rfl ?_
    refine nx_int (x := 0) rfl rfl ?_
    refine nx_int (x := 0) rfl rfl ?_
    refine nx_ld rfl rfl rfl rfl ?_
    refine nx_cVI2 (as := [eO 1 (some j21), eI (tI t 101 j21), eI 0, eI 0, eI x5]) (st' := [eI x44]) rfl rfl (Nat.le_of_ble_eq_true rfl) rfl rfl (Nat.le_of_ble_eq_true rfl) (c0 := 0) rfl (by decide) H (fun Q H => hg0 _ _ _ _ _ _ _ _ _ H) (fun x47 t48 H => ?_)
    refine nx_ii rfl rfl ?_
    show nX _ _ _ _ _ _ 264 _ _ _ _ _
    exact nx_rit rfl rfl H
  · show nX _ _ _ _ _ _ 265 _ _ _ _ _
    replace H := sw2 H
    refine nx_ld rfl rfl rfl rfl ?_
    refine nx_ld rfl rfl rfl rfl ?_
    refine nx_ld rfl rfl rfl rfl ?_
    refine nx_int (x := 1) rfl rfl ?_
    refine nx_ld rfl rfl rfl rfl ?_
    refine nx_ld rfl rfl rfl rfl ?_
    refine nx_cVI2 (as := [eO 1 (some j21), eI x3, eI 1, eI x4, eI x5]) (st' := []) rfl rfl (Nat.le_of_ble_eq_true rfl) rfl rfl (Nat.le_of_ble_eq_true rfl) (c0 := 0) rfl (by decide) H (fun Q H => hg0 _ _ _ _ _ _ _ _ _ H) (fun x50 t51 H => ?_)
    show nX _ _ _ _ _ _ 276 _ _ _ _ _
    refine nx_int (x := 3) rfl rfl ?_
    refine nx_ii rfl rfl ?_
    exact nx_rit rfl rfl H
  · show nX _ _ _ _ _ _ 279 _ _ _ _ _
    replace H := sw2 H
    refine nx_ld rfl rfl rfl rfl ?_
    refine nx_ld rfl rfl rfl rfl ?_
    refine nx_ld rfl rfl rfl rfl ?_
    refine nx_int (x := 2) rfl rfl ?_
    refine nx_ld rfl rfl rfl rfl ?_
    refine nx_ld rfl rfl rfl rfl ?_
    refine nx_cVI2 (as := [eO 1 (some j21), eI x3, eI 2, eI x4, eI x5]) (st' := []) rfl rfl (Nat.le_of_ble_eq_true rfl) rfl rfl (Nat.le_of_ble_eq_true rfl) (c0 := 0) rfl (by decide) H (fun Q H => hg0 _ _ _ _ _ _ _ _ _ H) (fun x53 t54 H => ?_)
    show nX _ _ _ _ _ _ 290 _ _ _ _ _
    refine nx_i1 rfl rfl ?_
    exact nx_rit rfl rfl H
  · show nX _ _ _ _ _ _ 292 _ _ _ _ _
    replace H := sw2 H
    refine nx_ld rfl rfl rfl rfl ?_
    refine nx_ld rfl rfl rfl rfl ?_
    refine nx_ld rfl rfl rfl rfl ?_
    refine nx_int (x := 1) rfl rfl ?_
    refine nx_ld rfl rfl rfl rfl ?_
    refine nx_ld rfl rfl rfl rfl ?_
    refine nx_cVI2 (as := [eO 1 (some j21), eI x3, eI 1, eI x4, eI x5]) (st' := []) rfl rfl (Nat.le_of_ble_eq_true rfl) rfl rfl (Nat.le_of_ble_eq_true rfl) (c0 := 0) rfl (by decide) H (fun Q H => hg0 _ _ _ _ _ _ _ _ _ H) (fun x56 t57 H => ?_)
    show nX _ _ _ _ _ _ 303 _ _ _ _ _
    refine nx_ld rfl rfl rfl rfl ?_
    refine nx_getI rfl rfl rfl (by decide) ?_
    refine nx_ii rfl rfl ?_
    exact nx_rit rfl rfl H
  · show nX _ _ _ _ _ _ 309 _ _ _ _ _
    replace H := sw2 H
    refine nx_ld rfl rfl rfl rfl ?_
    refine nx_ld rfl rfl rfl rfl ?_
    refine nx_ld rfl rfl rfl rfl ?_
    refine nx_int (x := 3) rfl rfl ?_
    refine nx_ld rfl rfl rfl rfl ?_
    refine nx_ld rfl rfl rfl rfl ?_
    refine nx_cVI2 (as := [eO 1 (some j21), eI x3, eI 3, eI x4, eI x5]) (st' := []) rfl rfl (Nat.le_of_ble_eq_true rfl) rfl rfl (Nat.le_of_ble_eq_true rfl) (c0 := 0) rfl (by decide) H (fun Q H => hg0 _ _ _ _ _ _ _ _ _ H) (fun x59 t60 H => ?_)
    show nX _ _ _ _ _ _ 320 _ _ _ _ _
    refine nx_ld rfl rfl rfl rfl ?_
    refine nx_ld rfl rfl rfl rfl ?_
    refine nx_ld rfl rfl rfl rfl ?_
    refine nx_int (x := 0) rfl rfl ?_
    refine nx_int (x := 1) rfl rfl ?_
    refine nx_ld rfl rfl rfl rfl ?_
    refine nx_cVI2 (as := [eO 1 (some j21), eI (tI t 101 j21), eI 0, eI 1, eI x5]) (st' := [eI x59]) rfl rfl (Nat.le_of_ble_eq_true rfl) rfl rfl (Nat.le_of_ble_eq_true rfl) (c0 := 0) rfl (by decide) H (fun Q H => hg0 _ _ _ _ _ _ _ _ _ H) (fun x62 t63 H => ?_)
    refine nx_ii rfl rfl ?_
    show nX _ _ _ _ _ _ 332 _ _ _ _ _
    exact nx_rit rfl rfl H
  · show nX _ _ _ _ _ _ 333 _ _ _ _ _
    replace H := sw2 H
    refine nx_ld rfl rfl rfl rfl ?_
    refine nx_ld rfl rfl rfl rfl ?_
    refine nx_ld rfl rfl rfl rfl ?_
    refine nx_int (x := 1) rfl rfl ?_
    refine nx_ld rfl rfl rfl rfl ?_
    refine nx_ld rfl rfl rfl rfl ?_
    refine nx_cVI2 (as := [eO 1 (some j21), eI x3, eI 1, eI x4, eI x5]) (st' := []) rfl rfl (Nat.le_of_ble_eq_true rfl) rfl rfl (Nat.le_of_ble_eq_true rfl) (c0 := 0) rfl (by decide) H (fun Q H => hg0 _ _ _ _ _ _ _ _ _ H) (fun x65 t66 H => ?_)
    show nX _ _ _ _ _ _ 344 _ _ _ _ _
    refine nx_ld rfl rfl rfl rfl ?_
    refine nx_ld rfl rfl rfl rfl ?_
    refine nx_ld rfl rfl rfl rfl ?_
    refine nx_int (x := 2) rfl rfl ?_
    refine nx_ld rfl rfl rfl rfl ?_
    refine nx_ld rfl rfl rfl rfl ?_
    refine nx_cVI2 (as := [eO 1 (some j21), eI x3, eI 2, eI x4, eI x5]) (st' := [eI x65]) rfl rfl (Nat.le_of_ble_eq_true rfl) rfl rfl (Nat.le_of_ble_eq_true rfl) (c0 := 0) rfl (by decide) H (fun Q H => hg0 _ _ _ _ _ _ _ _ _ H) (fun x68 t69 H => ?_)
    refine nx_ii rfl rfl ?_
    show nX _ _ _ _ _ _ 356 _ _ _ _ _
    exact nx_rit rfl rfl H
def G_X0_perform : Nat → Nat → TS → (Option Nat) → Int32 → Int32 → Int32 → Int32 → Option (Int32 × TS)
  | 0, _ => fun _ _ _ _ _ _ => none
  | n + 1, w => fun t o1 x2 x3 x4 x5 => match w with
    | 0 => Fb_X0_perform (G_X0_perform n) t o1 x2 x3 x4 x5
    | 1 => Fb_X0_run (G_X0_perform n) t o1 x2 x3 x4 x5
    | _ => none
theorem GS_X0_perform (n : Nat) (t : TS) (o1 : Option Nat) (x2 : Int32) (x3 : Int32) (x4 : Int32) (x5 : Int32) : G_X0_perform (n + 1) 0 t o1 x2 x3 x4 x5 = Fb_X0_perform (G_X0_perform n) t o1 x2 x3 x4 x5 := by simp only [G_X0_perform]
theorem GS_X0_run (n : Nat) (t : TS) (o1 : Option Nat) (x2 : Int32) (x3 : Int32) (x4 : Int32) (x5 : Int32) : G_X0_perform (n + 1) 1 t o1 x2 x3 x4 x5 = Fb_X0_run (G_X0_perform n) t o1 x2 x3 x4 x5 := by simp only [G_X0_perform]
theorem TG_X0_perform {W : NW} {d : Nat} (hW : W.2.2.2 = mm_fx) : ∀ n, (∀ (t : TS) (o1 : Option Nat) (x2 : Int32) (x3 : Int32) (x4 : Int32) (x5 : Int32) (bc bs : Nat) (Q : Option NV → TS → Prop), wp (G_X0_perform n 0 t o1 x2 x3 x4 x5) (fun r => Q (some (eI r.1)) r.2) → nC W (d + n + 1) 1 [eR (some (0, 0)), eO 1 o1, eI x2, eI x3, eI x4, eI x5] t bc bs Q) ∧ (∀ (t : TS) (o1 : Option Nat) (x2 : Int32) (x3 : Int32) (x4 : Int32) (x5 : Int32) (bc bs : Nat) (Q : Option NV → TS → Prop), wp (G_X0_perform n 1 t o1 x2 x3 x4 x5) (fun r => Q (some (eI r.1)) r.2) → nC W (d + n + 1) 2 [eR (some (0, 0)), eO 1 o1, eI x2, eI x3, eI x4, eI x5] t bc bs Q) := by
  intro n
  induction n with
  | zero => exact ⟨fun t o1 x2 x3 x4 x5 bc bs Q H => (wp_none H).elim, fun t o1 x2 x3 x4 x5 bc bs Q H => (wp_none H).elim⟩
  | succ n ih =>
    obtain ⟨i0, i1⟩ := ih
    exact ⟨fun t o1 x2 x3 x4 x5 bc bs Q H => TFb_X0_perform (d := d + n) hW i0 i1 (by rw [GS_X0_perform] at H; exact H), fun t o1 x2 x3 x4 x5 bc bs Q H => TFb_X0_run (d := d + n) hW i0 i1 (by rw [GS_X0_run] at H; exact H)⟩
def F_X0_perform (t : TS) (o1 : Option Nat) (x2 : Int32) (x3 : Int32) (x4 : Int32) (x5 : Int32) : Option (Int32 × TS) := G_X0_perform 100 0 t o1 x2 x3 x4 x5
theorem TF_X0_perform {W : NW} {d : Nat} {t : TS} {o1 : Option Nat} {x2 : Int32} {x3 : Int32} {x4 : Int32} {x5 : Int32} {Q : Option NV → TS → Prop} {bc bs : Nat} (hW : W.2.2.2 = mm_fx) (H : wp (F_X0_perform t o1 x2 x3 x4 x5) (fun r => Q (some (eI r.1)) r.2)) : nC W (d + 101) 1 [eR (some (0, 0)), eO 1 o1, eI x2, eI x3, eI x4, eI x5] t bc bs Q := (TG_X0_perform (d := d) hW 100).1 t o1 x2 x3 x4 x5 bc bs Q H
def F_X0_run (t : TS) (o1 : Option Nat) (x2 : Int32) (x3 : Int32) (x4 : Int32) (x5 : Int32) : Option (Int32 × TS) := G_X0_perform 100 1 t o1 x2 x3 x4 x5
theorem TF_X0_run {W : NW} {d : Nat} {t : TS} {o1 : Option Nat} {x2 : Int32} {x3 : Int32} {x4 : Int32} {x5 : Int32} {Q : Option NV → TS → Prop} {bc bs : Nat} (hW : W.2.2.2 = mm_fx) (H : wp (F_X0_run t o1 x2 x3 x4 x5) (fun r => Q (some (eI r.1)) r.2)) : nC W (d + 101) 2 [eR (some (0, 0)), eO 1 o1, eI x2, eI x3, eI x4, eI x5] t bc bs Q := (TG_X0_perform (d := d) hW 100).2 t o1 x2 x3 x4 x5 bc bs Q H
def B_X1_init_34 (t : TS) (s0 : Option Nat) (s1 : Nat) : Option TS := (nxt (uR t 104 s1 s0) (fun t21 => (some t21)))
theorem TB_X1_init_34 {W : NW} {d : Nat} {Q : Option NV → TS → Prop} {a0 : Nat → Nat → Nat} {e0 : Nat → Nat → Bool} {bc bs : Nat} (hW : W.2.2.2 = mm_fx) : ∀ (t : TS) (v0 : Nat) (v1 : Int32) (v2 : Int32) (s0 : Option Nat) (s1 : Nat), wp (B_X1_init_34 t s0 s1) (fun r => Q none r) → nX W d tX1_init Q a0 e0 34 [some (eR (some (1, v0))), some (eI v1), some (eI v2)] [eO 2104 s0, eR (some (1, s1))] t (bc) (bs) := by
  intro t v0 v1 v2 s0 s1 H
  unfold B_X1_init_34 at H
  refine nx_putR (f := 104) (o := s0) rfl rfl rfl (by decide) (by rw [hW]; rfl) rfl (by decide) H (fun t21 H => ?_)
  exact nx_rv rfl rfl H
def B_X1_init_26 (t : TS) (s0 : Nat) : Option TS := (gE (tE t 2104 s0) (nxt (uN t 2104 s0 10) (fun t21 => (B_X1_init_34  t21 (some s0) s0))))
theorem TB_X1_init_26 {W : NW} {d : Nat} {Q : Option NV → TS → Prop} {a0 : Nat → Nat → Nat} {e0 : Nat → Nat → Bool} {bc bs : Nat} (hW : W.2.2.2 = mm_fx) : ∀ (t : TS) (v0 : Nat) (v1 : Int32) (v2 : Int32) (s0 : Nat), wp (B_X1_init_26 t s0) (fun r => Q none r) → nX W d tX1_init Q a0 e0 26 [some (eR (some (1, v0))), some (eI v1), some (eI v2)] [eR (some (1, s0))] t (bc + 1) (bs + 10) := by
  intro t v0 v1 v2 s0 H
  unfold B_X1_init_26 at H
  refine nx_int (x := 10) rfl rfl ?_
  refine nx_newaL 2104 s0 10 rfl rfl (Nat.le_of_ble_eq_true rfl) (Nat.le_of_ble_eq_true rfl) rfl rfl (by decide) (Nat.le_of_ble_eq_true rfl) (by omega) (by omega) H (fun t21 H => ?_)
  refine nx_eq (bc' := bc) (bs' := bs) (by omega) (by omega) ?_
  refine nx_goto rfl rfl ?_
  refine nx_eq (bc' := (bc) + 0) (bs' := (bs) + 0) (by omega) (by omega) ?_
  exact TB_X1_init_34 hW    _ _ _ _ ((some s0)) _ H
def F_X1_init (t : TS) (i0 : Nat) (x1 : Int32) (x2 : Int32) : Option TS := (nxt (uI t 100 i0 x1) (fun t21 => (nxt (uI t21 101 i0 x2) (fun t22 => (if x2 = 5 then (B_X1_init_26  t22 i0) else (if ¬ x2 = 7 then (B_X1_init_34  t22 none i0) else (B_X1_init_26  t22 i0)))))))
theorem TF_X1_init {W : NW} {d : Nat} {t : TS} {i0 : Nat} {x1 : Int32} {x2 : Int32} {Q : Option NV → TS → Prop} {bc bs : Nat} (hW : W.2.2.2 = mm_fx) (H : wp (F_X1_init t i0 x1 x2) (fun r => Q none r)) : nC W (d + 1) 3 [eR (some (1, i0)), eI x1, eI x2] t (bc + 1) (bs + 10) Q := by
  refine nC_in (d := d) (T := tX1_init) (ls := [some (eR (some (1, i0))), some (eI x1), some (eI x2)]) rfl (Nat.le_of_ble_eq_true rfl) rfl (fun a0 e0 => ?_)
  unfold F_X1_init at H
  refine nx_ld rfl rfl rfl rfl ?_
  refine nx_objI rfl rfl (Nat.le_of_ble_eq_true rfl) ?_
  refine nx_ld rfl rfl rfl rfl ?_
  refine nx_ld rfl rfl rfl rfl ?_
  refine nx_putI rfl rfl rfl (by decide) H (fun t21 H => ?_)
  refine nx_ld rfl rfl rfl rfl ?_
  refine nx_ld rfl rfl rfl rfl ?_
  show nX _ _ _ _ _ _ 11 _ _ _ _ _
  refine nx_putI rfl rfl rfl (by decide) H (fun t22 H => ?_)
  refine nx_ld rfl rfl rfl rfl ?_
  refine nx_ld rfl rfl rfl rfl ?_
  refine nx_int (x := 5) rfl rfl ?_
  refine nx_icmp rfl rfl (by rfl) H (fun H => ?_) (fun H => ?_)
  · refine nx_eq (bc' := (bc) + 1) (bs' := (bs) + 10) (by omega) (by omega) ?_
    exact TB_X1_init_26 hW    _ _ _ _ _ H
  refine nx_ld rfl rfl rfl rfl ?_
  refine nx_int (x := 7) rfl rfl ?_
  refine nx_icmp rfl rfl (by rfl) H (fun H => ?_) (fun H => ?_)
  · refine nx_nul 2104 rfl rfl ?_
    refine nx_eq (bc' := (bc + 1) + 0) (bs' := (bs + 10) + 0) (by omega) (by omega) ?_
    exact TB_X1_init_34 hW    _ _ _ _ _ _ H
  refine nx_eq (bc' := (bc) + 1) (bs' := (bs) + 10) (by omega) (by omega) ?_
  exact TB_X1_init_26 hW    _ _ _ _ _ H
def B_X1_isClub_17 (t : TS) : Option Int32 := (some (1))
theorem TB_X1_isClub_17 {W : NW} {d : Nat} {Q : Option NV → TS → Prop} {a0 : Nat → Nat → Nat} {e0 : Nat → Nat → Bool} {t : TS} {bc bs : Nat} (hW : W.2.2.2 = mm_fx) : ∀ (v0 : Nat), wp (B_X1_isClub_17 t) (fun r => Q (some (eI r)) t) → nX W d tX1_isClub Q a0 e0 17 [some (eR (some (1, v0)))] [] t bc bs := by
  intro v0 H
  unfold B_X1_isClub_17 at H
  refine nx_int (x := 1) rfl rfl ?_
  refine nx_goto rfl rfl ?_
  exact nx_rzl rfl rfl (by decide) H
def F_X1_isClub (t : TS) (i0 : Nat) : Option Int32 := (if (tI t 101 i0) = 5 then (B_X1_isClub_17  t) else (if ¬ (tI t 101 i0) = 7 then (some (0)) else (B_X1_isClub_17  t)))
theorem TF_X1_isClub {W : NW} {d : Nat} {t : TS} {i0 : Nat} {Q : Option NV → TS → Prop} {bc bs : Nat} (hW : W.2.2.2 = mm_fx) (H : wp (F_X1_isClub t i0) (fun r => Q (some (eI r)) t)) : nC W (d + 1) 4 [eR (some (1, i0))] t bc bs Q := by
  refine nC_in (d := d) (T := tX1_isClub) (ls := [some (eR (some (1, i0)))]) rfl (Nat.le_of_ble_eq_true rfl) rfl (fun a0 e0 => ?_)
  unfold F_X1_isClub at H
  refine nx_ld rfl rfl rfl rfl ?_
  refine nx_getI rfl rfl rfl (by decide) ?_
  refine nx_int (x := 5) rfl rfl ?_
  refine nx_icmp rfl rfl (by rfl) H (fun H => ?_) (fun H => ?_)
  · exact TB_X1_isClub_17 hW    _ H
  refine nx_ld rfl rfl rfl rfl ?_
  refine nx_getI rfl rfl rfl (by decide) ?_
  refine nx_int (x := 7) rfl rfl ?_
  refine nx_icmp rfl rfl (by rfl) H (fun H => ?_) (fun H => ?_)
  · refine nx_int (x := 0) rfl rfl ?_
    exact nx_rzl rfl rfl (by decide) H
  exact TB_X1_isClub_17 hW    _ H
def B_X1_isPlayer_24 (t : TS) : Option Int32 := (some (1))
theorem TB_X1_isPlayer_24 {W : NW} {d : Nat} {Q : Option NV → TS → Prop} {a0 : Nat → Nat → Nat} {e0 : Nat → Nat → Bool} {t : TS} {bc bs : Nat} (hW : W.2.2.2 = mm_fx) : ∀ (v0 : Nat), wp (B_X1_isPlayer_24 t) (fun r => Q (some (eI r)) t) → nX W d tX1_isPlayer Q a0 e0 24 [some (eR (some (1, v0)))] [] t bc bs := by
  intro v0 H
  unfold B_X1_isPlayer_24 at H
  refine nx_int (x := 1) rfl rfl ?_
  refine nx_goto rfl rfl ?_
  exact nx_rzl rfl rfl (by decide) H
def F_X1_isPlayer (t : TS) (i0 : Nat) : Option Int32 := (if (tI t 101 i0) = 2 then (B_X1_isPlayer_24  t) else (if (tI t 101 i0) = 3 then (B_X1_isPlayer_24  t) else (if ¬ (tI t 101 i0) = 4 then (some (0)) else (B_X1_isPlayer_24  t))))
theorem TF_X1_isPlayer {W : NW} {d : Nat} {t : TS} {i0 : Nat} {Q : Option NV → TS → Prop} {bc bs : Nat} (hW : W.2.2.2 = mm_fx) (H : wp (F_X1_isPlayer t i0) (fun r => Q (some (eI r)) t)) : nC W (d + 1) 5 [eR (some (1, i0))] t bc bs Q := by
  refine nC_in (d := d) (T := tX1_isPlayer) (ls := [some (eR (some (1, i0)))]) rfl (Nat.le_of_ble_eq_true rfl) rfl (fun a0 e0 => ?_)
  unfold F_X1_isPlayer at H
  refine nx_ld rfl rfl rfl rfl ?_
  refine nx_getI rfl rfl rfl (by decide) ?_
  refine nx_int (x := 2) rfl rfl ?_
  refine nx_icmp rfl rfl (by rfl) H (fun H => ?_) (fun H => ?_)
  · exact TB_X1_isPlayer_24 hW    _ H
  refine nx_ld rfl rfl rfl rfl ?_
  refine nx_getI rfl rfl rfl (by decide) ?_
  refine nx_int (x := 3) rfl rfl ?_
  refine nx_icmp rfl rfl (by rfl) H (fun H => ?_) (fun H => ?_)
  · exact TB_X1_isPlayer_24 hW    _ H
  refine nx_ld rfl rfl rfl rfl ?_
  refine nx_getI rfl rfl rfl (by decide) ?_
  refine nx_int (x := 4) rfl rfl ?_
  refine nx_icmp rfl rfl (by rfl) H (fun H => ?_) (fun H => ?_)
  · refine nx_int (x := 0) rfl rfl ?_
    exact nx_rzl rfl rfl (by decide) H
  exact TB_X1_isPlayer_24 hW    _ H
def BB_X1_isUnder_5 (k5 : TS → Int32 → Int32 → Option Int32) (t : TS) (v1 : Int32) (v2 : Int32) : Option Int32 := (if v2 < 0 then (some (0)) else (if ¬ v2 = v1 then (gd v2 (mm_sv 0).length (k5 t v1 ((mm_sv 0).getD v2.toNatClampNeg 0))) else (some (1))))
theorem TBB_X1_isUnder_5 {W : NW} {d : Nat} {Q : Option NV → TS → Prop} {a0 : Nat → Nat → Nat} {e0 : Nat → Nat → Bool} {t : TS} {k5 : TS → Int32 → Int32 → Option Int32} {bc bs : Nat} (hW : W.2.2.2 = mm_fx) (hk5 : ∀ (v0 : Nat) (v1 : Int32) (v2 : Int32), wp (k5 t v1 v2) (fun r => Q (some (eI r)) t) → nX W d tX1_isUnder Q a0 e0 5 [some (eR (some (1, v0))), some (eI v1), some (eI v2)] [] t bc bs) : ∀ (v0 : Nat) (v1 : Int32) (v2 : Int32), wp (BB_X1_isUnder_5 k5 t v1 v2) (fun r => Q (some (eI r)) t) → nX W d tX1_isUnder Q a0 e0 5 [some (eR (some (1, v0))), some (eI v1), some (eI v2)] [] t bc bs := by
  intro v0 v1 v2 H
  unfold BB_X1_isUnder_5 at H
  refine nx_ld rfl rfl rfl rfl ?_
  refine nx_if rfl rfl (by rfl) H (fun H => ?_) (fun H => ?_)
  · refine nx_int (x := 0) rfl rfl ?_
    exact nx_rzl rfl rfl (by decide) H
  refine nx_ld rfl rfl rfl rfl ?_
  refine nx_ld rfl rfl rfl rfl ?_
  refine nx_icmp rfl rfl (by rfl) H (fun H => ?_) (fun H => ?_)
  · refine nx_sta 0 rfl rfl ?_
    refine nx_ld rfl rfl rfl rfl ?_
    refine nx_ialdZ (s := 0) rfl rfl (by decide) H (fun H => ?_)
    refine nx_st (ls' := [some (eR (some (1, v0))), some (eI v1), some (eI ((mm_sv 0).getD v2.toNatClampNeg 0))]) rfl rfl rfl (Nat.le_of_ble_eq_true rfl) rfl ?_
    refine nx_goto rfl rfl ?_
    exact hk5 _ _ _ H
  refine nx_int (x := 1) rfl rfl ?_
  exact nx_rzl rfl rfl (by decide) H
def B_X1_isUnder_5 : Nat → TS → Int32 → Int32 → Option Int32
  | 0 => fun _ _ _ => none
  | n + 1 => fun t v1 v2 => BB_X1_isUnder_5 (B_X1_isUnder_5 n) t v1 v2
theorem TB_X1_isUnder_5 {W : NW} {d : Nat} {Q : Option NV → TS → Prop} {a0 : Nat → Nat → Nat} {e0 : Nat → Nat → Bool} {t : TS} {bc bs : Nat} (hW : W.2.2.2 = mm_fx) : ∀ (n : Nat) (v0 : Nat) (v1 : Int32) (v2 : Int32), wp (B_X1_isUnder_5 n t v1 v2) (fun r => Q (some (eI r)) t) → nX W d tX1_isUnder Q a0 e0 5 [some (eR (some (1, v0))), some (eI v1), some (eI v2)] [] t bc bs := by
  intro n
  induction n with
  | zero => intro v0 v1 v2 H; exact (wp_none H).elim
  | succ n ih =>
    intro v0 v1 v2 H
    exact TBB_X1_isUnder_5 hW    ih v0 v1 v2 H
def F_X1_isUnder (t : TS) (i0 : Nat) (x1 : Int32) : Option Int32 := (B_X1_isUnder_5  10000 t x1 (tI t 101 i0))
theorem TF_X1_isUnder {W : NW} {d : Nat} {t : TS} {i0 : Nat} {x1 : Int32} {Q : Option NV → TS → Prop} {bc bs : Nat} (hW : W.2.2.2 = mm_fx) (H : wp (F_X1_isUnder t i0 x1) (fun r => Q (some (eI r)) t)) : nC W (d + 1) 6 [eR (some (1, i0)), eI x1] t bc bs Q := by
  refine nC_in (d := d) (T := tX1_isUnder) (ls := [some (eR (some (1, i0))), some (eI x1), none]) rfl (Nat.le_of_ble_eq_true rfl) rfl (fun a0 e0 => ?_)
  unfold F_X1_isUnder at H
  refine nx_ld rfl rfl rfl rfl ?_
  refine nx_getI rfl rfl rfl (by decide) ?_
  refine nx_st (ls' := [some (eR (some (1, i0))), some (eI x1), some (eI (tI t 101 i0))]) rfl rfl rfl (Nat.le_of_ble_eq_true rfl) rfl ?_
  exact TB_X1_isUnder_5 hW    10000 _ _ _ H
def F_X1_ageOn (t : TS) (i0 : Nat) (x1 : Int32) : Option Int32 := (some (((x1 - (tI t 105 i0)) / 300)))
theorem TF_X1_ageOn {W : NW} {d : Nat} {t : TS} {i0 : Nat} {x1 : Int32} {Q : Option NV → TS → Prop} {bc bs : Nat} (hW : W.2.2.2 = mm_fx) (H : wp (F_X1_ageOn t i0 x1) (fun r => Q (some (eI r)) t)) : nC W (d + 1) 7 [eR (some (1, i0)), eI x1] t bc bs Q := by
  refine nC_in (d := d) (T := tX1_ageOn) (ls := [some (eR (some (1, i0))), some (eI x1)]) rfl (Nat.le_of_ble_eq_true rfl) rfl (fun a0 e0 => ?_)
  unfold F_X1_ageOn at H
  refine nx_ld rfl rfl rfl rfl ?_
  refine nx_ld rfl rfl rfl rfl ?_
  refine nx_getI rfl rfl rfl (by decide) ?_
  refine nx_ii rfl rfl ?_
  refine nx_int (x := 300) rfl rfl ?_
  refine nx_idivL rfl rfl (by decide) ?_
  exact nx_ri rfl rfl H
def B_X1_append_23 (t : TS) (v0 : Nat) (v1 : Option Nat) : Option TS := (nxt (uR t 110 v0 v1) (fun t21 => (nxt (uI t21 111 v0 ((tI t21 111 v0) + 1)) (fun t22 => (some t22)))))
theorem TB_X1_append_23 {W : NW} {d : Nat} {Q : Option NV → TS → Prop} {a0 : Nat → Nat → Nat} {e0 : Nat → Nat → Bool} {bc bs : Nat} (hW : W.2.2.2 = mm_fx) : ∀ (t : TS) (v0 : Nat) (v1 : Option Nat), wp (B_X1_append_23 t v0 v1) (fun r => Q none r) → nX W d tX1_append Q a0 e0 23 [some (eR (some (1, v0))), some (eO 11 v1)] [] t bc bs := by
  intro t v0 v1 H
  unfold B_X1_append_23 at H
  refine nx_ld rfl rfl rfl rfl ?_
  refine nx_ld rfl rfl rfl rfl ?_
  refine nx_putR (f := 110) (o := v1) rfl rfl rfl (by decide) (by rw [hW]; rfl) rfl (by decide) H (fun t21 H => ?_)
  refine nx_ld rfl rfl rfl rfl ?_
  refine nx_dup rfl rfl (Nat.ne_of_beq_eq_false rfl) ?_
  refine nx_getI rfl rfl rfl (by decide) ?_
  refine nx_int (x := 1) rfl rfl ?_
  show nX _ _ _ _ _ _ 34 _ _ _ _ _
  refine nx_ii rfl rfl ?_
  refine nx_putI rfl rfl rfl (by decide) H (fun t22 H => ?_)
  exact nx_rv rfl rfl H
def F_X1_append (t : TS) (i0 : Nat) (o1 : Option Nat) : Option TS := (nxt (tR t 110 i0) (fun o21 => (oc o21 (nxt (uR t 109 i0 o1) (fun t23 => (B_X1_append_23  t23 i0 o1))) (fun j22 => (nxt (tR t 110 i0) (fun o24 => (oc o24 none (fun j25 => (nxt (uR t 1108 j25 o1) (fun t26 => (B_X1_append_23  t26 i0 o1)))))))))))
theorem TF_X1_append {W : NW} {d : Nat} {t : TS} {i0 : Nat} {o1 : Option Nat} {Q : Option NV → TS → Prop} {bc bs : Nat} (hW : W.2.2.2 = mm_fx) (H : wp (F_X1_append t i0 o1) (fun r => Q none r)) : nC W (d + 1) 8 [eR (some (1, i0)), eO 11 o1] t bc bs Q := by
  refine nC_in (d := d) (T := tX1_append) (ls := [some (eR (some (1, i0))), some (eO 11 o1)]) rfl (Nat.le_of_ble_eq_true rfl) rfl (fun a0 e0 => ?_)
  unfold F_X1_append at H
  refine nx_ld rfl rfl rfl rfl ?_
  refine nx_getR rfl rfl rfl (by decide) rfl H (fun o21 H => ?_)
  rcases o21 with _ | j22
  · replace H := oc_no H
    refine nx_non0 (c := 11) rfl rfl ?_
    refine nx_ld rfl rfl rfl rfl ?_
    refine nx_ld rfl rfl rfl rfl ?_
    refine nx_putR (f := 109) (o := o1) rfl rfl rfl (by decide) (by rw [hW]; rfl) rfl (by decide) H (fun t23 H => ?_)
    refine nx_goto rfl rfl ?_
    exact TB_X1_append_23 hW    _ _ _ H
  replace H := oc_so H
  refine nx_non1 rfl rfl ?_
  refine nx_ld rfl rfl rfl rfl ?_
  refine nx_getR rfl rfl rfl (by decide) rfl H (fun o24 H => ?_)
  refine nx_ld rfl rfl rfl rfl ?_
  rcases o24 with _ | j25
  · exact (wp_none (oc_no H)).elim
  replace H := oc_so H
  refine nx_putR (f := 1108) (o := o1) rfl rfl rfl (by decide) (by rw [hW]; rfl) rfl (by decide) H (fun t26 H => ?_)
  exact TB_X1_append_23 hW    _ _ _ H
def B_X1_owning_45 (t : TS) (v1 : Int32) (v2 : Option Nat) : Option (Option Nat) := (oc v2 (some none) (fun j21 => (if (tI t 1104 j21) < v1 then (some none) else (some (some j21)))))
theorem TB_X1_owning_45 {W : NW} {d : Nat} {Q : Option NV → TS → Prop} {a0 : Nat → Nat → Nat} {e0 : Nat → Nat → Bool} {t : TS} {bc bs : Nat} (hW : W.2.2.2 = mm_fx) : ∀ (v0 : Nat) (v1 : Int32) (v2 : Option Nat) (v3 : Option Nat), wp (B_X1_owning_45 t v1 v2) (fun r => Q (some (eO 11 r)) t) → nX W d tX1_owning Q a0 e0 45 [some (eR (some (1, v0))), some (eI v1), some (eO 11 v2), some (eO 11 v3)] [] t bc bs := by
  intro v0 v1 v2 v3 H
  unfold B_X1_owning_45 at H
  refine nx_ld rfl rfl rfl rfl ?_
  rcases v2 with _ | j21
  · replace H := oc_no H
    refine nx_null0 (c := 11) rfl rfl ?_
    refine nx_nul 11 rfl rfl ?_
    exact nx_ro 11 none rfl rfl H
  replace H := oc_so H
  refine nx_null1 rfl rfl ?_
  refine nx_ld rfl rfl rfl rfl ?_
  refine nx_getI rfl rfl rfl (by decide) ?_
  refine nx_ld rfl rfl rfl rfl ?_
  refine nx_icmp rfl rfl (by rfl) H (fun H => ?_) (fun H => ?_)
  · refine nx_nul 11 rfl rfl ?_
    exact nx_ro 11 none rfl rfl H
  refine nx_ld rfl rfl rfl rfl ?_
  refine nx_goto rfl rfl ?_
  exact nx_ro 11 (some j21) rfl rfl H
def B_X1_owning_37 (k7 : TS → Int32 → (Option Nat) → (Option Nat) → Option (Option Nat)) (t : TS) (v1 : Int32) (v2 : Option Nat) (v3 : Nat) : Option (Option Nat) := (nxt (tR t 1108 v3) (fun o21 => (k7 t v1 v2 o21)))
theorem TB_X1_owning_37 {W : NW} {d : Nat} {Q : Option NV → TS → Prop} {a0 : Nat → Nat → Nat} {e0 : Nat → Nat → Bool} {t : TS} {k7 : TS → Int32 → (Option Nat) → (Option Nat) → Option (Option Nat)} {bc bs : Nat} (hW : W.2.2.2 = mm_fx) (hk7 : ∀ (v0 : Nat) (v1 : Int32) (v2 : Option Nat) (v3 : Option Nat), wp (k7 t v1 v2 v3) (fun r => Q (some (eO 11 r)) t) → nX W d tX1_owning Q a0 e0 7 [some (eR (some (1, v0))), some (eI v1), some (eO 11 v2), some (eO 11 v3)] [] t bc bs) : ∀ (v0 : Nat) (v1 : Int32) (v2 : Option Nat) (v3 : Nat), wp (B_X1_owning_37 k7 t v1 v2 v3) (fun r => Q (some (eO 11 r)) t) → nX W d tX1_owning Q a0 e0 37 [some (eR (some (1, v0))), some (eI v1), some (eO 11 v2), some (eR (some (11, v3)))] [] t bc bs := by
  intro v0 v1 v2 v3 H
  unfold B_X1_owning_37 at H
  refine nx_ld rfl rfl rfl rfl ?_
  refine nx_getR rfl rfl rfl (by decide) rfl H (fun o21 H => ?_)
  refine nx_st (ls' := [some (eR (some (1, v0))), some (eI v1), some (eO 11 v2), some (eO 11 o21)]) rfl rfl rfl (Nat.le_of_ble_eq_true rfl) rfl ?_
  refine nx_goto rfl rfl ?_
  exact hk7 _ _ _ _ H
def BB_X1_owning_7 (k7 : TS → Int32 → (Option Nat) → (Option Nat) → Option (Option Nat)) (t : TS) (v1 : Int32) (v2 : Option Nat) (v3 : Option Nat) : Option (Option Nat) := (oc v3 (B_X1_owning_45  t v1 v2) (fun j21 => (if ¬ (tI t 1102 j21) = 1 then (B_X1_owning_37 k7 t v1 v2 j21) else (if v1 < (tI t 1103 j21) then (B_X1_owning_37 k7 t v1 v2 j21) else (if (tI t 1106 j21) ≤ v1 then (B_X1_owning_37 k7 t v1 v2 j21) else (B_X1_owning_37 k7 t v1 (some j21) j21))))))
theorem TBB_X1_owning_7 {W : NW} {d : Nat} {Q : Option NV → TS → Prop} {a0 : Nat → Nat → Nat} {e0 : Nat → Nat → Bool} {t : TS} {k7 : TS → Int32 → (Option Nat) → (Option Nat) → Option (Option Nat)} {bc bs : Nat} (hW : W.2.2.2 = mm_fx) (hk7 : ∀ (v0 : Nat) (v1 : Int32) (v2 : Option Nat) (v3 : Option Nat), wp (k7 t v1 v2 v3) (fun r => Q (some (eO 11 r)) t) → nX W d tX1_owning Q a0 e0 7 [some (eR (some (1, v0))), some (eI v1), some (eO 11 v2), some (eO 11 v3)] [] t bc bs) : ∀ (v0 : Nat) (v1 : Int32) (v2 : Option Nat) (v3 : Option Nat), wp (BB_X1_owning_7 k7 t v1 v2 v3) (fun r => Q (some (eO 11 r)) t) → nX W d tX1_owning Q a0 e0 7 [some (eR (some (1, v0))), some (eI v1), some (eO 11 v2), some (eO 11 v3)] [] t bc bs := by
  intro v0 v1 v2 v3 H
  unfold BB_X1_owning_7 at H
  refine nx_ld rfl rfl rfl rfl ?_
  rcases v3 with _ | j21
  · replace H := oc_no H
    refine nx_null0 (c := 11) rfl rfl ?_
    exact TB_X1_owning_45 hW    _ _ _ _ H
  replace H := oc_so H
  refine nx_null1 rfl rfl ?_
  refine nx_ld rfl rfl rfl rfl ?_
  refine nx_getI rfl rfl rfl (by decide) ?_
  refine nx_int (x := 1) rfl rfl ?_
  refine nx_icmp rfl rfl (by rfl) H (fun H => ?_) (fun H => ?_)
  · exact TB_X1_owning_37 hW   hk7 _ _ _ _ H
  refine nx_ld rfl rfl rfl rfl ?_
  refine nx_getI rfl rfl rfl (by decide) ?_
  refine nx_ld rfl rfl rfl rfl ?_
  refine nx_icmp rfl rfl (by rfl) H (fun H => ?_) (fun H => ?_)
  · exact TB_X1_owning_37 hW   hk7 _ _ _ _ H
  refine nx_ld rfl rfl rfl rfl ?_
  refine nx_ld rfl rfl rfl rfl ?_
  refine nx_getI rfl rfl rfl (by decide) ?_
  refine nx_icmp rfl rfl (by rfl) H (fun H => ?_) (fun H => ?_)
  · exact TB_X1_owning_37 hW   hk7 _ _ _ _ H
  refine nx_ld rfl rfl rfl rfl ?_
  refine nx_st (ls' := [some (eR (some (1, v0))), some (eI v1), some (eR (some (11, j21))), some (eR (some (11, j21)))]) rfl rfl rfl (Nat.le_of_ble_eq_true rfl) rfl ?_
  exact TB_X1_owning_37 hW   hk7 _ _ ((some j21)) _ H
def B_X1_owning_7 : Nat → TS → Int32 → (Option Nat) → (Option Nat) → Option (Option Nat)
  | 0 => fun _ _ _ _ => none
  | n + 1 => fun t v1 v2 v3 => BB_X1_owning_7 (B_X1_owning_7 n) t v1 v2 v3
theorem TB_X1_owning_7 {W : NW} {d : Nat} {Q : Option NV → TS → Prop} {a0 : Nat → Nat → Nat} {e0 : Nat → Nat → Bool} {t : TS} {bc bs : Nat} (hW : W.2.2.2 = mm_fx) : ∀ (n : Nat) (v0 : Nat) (v1 : Int32) (v2 : Option Nat) (v3 : Option Nat), wp (B_X1_owning_7 n t v1 v2 v3) (fun r => Q (some (eO 11 r)) t) → nX W d tX1_owning Q a0 e0 7 [some (eR (some (1, v0))), some (eI v1), some (eO 11 v2), some (eO 11 v3)] [] t bc bs := by
  intro n
  induction n with
  | zero => intro v0 v1 v2 v3 H; exact (wp_none H).elim
  | succ n ih =>
    intro v0 v1 v2 v3 H
    exact TBB_X1_owning_7 hW    ih v0 v1 v2 v3 H
def F_X1_owning (t : TS) (i0 : Nat) (x1 : Int32) : Option (Option Nat) := (nxt (tR t 109 i0) (fun o21 => (B_X1_owning_7  10000 t x1 none o21)))
theorem TF_X1_owning {W : NW} {d : Nat} {t : TS} {i0 : Nat} {x1 : Int32} {Q : Option NV → TS → Prop} {bc bs : Nat} (hW : W.2.2.2 = mm_fx) (H : wp (F_X1_owning t i0 x1) (fun r => Q (some (eO 11 r)) t)) : nC W (d + 1) 9 [eR (some (1, i0)), eI x1] t bc bs Q := by
  refine nC_in (d := d) (T := tX1_owning) (ls := [some (eR (some (1, i0))), some (eI x1), none, none]) rfl (Nat.le_of_ble_eq_true rfl) rfl (fun a0 e0 => ?_)
  unfold F_X1_owning at H
  refine nx_nul 11 rfl rfl ?_
  refine nx_st (ls' := [some (eR (some (1, i0))), some (eI x1), some (eO 11 none), none]) rfl rfl rfl (Nat.le_of_ble_eq_true rfl) rfl ?_
  refine nx_ld rfl rfl rfl rfl ?_
  refine nx_getR rfl rfl rfl (by decide) rfl H (fun o21 H => ?_)
  refine nx_st (ls' := [some (eR (some (1, i0))), some (eI x1), some (eO 11 none), some (eO 11 o21)]) rfl rfl rfl (Nat.le_of_ble_eq_true rfl) rfl ?_
  exact TB_X1_owning_7 hW    10000 _ _ _ _ H
def B_X1_holding_102 (t : TS) (v2 : Nat) : Option (Option Nat) := (some (some v2))
theorem TB_X1_holding_102 {W : NW} {d : Nat} {Q : Option NV → TS → Prop} {a0 : Nat → Nat → Nat} {e0 : Nat → Nat → Bool} {t : TS} {bc bs : Nat} (hW : W.2.2.2 = mm_fx) : ∀ (v0 : Nat) (v1 : Int32) (v2 : Nat) (v3 : Option Nat) (v4 : Option Nat), wp (B_X1_holding_102 t v2) (fun r => Q (some (eO 11 r)) t) → nX W d tX1_holding Q a0 e0 102 [some (eR (some (1, v0))), some (eI v1), some (eR (some (11, v2))), some (eO 11 v3), some (eO 11 v4)] [] t bc bs := by
  intro v0 v1 v2 v3 v4 H
  unfold B_X1_holding_102 at H
  refine nx_ld rfl rfl rfl rfl ?_
  refine nx_goto rfl rfl ?_
  exact nx_ro 11 (some v2) rfl rfl H
def B_X1_holding_73 (t : TS) (v1 : Int32) (v2 : Option Nat) (v3 : Option Nat) : Option (Option Nat) := (oc v2 (some v3) (fun j21 => (if v1 ≤ (tI t 1104 j21) then (oc v3 (B_X1_holding_102  t j21) (fun j22 => (if (tI t 1100 j21) ≤ (tI t 1100 j22) then (some (some j22)) else (B_X1_holding_102  t j21)))) else (some v3))))
theorem TB_X1_holding_73 {W : NW} {d : Nat} {Q : Option NV → TS → Prop} {a0 : Nat → Nat → Nat} {e0 : Nat → Nat → Bool} {t : TS} {bc bs : Nat} (hW : W.2.2.2 = mm_fx) : ∀ (v0 : Nat) (v1 : Int32) (v2 : Option Nat) (v3 : Option Nat) (v4 : Option Nat), wp (B_X1_holding_73 t v1 v2 v3) (fun r => Q (some (eO 11 r)) t) → nX W d tX1_holding Q a0 e0 73 [some (eR (some (1, v0))), some (eI v1), some (eO 11 v2), some (eO 11 v3), some (eO 11 v4)] [] t bc bs := by
  intro v0 v1 v2 v3 v4 H
  unfold B_X1_holding_73 at H
  refine nx_ld rfl rfl rfl rfl ?_
  rcases v2 with _ | j21
  · replace H := oc_no H
    refine nx_null0 (c := 11) rfl rfl ?_
    refine nx_ld rfl rfl rfl rfl ?_
    exact nx_ro 11 v3 rfl rfl H
  replace H := oc_so H
  refine nx_null1 rfl rfl ?_
  refine nx_ld rfl rfl rfl rfl ?_
  refine nx_getI rfl rfl rfl (by decide) ?_
  refine nx_ld rfl rfl rfl rfl ?_
  refine nx_icmp rfl rfl (by rfl) H (fun H => ?_) (fun H => ?_)
  · refine nx_ld rfl rfl rfl rfl ?_
    rcases v3 with _ | j22
    · replace H := oc_no H
      refine nx_null0 (c := 11) rfl rfl ?_
      exact TB_X1_holding_102 hW    _ _ _ _ _ H
    replace H := oc_so H
    refine nx_null1 rfl rfl ?_
    refine nx_ld rfl rfl rfl rfl ?_
    refine nx_getI rfl rfl rfl (by decide) ?_
    refine nx_ld rfl rfl rfl rfl ?_
    refine nx_getI rfl rfl rfl (by decide) ?_
    refine nx_icmp rfl rfl (by rfl) H (fun H => ?_) (fun H => ?_)
    · refine nx_ld rfl rfl rfl rfl ?_
      exact nx_ro 11 (some j22) rfl rfl H
    exact TB_X1_holding_102 hW    _ _ _ ((some j22)) _ H
  refine nx_ld rfl rfl rfl rfl ?_
  exact nx_ro 11 v3 rfl rfl H
def B_X1_holding_63 (k10 : TS → Int32 → (Option Nat) → (Option Nat) → (Option Nat) → Option (Option Nat)) (t : TS) (v1 : Int32) (v2 : Option Nat) (v3 : Option Nat) (v4 : Nat) : Option (Option Nat) := (nxt (tR t 1108 v4) (fun o21 => (k10 t v1 v2 v3 o21)))
theorem TB_X1_holding_63 {W : NW} {d : Nat} {Q : Option NV → TS → Prop} {a0 : Nat → Nat → Nat} {e0 : Nat → Nat → Bool} {t : TS} {k10 : TS → Int32 → (Option Nat) → (Option Nat) → (Option Nat) → Option (Option Nat)} {bc bs : Nat} (hW : W.2.2.2 = mm_fx) (hk10 : ∀ (v0 : Nat) (v1 : Int32) (v2 : Option Nat) (v3 : Option Nat) (v4 : Option Nat), wp (k10 t v1 v2 v3 v4) (fun r => Q (some (eO 11 r)) t) → nX W d tX1_holding Q a0 e0 10 [some (eR (some (1, v0))), some (eI v1), some (eO 11 v2), some (eO 11 v3), some (eO 11 v4)] [] t bc bs) : ∀ (v0 : Nat) (v1 : Int32) (v2 : Option Nat) (v3 : Option Nat) (v4 : Nat), wp (B_X1_holding_63 k10 t v1 v2 v3 v4) (fun r => Q (some (eO 11 r)) t) → nX W d tX1_holding Q a0 e0 63 [some (eR (some (1, v0))), some (eI v1), some (eO 11 v2), some (eO 11 v3), some (eR (some (11, v4)))] [] t bc bs := by
  intro v0 v1 v2 v3 v4 H
  unfold B_X1_holding_63 at H
  refine nx_ld rfl rfl rfl rfl ?_
  refine nx_getR rfl rfl rfl (by decide) rfl H (fun o21 H => ?_)
  refine nx_st (ls' := [some (eR (some (1, v0))), some (eI v1), some (eO 11 v2), some (eO 11 v3), some (eO 11 o21)]) rfl rfl rfl (Nat.le_of_ble_eq_true rfl) rfl ?_
  refine nx_goto rfl rfl ?_
  exact hk10 _ _ _ _ _ H
def BB_X1_holding_10 (k10 : TS → Int32 → (Option Nat) → (Option Nat) → (Option Nat) → Option (Option Nat)) (t : TS) (v1 : Int32) (v2 : Option Nat) (v3 : Option Nat) (v4 : Option Nat) : Option (Option Nat) := (oc v4 (B_X1_holding_73  t v1 v2 v3) (fun j21 => (if v1 < (tI t 1103 j21) then (B_X1_holding_63 k10 t v1 v2 v3 j21) else (if v1 < (tI t 1106 j21) then (if ¬ (tI t 1102 j21) = 1 then (if (tI t 1104 j21) < v1 then (B_X1_holding_63 k10 t v1 v2 v3 j21) else (B_X1_holding_63 k10 t v1 v2 (some j21) j21)) else (B_X1_holding_63 k10 t v1 (some j21) v3 j21)) else (B_X1_holding_63 k10 t v1 v2 v3 j21)))))
theorem TBB_X1_holding_10 {W : NW} {d : Nat} {Q : Option NV → TS → Prop} {a0 : Nat → Nat → Nat} {e0 : Nat → Nat → Bool} {t : TS} {k10 : TS → Int32 → (Option Nat) → (Option Nat) → (Option Nat) → Option (Option Nat)} {bc bs : Nat} (hW : W.2.2.2 = mm_fx) (hk10 : ∀ (v0 : Nat) (v1 : Int32) (v2 : Option Nat) (v3 : Option Nat) (v4 : Option Nat), wp (k10 t v1 v2 v3 v4) (fun r => Q (some (eO 11 r)) t) → nX W d tX1_holding Q a0 e0 10 [some (eR (some (1, v0))), some (eI v1), some (eO 11 v2), some (eO 11 v3), some (eO 11 v4)] [] t bc bs) : ∀ (v0 : Nat) (v1 : Int32) (v2 : Option Nat) (v3 : Option Nat) (v4 : Option Nat), wp (BB_X1_holding_10 k10 t v1 v2 v3 v4) (fun r => Q (some (eO 11 r)) t) → nX W d tX1_holding Q a0 e0 10 [some (eR (some (1, v0))), some (eI v1), some (eO 11 v2), some (eO 11 v3), some (eO 11 v4)] [] t bc bs := by
  intro v0 v1 v2 v3 v4 H
  unfold BB_X1_holding_10 at H
  refine nx_ld rfl rfl rfl rfl ?_
  rcases v4 with _ | j21
  · replace H := oc_no H
    refine nx_null0 (c := 11) rfl rfl ?_
    exact TB_X1_holding_73 hW    _ _ _ _ _ H
  replace H := oc_so H
  refine nx_null1 rfl rfl ?_
  refine nx_ld rfl rfl rfl rfl ?_
  refine nx_getI rfl rfl rfl (by decide) ?_
  refine nx_ld rfl rfl rfl rfl ?_
  refine nx_icmp rfl rfl (by rfl) H (fun H => ?_) (fun H => ?_)
  · exact TB_X1_holding_63 hW   hk10 _ _ _ _ _ H
  refine nx_ld rfl rfl rfl rfl ?_
  refine nx_ld rfl rfl rfl rfl ?_
  refine nx_getI rfl rfl rfl (by decide) ?_
  refine nx_icmp rfl rfl (by rfl) H (fun H => ?_) (fun H => ?_)
  · refine nx_ld rfl rfl rfl rfl ?_
    refine nx_getI rfl rfl rfl (by decide) ?_
    refine nx_int (x := 1) rfl rfl ?_
    refine nx_icmp rfl rfl (by rfl) H (fun H => ?_) (fun H => ?_)
    · refine nx_ld rfl rfl rfl rfl ?_
      refine nx_getI rfl rfl rfl (by decide) ?_
      refine nx_ld rfl rfl rfl rfl ?_
      refine nx_icmp rfl rfl (by rfl) H (fun H => ?_) (fun H => ?_)
      · exact TB_X1_holding_63 hW   hk10 _ _ _ _ _ H
      refine nx_ld rfl rfl rfl rfl ?_
      refine nx_st (ls' := [some (eR (some (1, v0))), some (eI v1), some (eO 11 v2), some (eR (some (11, j21))), some (eR (some (11, j21)))]) rfl rfl rfl (Nat.le_of_ble_eq_true rfl) rfl ?_
      exact TB_X1_holding_63 hW   hk10 _ _ _ ((some j21)) _ H
    refine nx_ld rfl rfl rfl rfl ?_
    refine nx_st (ls' := [some (eR (some (1, v0))), some (eI v1), some (eR (some (11, j21))), some (eO 11 v3), some (eR (some (11, j21)))]) rfl rfl rfl (Nat.le_of_ble_eq_true rfl) rfl ?_
    refine nx_goto rfl rfl ?_
    exact TB_X1_holding_63 hW   hk10 _ _ ((some j21)) _ _ H
  refine nx_goto rfl rfl ?_
  exact TB_X1_holding_63 hW   hk10 _ _ _ _ _ H
def B_X1_holding_10 : Nat → TS → Int32 → (Option Nat) → (Option Nat) → (Option Nat) → Option (Option Nat)
  | 0 => fun _ _ _ _ _ => none
  | n + 1 => fun t v1 v2 v3 v4 => BB_X1_holding_10 (B_X1_holding_10 n) t v1 v2 v3 v4
theorem TB_X1_holding_10 {W : NW} {d : Nat} {Q : Option NV → TS → Prop} {a0 : Nat → Nat → Nat} {e0 : Nat → Nat → Bool} {t : TS} {bc bs : Nat} (hW : W.2.2.2 = mm_fx) : ∀ (n : Nat) (v0 : Nat) (v1 : Int32) (v2 : Option Nat) (v3 : Option Nat) (v4 : Option Nat), wp (B_X1_holding_10 n t v1 v2 v3 v4) (fun r => Q (some (eO 11 r)) t) → nX W d tX1_holding Q a0 e0 10 [some (eR (some (1, v0))), some (eI v1), some (eO 11 v2), some (eO 11 v3), some (eO 11 v4)] [] t bc bs := by
  intro n
  induction n with
  | zero => intro v0 v1 v2 v3 v4 H; exact (wp_none H).elim
  | succ n ih =>
    intro v0 v1 v2 v3 v4 H
    exact TBB_X1_holding_10 hW    ih v0 v1 v2 v3 v4 H
def F_X1_holding (t : TS) (i0 : Nat) (x1 : Int32) : Option (Option Nat) := (nxt (tR t 109 i0) (fun o21 => (B_X1_holding_10  10000 t x1 none none o21)))
theorem TF_X1_holding {W : NW} {d : Nat} {t : TS} {i0 : Nat} {x1 : Int32} {Q : Option NV → TS → Prop} {bc bs : Nat} (hW : W.2.2.2 = mm_fx) (H : wp (F_X1_holding t i0 x1) (fun r => Q (some (eO 11 r)) t)) : nC W (d + 1) 10 [eR (some (1, i0)), eI x1] t bc bs Q := by
  refine nC_in (d := d) (T := tX1_holding) (ls := [some (eR (some (1, i0))), some (eI x1), none, none, none]) rfl (Nat.le_of_ble_eq_true rfl) rfl (fun a0 e0 => ?_)
  unfold F_X1_holding at H
  refine nx_nul 11 rfl rfl ?_
  refine nx_st (ls' := [some (eR (some (1, i0))), some (eI x1), some (eO 11 none), none, none]) rfl rfl rfl (Nat.le_of_ble_eq_true rfl) rfl ?_
  refine nx_nul 11 rfl rfl ?_
  refine nx_st (ls' := [some (eR (some (1, i0))), some (eI x1), some (eO 11 none), some (eO 11 none), none]) rfl rfl rfl (Nat.le_of_ble_eq_true rfl) rfl ?_
  refine nx_ld rfl rfl rfl rfl ?_
  refine nx_getR rfl rfl rfl (by decide) rfl H (fun o21 H => ?_)
  refine nx_st (ls' := [some (eR (some (1, i0))), some (eI x1), some (eO 11 none), some (eO 11 none), some (eO 11 o21)]) rfl rfl rfl (Nat.le_of_ble_eq_true rfl) rfl ?_
  exact TB_X1_holding_10 hW    10000 _ _ _ _ _ H
def B_X1_nextChange_79 (k8 : TS → Int32 → Int32 → (Option Nat) → Option Int32) (t : TS) (v1 : Int32) (v2 : Int32) (v3 : Nat) : Option Int32 := (nxt (tR t 1108 v3) (fun o21 => (k8 t v1 v2 o21)))
theorem TB_X1_nextChange_79 {W : NW} {d : Nat} {Q : Option NV → TS → Prop} {a0 : Nat → Nat → Nat} {e0 : Nat → Nat → Bool} {t : TS} {k8 : TS → Int32 → Int32 → (Option Nat) → Option Int32} {bc bs : Nat} (hW : W.2.2.2 = mm_fx) (hk8 : ∀ (v0 : Nat) (v1 : Int32) (v2 : Int32) (v3 : Option Nat), wp (k8 t v1 v2 v3) (fun r => Q (some (eI r)) t) → nX W d tX1_nextChange Q a0 e0 8 [some (eR (some (1, v0))), some (eI v1), some (eI v2), some (eO 11 v3)] [] t bc bs) : ∀ (v0 : Nat) (v1 : Int32) (v2 : Int32) (v3 : Nat), wp (B_X1_nextChange_79 k8 t v1 v2 v3) (fun r => Q (some (eI r)) t) → nX W d tX1_nextChange Q a0 e0 79 [some (eR (some (1, v0))), some (eI v1), some (eI v2), some (eR (some (11, v3)))] [] t bc bs := by
  intro v0 v1 v2 v3 H
  unfold B_X1_nextChange_79 at H
  refine nx_ld rfl rfl rfl rfl ?_
  refine nx_getR rfl rfl rfl (by decide) rfl H (fun o21 H => ?_)
  refine nx_st (ls' := [some (eR (some (1, v0))), some (eI v1), some (eI v2), some (eO 11 o21)]) rfl rfl rfl (Nat.le_of_ble_eq_true rfl) rfl ?_
  refine nx_goto rfl rfl ?_
  exact hk8 _ _ _ _ H
def B_X1_nextChange_58 (k8 : TS → Int32 → Int32 → (Option Nat) → Option Int32) (t : TS) (v1 : Int32) (v2 : Int32) (v3 : Nat) : Option Int32 := (if (tI t 1106 v3) ≤ v1 then (B_X1_nextChange_79 k8 t v1 v2 v3) else (if v2 ≤ (tI t 1106 v3) then (B_X1_nextChange_79 k8 t v1 v2 v3) else (B_X1_nextChange_79 k8 t v1 (tI t 1106 v3) v3)))
theorem TB_X1_nextChange_58 {W : NW} {d : Nat} {Q : Option NV → TS → Prop} {a0 : Nat → Nat → Nat} {e0 : Nat → Nat → Bool} {t : TS} {k8 : TS → Int32 → Int32 → (Option Nat) → Option Int32} {bc bs : Nat} (hW : W.2.2.2 = mm_fx) (hk8 : ∀ (v0 : Nat) (v1 : Int32) (v2 : Int32) (v3 : Option Nat), wp (k8 t v1 v2 v3) (fun r => Q (some (eI r)) t) → nX W d tX1_nextChange Q a0 e0 8 [some (eR (some (1, v0))), some (eI v1), some (eI v2), some (eO 11 v3)] [] t bc bs) : ∀ (v0 : Nat) (v1 : Int32) (v2 : Int32) (v3 : Nat), wp (B_X1_nextChange_58 k8 t v1 v2 v3) (fun r => Q (some (eI r)) t) → nX W d tX1_nextChange Q a0 e0 58 [some (eR (some (1, v0))), some (eI v1), some (eI v2), some (eR (some (11, v3)))] [] t bc bs := by
  intro v0 v1 v2 v3 H
  unfold B_X1_nextChange_58 at H
  refine nx_ld rfl rfl rfl rfl ?_
  refine nx_getI rfl rfl rfl (by decide) ?_
  refine nx_ld rfl rfl rfl rfl ?_
  refine nx_icmp rfl rfl (by rfl) H (fun H => ?_) (fun H => ?_)
  · exact TB_X1_nextChange_79 hW   hk8 _ _ _ _ H
  refine nx_ld rfl rfl rfl rfl ?_
  refine nx_getI rfl rfl rfl (by decide) ?_
  refine nx_ld rfl rfl rfl rfl ?_
  refine nx_icmp rfl rfl (by rfl) H (fun H => ?_) (fun H => ?_)
  · exact TB_X1_nextChange_79 hW   hk8 _ _ _ _ H
  refine nx_ld rfl rfl rfl rfl ?_
  refine nx_getI rfl rfl rfl (by decide) ?_
  refine nx_st (ls' := [some (eR (some (1, v0))), some (eI v1), some (eI (tI t 1106 v3)), some (eR (some (11, v3)))]) rfl rfl rfl (Nat.le_of_ble_eq_true rfl) rfl ?_
  exact TB_X1_nextChange_79 hW   hk8 _ _ _ _ H
def B_X1_nextChange_33 (k8 : TS → Int32 → Int32 → (Option Nat) → Option Int32) (t : TS) (v1 : Int32) (v2 : Int32) (v3 : Nat) : Option Int32 := (if (tI t 1104 v3) < v1 then (B_X1_nextChange_58 k8 t v1 v2 v3) else (if v2 ≤ ((tI t 1104 v3) + 1) then (B_X1_nextChange_58 k8 t v1 v2 v3) else (B_X1_nextChange_58 k8 t v1 ((tI t 1104 v3) + 1) v3)))
theorem TB_X1_nextChange_33 {W : NW} {d : Nat} {Q : Option NV → TS → Prop} {a0 : Nat → Nat → Nat} {e0 : Nat → Nat → Bool} {t : TS} {k8 : TS → Int32 → Int32 → (Option Nat) → Option Int32} {bc bs : Nat} (hW : W.2.2.2 = mm_fx) (hk8 : ∀ (v0 : Nat) (v1 : Int32) (v2 : Int32) (v3 : Option Nat), wp (k8 t v1 v2 v3) (fun r => Q (some (eI r)) t) → nX W d tX1_nextChange Q a0 e0 8 [some (eR (some (1, v0))), some (eI v1), some (eI v2), some (eO 11 v3)] [] t bc bs) : ∀ (v0 : Nat) (v1 : Int32) (v2 : Int32) (v3 : Nat), wp (B_X1_nextChange_33 k8 t v1 v2 v3) (fun r => Q (some (eI r)) t) → nX W d tX1_nextChange Q a0 e0 33 [some (eR (some (1, v0))), some (eI v1), some (eI v2), some (eR (some (11, v3)))] [] t bc bs := by
  intro v0 v1 v2 v3 H
  unfold B_X1_nextChange_33 at H
  refine nx_ld rfl rfl rfl rfl ?_
  refine nx_getI rfl rfl rfl (by decide) ?_
  refine nx_ld rfl rfl rfl rfl ?_
  refine nx_icmp rfl rfl (by rfl) H (fun H => ?_) (fun H => ?_)
  · exact TB_X1_nextChange_58 hW   hk8 _ _ _ _ H
  refine nx_ld rfl rfl rfl rfl ?_
  refine nx_getI rfl rfl rfl (by decide) ?_
  refine nx_int (x := 1) rfl rfl ?_
  refine nx_ii rfl rfl ?_
  refine nx_ld rfl rfl rfl rfl ?_
  refine nx_icmp rfl rfl (by rfl) H (fun H => ?_) (fun H => ?_)
  · exact TB_X1_nextChange_58 hW   hk8 _ _ _ _ H
  refine nx_ld rfl rfl rfl rfl ?_
  refine nx_getI rfl rfl rfl (by decide) ?_
  refine nx_int (x := 1) rfl rfl ?_
  refine nx_ii rfl rfl ?_
  refine nx_st (ls' := [some (eR (some (1, v0))), some (eI v1), some (eI ((tI t 1104 v3) + 1)), some (eR (some (11, v3)))]) rfl rfl rfl (Nat.le_of_ble_eq_true rfl) rfl ?_
  exact TB_X1_nextChange_58 hW   hk8 _ _ _ _ H
def BB_X1_nextChange_8 (k8 : TS → Int32 → Int32 → (Option Nat) → Option Int32) (t : TS) (v1 : Int32) (v2 : Int32) (v3 : Option Nat) : Option Int32 := (oc v3 (some (v2)) (fun j21 => (if (tI t 1103 j21) ≤ v1 then (B_X1_nextChange_33 k8 t v1 v2 j21) else (if v2 ≤ (tI t 1103 j21) then (B_X1_nextChange_33 k8 t v1 v2 j21) else (B_X1_nextChange_33 k8 t v1 (tI t 1103 j21) j21)))))
theorem TBB_X1_nextChange_8 {W : NW} {d : Nat} {Q : Option NV → TS → Prop} {a0 : Nat → Nat → Nat} {e0 : Nat → Nat → Bool} {t : TS} {k8 : TS → Int32 → Int32 → (Option Nat) → Option Int32} {bc bs : Nat} (hW : W.2.2.2 = mm_fx) (hk8 : ∀ (v0 : Nat) (v1 : Int32) (v2 : Int32) (v3 : Option Nat), wp (k8 t v1 v2 v3) (fun r => Q (some (eI r)) t) → nX W d tX1_nextChange Q a0 e0 8 [some (eR (some (1, v0))), some (eI v1), some (eI v2), some (eO 11 v3)] [] t bc bs) : ∀ (v0 : Nat) (v1 : Int32) (v2 : Int32) (v3 : Option Nat), wp (BB_X1_nextChange_8 k8 t v1 v2 v3) (fun r => Q (some (eI r)) t) → nX W d tX1_nextChange Q a0 e0 8 [some (eR (some (1, v0))), some (eI v1), some (eI v2), some (eO 11 v3)] [] t bc bs := by
  intro v0 v1 v2 v3 H
  unfold BB_X1_nextChange_8 at H
  refine nx_ld rfl rfl rfl rfl ?_
  rcases v3 with _ | j21
  · replace H := oc_no H
    refine nx_null0 (c := 11) rfl rfl ?_
    refine nx_ld rfl rfl rfl rfl ?_
    exact nx_ri rfl rfl H
  replace H := oc_so H
  refine nx_null1 rfl rfl ?_
  refine nx_ld rfl rfl rfl rfl ?_
  refine nx_getI rfl rfl rfl (by decide) ?_
  refine nx_ld rfl rfl rfl rfl ?_
  refine nx_icmp rfl rfl (by rfl) H (fun H => ?_) (fun H => ?_)
  · exact TB_X1_nextChange_33 hW   hk8 _ _ _ _ H
  refine nx_ld rfl rfl rfl rfl ?_
  refine nx_getI rfl rfl rfl (by decide) ?_
  refine nx_ld rfl rfl rfl rfl ?_
  refine nx_icmp rfl rfl (by rfl) H (fun H => ?_) (fun H => ?_)
  · exact TB_X1_nextChange_33 hW   hk8 _ _ _ _ H
  refine nx_ld rfl rfl rfl rfl ?_
  refine nx_getI rfl rfl rfl (by decide) ?_
  refine nx_st (ls' := [some (eR (some (1, v0))), some (eI v1), some (eI (tI t 1103 j21)), some (eR (some (11, j21)))]) rfl rfl rfl (Nat.le_of_ble_eq_true rfl) rfl ?_
  exact TB_X1_nextChange_33 hW   hk8 _ _ _ _ H
def B_X1_nextChange_8 : Nat → TS → Int32 → Int32 → (Option Nat) → Option Int32
  | 0 => fun _ _ _ _ => none
  | n + 1 => fun t v1 v2 v3 => BB_X1_nextChange_8 (B_X1_nextChange_8 n) t v1 v2 v3
theorem TB_X1_nextChange_8 {W : NW} {d : Nat} {Q : Option NV → TS → Prop} {a0 : Nat → Nat → Nat} {e0 : Nat → Nat → Bool} {t : TS} {bc bs : Nat} (hW : W.2.2.2 = mm_fx) : ∀ (n : Nat) (v0 : Nat) (v1 : Int32) (v2 : Int32) (v3 : Option Nat), wp (B_X1_nextChange_8 n t v1 v2 v3) (fun r => Q (some (eI r)) t) → nX W d tX1_nextChange Q a0 e0 8 [some (eR (some (1, v0))), some (eI v1), some (eI v2), some (eO 11 v3)] [] t bc bs := by
  intro n
  induction n with
  | zero => intro v0 v1 v2 v3 H; exact (wp_none H).elim
  | succ n ih =>
    intro v0 v1 v2 v3 H
    exact TBB_X1_nextChange_8 hW    ih v0 v1 v2 v3 H
def F_X1_nextChange (t : TS) (i0 : Nat) (x1 : Int32) : Option Int32 := (nxt (tR t 109 i0) (fun o21 => (B_X1_nextChange_8  10000 t x1 1000000 o21)))
theorem TF_X1_nextChange {W : NW} {d : Nat} {t : TS} {i0 : Nat} {x1 : Int32} {Q : Option NV → TS → Prop} {bc bs : Nat} (hW : W.2.2.2 = mm_fx) (H : wp (F_X1_nextChange t i0 x1) (fun r => Q (some (eI r)) t)) : nC W (d + 1) 11 [eR (some (1, i0)), eI x1] t bc bs Q := by
  refine nC_in (d := d) (T := tX1_nextChange) (ls := [some (eR (some (1, i0))), some (eI x1), none, none]) rfl (Nat.le_of_ble_eq_true rfl) rfl (fun a0 e0 => ?_)
  unfold F_X1_nextChange at H
  refine nx_int (x := 1000000) rfl rfl ?_
  refine nx_st (ls' := [some (eR (some (1, i0))), some (eI x1), some (eI 1000000), none]) rfl rfl rfl (Nat.le_of_ble_eq_true rfl) rfl ?_
  refine nx_ld rfl rfl rfl rfl ?_
  refine nx_getR rfl rfl rfl (by decide) rfl H (fun o21 H => ?_)
  refine nx_st (ls' := [some (eR (some (1, i0))), some (eI x1), some (eI 1000000), some (eO 11 o21)]) rfl rfl rfl (Nat.le_of_ble_eq_true rfl) rfl ?_
  exact TB_X1_nextChange_8 hW    10000 _ _ _ _ H
def F_X2_init (t : TS) : Option TS := (gE (tE t 2200 0) (nxt (uN t 2200 0 10) (fun t21 => (nxt (uR t21 200 0 (some 0)) (fun t22 => (gE (tE t22 2201 0) (nxt (uN t22 2201 0 10) (fun t23 => (nxt (uR t23 201 0 (some 0)) (fun t24 => (gE (tE t24 2202 0) (nxt (uN t24 2202 0 10) (fun t25 => (nxt (uR t25 202 0 (some 0)) (fun t26 => (gE (tE t26 2203 0) (nxt (uN t26 2203 0 10) (fun t27 => (nxt (uR t27 203 0 (some 0)) (fun t28 => (some t28)))))))))))))))))))))
theorem TF_X2_init {W : NW} {d : Nat} {t : TS} {Q : Option NV → TS → Prop} {bc bs : Nat} (hW : W.2.2.2 = (fun _ => false)) (H : wp (F_X2_init t) (fun r => Q none r)) : nC W (d + 1) 12 [eR (some (2, 0))] t (bc + 4) (bs + 40) Q := by
  refine nC_in (d := d) (T := tX2_init) (ls := [some (eR (some (2, 0)))]) rfl (Nat.le_of_ble_eq_true rfl) rfl (fun a0 e0 => ?_)
  unfold F_X2_init at H
  refine nx_ld rfl rfl rfl rfl ?_
  refine nx_objI rfl rfl (Nat.le_of_ble_eq_true rfl) ?_
  refine nx_ld rfl rfl rfl rfl ?_
  refine nx_int (x := 10) rfl rfl ?_
  refine nx_newaL 2200 0 10 rfl rfl (Nat.le_of_ble_eq_true rfl) (Nat.le_of_ble_eq_true rfl) rfl rfl (by decide) (Nat.le_of_ble_eq_true rfl) (by omega) (by omega) H (fun t21 H => ?_)
  refine nx_eq (bc' := bc + 3) (bs' := bs + 30) (by omega) (by omega) ?_
  refine nx_putR (f := 200) (o := (some 0)) rfl rfl rfl (by decide) (by rw [hW]) rfl (by decide) H (fun t22 H => ?_)
  refine nx_ld rfl rfl rfl rfl ?_
  show nX _ _ _ _ _ _ 13 _ _ _ _ _
  refine nx_int (x := 10) rfl rfl ?_
  refine nx_newaL 2201 0 10 rfl rfl (Nat.le_of_ble_eq_true rfl) (Nat.le_of_ble_eq_true rfl) rfl rfl (by decide) (Nat.le_of_ble_eq_true rfl) (by omega) (by omega) H (fun t23 H => ?_)
  refine nx_eq (bc' := bc + 2) (bs' := bs + 20) (by omega) (by omega) ?_
  refine nx_putR (f := 201) (o := (some 0)) rfl rfl rfl (by decide) (by rw [hW]) rfl (by decide) H (fun t24 H => ?_)
  refine nx_ld rfl rfl rfl rfl ?_
  refine nx_int (x := 10) rfl rfl ?_
  refine nx_newaL 2202 0 10 rfl rfl (Nat.le_of_ble_eq_true rfl) (Nat.le_of_ble_eq_true rfl) rfl rfl (by decide) (Nat.le_of_ble_eq_true rfl) (by omega) (by omega) H (fun t25 H => ?_)
  refine nx_eq (bc' := bc + 1) (bs' := bs + 10) (by omega) (by omega) ?_
  refine nx_putR (f := 202) (o := (some 0)) rfl rfl rfl (by decide) (by rw [hW]) rfl (by decide) H (fun t26 H => ?_)
  refine nx_ld rfl rfl rfl rfl ?_
  show nX _ _ _ _ _ _ 29 _ _ _ _ _
  refine nx_int (x := 10) rfl rfl ?_
  refine nx_newaL 2203 0 10 rfl rfl (Nat.le_of_ble_eq_true rfl) (Nat.le_of_ble_eq_true rfl) rfl rfl (by decide) (Nat.le_of_ble_eq_true rfl) (by omega) (by omega) H (fun t27 H => ?_)
  refine nx_eq (bc' := bc) (bs' := bs) (by omega) (by omega) ?_
  refine nx_putR (f := 203) (o := (some 0)) rfl rfl rfl (by decide) (by rw [hW]) rfl (by decide) H (fun t28 H => ?_)
  exact nx_rv rfl rfl H
def F_X2_add (t : TS) (x1 : Int32) (x2 : Int32) : Option (Int32 × TS) := (if (tI t 204 0) < (Int32.ofNat (tL t 2200 0)) then (gd (tI t 204 0) (tL t 2200 0) (nxt (uA t 2200 0 (tI t 204 0).toNatClampNeg (x1 / 100)) (fun t21 => (gd (tI t21 204 0) (tL t21 2202 0) (nxt (uA t21 2202 0 (tI t21 204 0).toNatClampNeg (irm (x1 / 10) 10)) (fun t22 => (gd (tI t22 204 0) (tL t22 2203 0) (nxt (uA t22 2203 0 (tI t22 204 0).toNatClampNeg (irm x1 10)) (fun t23 => (gd (tI t23 204 0) (tL t23 2201 0) (nxt (uA t23 2201 0 (tI t23 204 0).toNatClampNeg x2) (fun t24 => (nxt (uI t24 204 0 ((tI t24 204 0) + 1)) (fun t25 => (some (1, t25)))))))))))))))) else (some (0, t)))
theorem TF_X2_add {W : NW} {d : Nat} {t : TS} {x1 : Int32} {x2 : Int32} {Q : Option NV → TS → Prop} {bc bs : Nat} (hW : W.2.2.2 = mm_fx) (H : wp (F_X2_add t x1 x2) (fun r => Q (some (eI r.1)) r.2)) : nC W (d + 1) 13 [eR (some (2, 0)), eI x1, eI x2] t bc bs Q := by
  refine nC_in (d := d) (T := tX2_add) (ls := [some (eR (some (2, 0))), some (eI x1), some (eI x2)]) rfl (Nat.le_of_ble_eq_true rfl) rfl (fun a0 e0 => ?_)
  unfold F_X2_add at H
  refine nx_ld rfl rfl rfl rfl ?_
  refine nx_getI rfl rfl rfl (by decide) ?_
  refine nx_ld rfl rfl rfl rfl ?_
  refine nx_getFix rfl rfl rfl (by decide) (by rw [hW]; rfl) rfl ?_
  refine nx_alen (p := (2200, 0)) rfl rfl (Nat.le_of_ble_eq_true rfl) (Nat.le_of_ble_eq_true rfl) (Nat.le_of_ble_eq_true rfl) ?_
  refine nx_icmp rfl rfl (by rfl) H (fun H => ?_) (fun H => ?_)
  · refine nx_ld rfl rfl rfl rfl ?_
    refine nx_getFix rfl rfl rfl (by decide) (by rw [hW]; rfl) rfl ?_
    refine nx_ld rfl rfl rfl rfl ?_
    refine nx_getI rfl rfl rfl (by decide) ?_
    refine nx_ld rfl rfl rfl rfl ?_
    refine nx_int (x := 100) rfl rfl ?_
    refine nx_idivL rfl rfl (by decide) ?_
    show nX _ _ _ _ _ _ 26 _ _ _ _ _
    refine nx_iast (p := (2200, 0)) rfl rfl (Nat.le_of_ble_eq_true rfl) (Nat.le_of_ble_eq_true rfl) rfl H (fun t21 H => ?_)
    refine nx_ld rfl rfl rfl rfl ?_
    refine nx_getFix rfl rfl rfl (by decide) (by rw [hW]; rfl) rfl ?_
    refine nx_ld rfl rfl rfl rfl ?_
    refine nx_getI rfl rfl rfl (by decide) ?_
    refine nx_ld rfl rfl rfl rfl ?_
    refine nx_int (x := 10) rfl rfl ?_
    refine nx_idivL rfl rfl (by decide) ?_
    show nX _ _ _ _ _ _ 39 _ _ _ _ _
    refine nx_int (x := 10) rfl rfl ?_
    refine nx_idivL rfl rfl (by decide) ?_
    refine nx_iast (p := (2202, 0)) rfl rfl (Nat.le_of_ble_eq_true rfl) (Nat.le_of_ble_eq_true rfl) rfl H (fun t22 H => ?_)
    refine nx_ld rfl rfl rfl rfl ?_
    refine nx_getFix rfl rfl rfl (by decide) (by rw [hW]; rfl) rfl ?_
    refine nx_ld rfl rfl rfl rfl ?_
    refine nx_getI rfl rfl rfl (by decide) ?_
    refine nx_ld rfl rfl rfl rfl ?_
    show nX _ _ _ _ _ _ 52 _ _ _ _ _
    refine nx_int (x := 10) rfl rfl ?_
    refine nx_idivL rfl rfl (by decide) ?_
    refine nx_iast (p := (2203, 0)) rfl rfl (Nat.le_of_ble_eq_true rfl) (Nat.le_of_ble_eq_true rfl) rfl H (fun t23 H => ?_)
    refine nx_ld rfl rfl rfl rfl ?_
    refine nx_getFix rfl rfl rfl (by decide) (by rw [hW]; rfl) rfl ?_
    refine nx_ld rfl rfl rfl rfl ?_
    refine nx_getI rfl rfl rfl (by decide) ?_
    refine nx_ld rfl rfl rfl rfl ?_
    show nX _ _ _ _ _ _ 65 _ _ _ _ _
    refine nx_iast (p := (2201, 0)) rfl rfl (Nat.le_of_ble_eq_true rfl) (Nat.le_of_ble_eq_true rfl) rfl H (fun t24 H => ?_)
    refine nx_ld rfl rfl rfl rfl ?_
    refine nx_dup rfl rfl (Nat.ne_of_beq_eq_false rfl) ?_
    refine nx_getI rfl rfl rfl (by decide) ?_
    refine nx_int (x := 1) rfl rfl ?_
    refine nx_ii rfl rfl ?_
    refine nx_putI rfl rfl rfl (by decide) H (fun t25 H => ?_)
    refine nx_int (x := 1) rfl rfl ?_
    show nX _ _ _ _ _ _ 77 _ _ _ _ _
    exact nx_rzlt rfl rfl (by decide) H
  refine nx_int (x := 0) rfl rfl ?_
  exact nx_rzlt rfl rfl (by decide) H
def BB_X2_sumOf_5 (k5 : TS → Int32 → (Nat × Nat) → Int32 → Int32 → Option Int32) (t : TS) (v1 : Int32) (v2 : Nat × Nat) (v3 : Int32) (v4 : Int32) : Option Int32 := (if (tI t 204 0) ≤ v4 then (some (v3)) else (gd v4 (tL t v2.1 v2.2) (k5 t v1 v2 (v3 + (((v1 >>> (v4 &&& 31)) &&& 1) * (tA t v2.1 v2.2 v4.toNatClampNeg))) (v4 + 1))))
theorem TBB_X2_sumOf_5 {W : NW} {d : Nat} {Q : Option NV → TS → Prop} {a0 : Nat → Nat → Nat} {e0 : Nat → Nat → Bool} {v2 : Nat × Nat} {t : TS} {k5 : TS → Int32 → (Nat × Nat) → Int32 → Int32 → Option Int32} {bc bs : Nat} (hW : W.2.2.2 = mm_fx) (hv21 : 2000 ≤ v2.1) (hv22 : v2.1 < 5000) (hv23 : nk v2.1 = 20) (hk5 : ∀ (v1 : Int32) (v3 : Int32) (v4 : Int32), wp (k5 t v1 v2 v3 v4) (fun r => Q (some (eI r)) t) → nX W d tX2_sumOf Q a0 e0 5 [some (eR (some (2, 0))), some (eI v1), some (eR (some v2)), some (eI v3), some (eI v4)] [] t bc bs) : ∀ (v1 : Int32) (v3 : Int32) (v4 : Int32), wp (BB_X2_sumOf_5 k5 t v1 v2 v3 v4) (fun r => Q (some (eI r)) t) → nX W d tX2_sumOf Q a0 e0 5 [some (eR (some (2, 0))), some (eI v1), some (eR (some v2)), some (eI v3), some (eI v4)] [] t bc bs := by
  intro v1 v3 v4 H
  unfold BB_X2_sumOf_5 at H
  refine nx_ld rfl rfl rfl rfl ?_
  refine nx_ld rfl rfl rfl rfl ?_
  refine nx_getI rfl rfl rfl (by decide) ?_
  refine nx_icmp rfl rfl (by rfl) H (fun H => ?_) (fun H => ?_)
  · refine nx_ld rfl rfl rfl rfl ?_
    exact nx_ri rfl rfl H
  refine nx_ld rfl rfl rfl rfl ?_
  refine nx_ld rfl rfl rfl rfl ?_
  refine nx_ld rfl rfl rfl rfl ?_
  refine nx_ii rfl rfl ?_
  refine nx_int (x := 1) rfl rfl ?_
  refine nx_ii rfl rfl ?_
  refine nx_ld rfl rfl rfl rfl ?_
  show nX _ _ _ _ _ _ 22 _ _ _ _ _
  refine nx_ld rfl rfl rfl rfl ?_
  refine nx_iald rfl rfl hv21 hv22 hv23 H (fun H => ?_)
  refine nx_ii rfl rfl ?_
  refine nx_ii rfl rfl ?_
  refine nx_st (ls' := [some (eR (some (2, 0))), some (eI v1), some (eR (some v2)), some (eI (v3 + (((v1 >>> (v4 &&& 31)) &&& 1) * (tA t v2.1 v2.2 v4.toNatClampNeg)))), some (eI v4)]) rfl rfl rfl (Nat.le_of_ble_eq_true rfl) rfl ?_
  refine nx_iinc2 1 (ls' := [some (eR (some (2, 0))), some (eI v1), some (eR (some v2)), some (eI (v3 + (((v1 >>> (v4 &&& 31)) &&& 1) * (tA t v2.1 v2.2 v4.toNatClampNeg)))), some (eI (v4 + 1))]) rfl rfl rfl rfl rfl ?_
  refine nx_goto rfl rfl ?_
  exact hk5 _ _ _ H
def B_X2_sumOf_5 : Nat → TS → Int32 → (Nat × Nat) → Int32 → Int32 → Option Int32
  | 0 => fun _ _ _ _ _ => none
  | n + 1 => fun t v1 v2 v3 v4 => BB_X2_sumOf_5 (B_X2_sumOf_5 n) t v1 v2 v3 v4
theorem TB_X2_sumOf_5 {W : NW} {d : Nat} {Q : Option NV → TS → Prop} {a0 : Nat → Nat → Nat} {e0 : Nat → Nat → Bool} {v2 : Nat × Nat} {t : TS} {bc bs : Nat} (hW : W.2.2.2 = mm_fx) (hv21 : 2000 ≤ v2.1) (hv22 : v2.1 < 5000) (hv23 : nk v2.1 = 20) : ∀ (n : Nat) (v1 : Int32) (v3 : Int32) (v4 : Int32), wp (B_X2_sumOf_5 n t v1 v2 v3 v4) (fun r => Q (some (eI r)) t) → nX W d tX2_sumOf Q a0 e0 5 [some (eR (some (2, 0))), some (eI v1), some (eR (some v2)), some (eI v3), some (eI v4)] [] t bc bs := by
  intro n
  induction n with
  | zero => intro v1 v3 v4 H; exact (wp_none H).elim
  | succ n ih =>
    intro v1 v3 v4 H
    exact TBB_X2_sumOf_5 hW hv21 hv22 hv23   ih v1 v3 v4 H
def F_X2_sumOf (t : TS) (x1 : Int32) (w2 : Nat × Nat) : Option Int32 := (B_X2_sumOf_5  10000 t x1 w2 0 0)
theorem TF_X2_sumOf {W : NW} {d : Nat} {t : TS} {x1 : Int32} {w2 : Nat × Nat} {Q : Option NV → TS → Prop} {bc bs : Nat} (hW : W.2.2.2 = mm_fx) (hw21 : 2000 ≤ w2.1) (hw22 : w2.1 < 5000) (hw23 : nk w2.1 = 20) (H : wp (F_X2_sumOf t x1 w2) (fun r => Q (some (eI r)) t)) : nC W (d + 1) 15 [eR (some (2, 0)), eI x1, eR (some w2)] t bc bs Q := by
  refine nC_in (d := d) (T := tX2_sumOf) (ls := [some (eR (some (2, 0))), some (eI x1), some (eR (some w2)), none, none]) rfl (Nat.le_of_ble_eq_true rfl) rfl (fun a0 e0 => ?_)
  unfold F_X2_sumOf at H
  refine nx_int (x := 0) rfl rfl ?_
  refine nx_st (ls' := [some (eR (some (2, 0))), some (eI x1), some (eR (some w2)), some (eI 0), none]) rfl rfl rfl (Nat.le_of_ble_eq_true rfl) rfl ?_
  refine nx_int (x := 0) rfl rfl ?_
  refine nx_st (ls' := [some (eR (some (2, 0))), some (eI x1), some (eR (some w2)), some (eI 0), some (eI 0)]) rfl rfl rfl (Nat.le_of_ble_eq_true rfl) rfl ?_
  exact TB_X2_sumOf_5 hW hw21 hw22 hw23   10000 _ _ _ H
def F_J6_bitCount_0f7a4 (t : TS) (x1 : Int32) : Option Int32 := (some (((((((((x1 - (((x1.toUInt32 >>> ((1 : Int32).toUInt32 &&& Int32.toUInt32 31)).toInt32) &&& 1431655765)) &&& 858993459) + ((((x1 - (((x1.toUInt32 >>> ((1 : Int32).toUInt32 &&& Int32.toUInt32 31)).toInt32) &&& 1431655765)).toUInt32 >>> ((2 : Int32).toUInt32 &&& Int32.toUInt32 31)).toInt32) &&& 858993459)) + (((((x1 - (((x1.toUInt32 >>> ((1 : Int32).toUInt32 &&& Int32.toUInt32 31)).toInt32) &&& 1431655765)) &&& 858993459) + ((((x1 - (((x1.toUInt32 >>> ((1 : Int32).toUInt32 &&& Int32.toUInt32 31)).toInt32) &&& 1431655765)).toUInt32 >>> ((2 : Int32).toUInt32 &&& Int32.toUInt32 31)).toInt32) &&& 858993459)).toUInt32 >>> ((4 : Int32).toUInt32 &&& Int32.toUInt32 31)).toInt32)) &&& 252645135) + (((((((x1 - (((x1.toUInt32 >>> ((1 : Int32).toUInt32 &&& Int32.toUInt32 31)).toInt32) &&& 1431655765)) &&& 858993459) + ((((x1 - (((x1.toUInt32 >>> ((1 : Int32).toUInt32 &&& Int32.toUInt32 31)).toInt32) &&& 1431655765)).toUInt32 >>> ((2 : Int32).toUInt32 &&& Int32.toUInt32 31)).toInt32) &&& 858993459)) + (((((x1 - (((x1.toUInt32 >>> ((1 : Int32).toUInt32 &&& Int32.toUInt32 31)).toInt32) &&& 1431655765)) &&& 858993459) + ((((x1 - (((x1.toUInt32 >>> ((1 : Int32).toUInt32 &&& Int32.toUInt32 31)).toInt32) &&& 1431655765)).toUInt32 >>> ((2 : Int32).toUInt32 &&& Int32.toUInt32 31)).toInt32) &&& 858993459)).toUInt32 >>> ((4 : Int32).toUInt32 &&& Int32.toUInt32 31)).toInt32)) &&& 252645135).toUInt32 >>> ((8 : Int32).toUInt32 &&& Int32.toUInt32 31)).toInt32)) + ((((((((x1 - (((x1.toUInt32 >>> ((1 : Int32).toUInt32 &&& Int32.toUInt32 31)).toInt32) &&& 1431655765)) &&& 858993459) + ((((x1 - (((x1.toUInt32 >>> ((1 : Int32).toUInt32 &&& Int32.toUInt32 31)).toInt32) &&& 1431655765)).toUInt32 >>> ((2 : Int32).toUInt32 &&& Int32.toUInt32 31)).toInt32) &&& 858993459)) + (((((x1 - (((x1.toUInt32 >>> ((1 : Int32).toUInt32 &&& Int32.toUInt32 31)).toInt32) &&& 1431655765)) &&& 858993459) + ((((x1 - (((x1.toUInt32 >>> ((1 : Int32).toUInt32 &&& Int32.toUInt32 31)).toInt32) &&& 1431655765)).toUInt32 >>> ((2 : Int32).toUInt32 &&& Int32.toUInt32 31)).toInt32) &&& 858993459)).toUInt32 >>> ((4 : Int32).toUInt32 &&& Int32.toUInt32 31)).toInt32)) &&& 252645135) + (((((((x1 - (((x1.toUInt32 >>> ((1 : Int32).toUInt32 &&& Int32.toUInt32 31)).toInt32) &&& 1431655765)) &&& 858993459) + ((((x1 - (((x1.toUInt32 >>> ((1 : Int32).toUInt32 &&& Int32.toUInt32 31)).toInt32) &&& 1431655765)).toUInt32 >>> ((2 : Int32).toUInt32 &&& Int32.toUInt32 31)).toInt32) &&& 858993459)) + (((((x1 - (((x1.toUInt32 >>> ((1 : Int32).toUInt32 &&& Int32.toUInt32 31)).toInt32) &&& 1431655765)) &&& 858993459) + ((((x1 - (((x1.toUInt32 >>> ((1 : Int32).toUInt32 &&& Int32.toUInt32 31)).toInt32) &&& 1431655765)).toUInt32 >>> ((2 : Int32).toUInt32 &&& Int32.toUInt32 31)).toInt32) &&& 858993459)).toUInt32 >>> ((4 : Int32).toUInt32 &&& Int32.toUInt32 31)).toInt32)) &&& 252645135).toUInt32 >>> ((8 : Int32).toUInt32 &&& Int32.toUInt32 31)).toInt32)).toUInt32 >>> ((16 : Int32).toUInt32 &&& Int32.toUInt32 31)).toInt32)) &&& 63)))
theorem TF_J6_bitCount_0f7a4 {W : NW} {d : Nat} {t : TS} {x1 : Int32} {Q : Option NV → TS → Prop} {bc bs : Nat} (hW : W.2.2.2 = mm_fx) (H : wp (F_J6_bitCount_0f7a4 t x1) (fun r => Q (some (eI r)) t)) : nC W (d + 1) 274 [eI x1] t bc bs Q := by
  refine nC_in (d := d) (T := tJ6_bitCount_0f7a4) (ls := [some (eI x1)]) rfl (Nat.le_of_ble_eq_true rfl) rfl (fun a0 e0 => ?_)
  unfold F_J6_bitCount_0f7a4 at H
  refine nx_ld rfl rfl rfl rfl ?_
  refine nx_ld rfl rfl rfl rfl ?_
  refine nx_int (x := 1) rfl rfl ?_
  refine nx_ii rfl rfl ?_
  refine nx_int (x := 1431655765) rfl rfl ?_
  refine nx_ii rfl rfl ?_
  refine nx_ii rfl rfl ?_
  show nX _ _ _ _ _ _ 9 _ _ _ _ _
  refine nx_st (ls' := [some (eI (x1 - (((x1.toUInt32 >>> ((1 : Int32).toUInt32 &&& Int32.toUInt32 31)).toInt32) &&& 1431655765)))]) rfl rfl rfl (Nat.le_of_ble_eq_true rfl) rfl ?_
  refine nx_ld rfl rfl rfl rfl ?_
  refine nx_int (x := 858993459) rfl rfl ?_
  refine nx_ii rfl rfl ?_
  refine nx_ld rfl rfl rfl rfl ?_
  refine nx_int (x := 2) rfl rfl ?_
  refine nx_ii rfl rfl ?_
  refine nx_int (x := 858993459) rfl rfl ?_
  show nX _ _ _ _ _ _ 21 _ _ _ _ _
  refine nx_ii rfl rfl ?_
  refine nx_ii rfl rfl ?_
  refine nx_st (ls' := [some (eI (((x1 - (((x1.toUInt32 >>> ((1 : Int32).toUInt32 &&& Int32.toUInt32 31)).toInt32) &&& 1431655765)) &&& 858993459) + ((((x1 - (((x1.toUInt32 >>> ((1 : Int32).toUInt32 &&& Int32.toUInt32 31)).toInt32) &&& 1431655765)).toUInt32 >>> ((2 : Int32).toUInt32 &&& Int32.toUInt32 31)).toInt32) &&& 858993459)))]) rfl rfl rfl (Nat.le_of_ble_eq_true rfl) rfl ?_
  refine nx_ld rfl rfl rfl rfl ?_
  refine nx_ld rfl rfl rfl rfl ?_
  refine nx_int (x := 4) rfl rfl ?_
  refine nx_ii rfl rfl ?_
  refine nx_ii rfl rfl ?_
  show nX _ _ _ _ _ _ 29 _ _ _ _ _
  refine nx_int (x := 252645135) rfl rfl ?_
  refine nx_ii rfl rfl ?_
  refine nx_st (ls' := [some (eI (((((x1 - (((x1.toUInt32 >>> ((1 : Int32).toUInt32 &&& Int32.toUInt32 31)).toInt32) &&& 1431655765)) &&& 858993459) + ((((x1 - (((x1.toUInt32 >>> ((1 : Int32).toUInt32 &&& Int32.toUInt32 31)).toInt32) &&& 1431655765)).toUInt32 >>> ((2 : Int32).toUInt32 &&& Int32.toUInt32 31)).toInt32) &&& 858993459)) + (((((x1 - (((x1.toUInt32 >>> ((1 : Int32).toUInt32 &&& Int32.toUInt32 31)).toInt32) &&& 1431655765)) &&& 858993459) + ((((x1 - (((x1.toUInt32 >>> ((1 : Int32).toUInt32 &&& Int32.toUInt32 31)).toInt32) &&& 1431655765)).toUInt32 >>> ((2 : Int32).toUInt32 &&& Int32.toUInt32 31)).toInt32) &&& 858993459)).toUInt32 >>> ((4 : Int32).toUInt32 &&& Int32.toUInt32 31)).toInt32)) &&& 252645135))]) rfl rfl rfl (Nat.le_of_ble_eq_true rfl) rfl ?_
  refine nx_ld rfl rfl rfl rfl ?_
  refine nx_ld rfl rfl rfl rfl ?_
  refine nx_int (x := 8) rfl rfl ?_
  refine nx_ii rfl rfl ?_
  refine nx_ii rfl rfl ?_
  show nX _ _ _ _ _ _ 40 _ _ _ _ _
  refine nx_st (ls' := [some (eI ((((((x1 - (((x1.toUInt32 >>> ((1 : Int32).toUInt32 &&& Int32.toUInt32 31)).toInt32) &&& 1431655765)) &&& 858993459) + ((((x1 - (((x1.toUInt32 >>> ((1 : Int32).toUInt32 &&& Int32.toUInt32 31)).toInt32) &&& 1431655765)).toUInt32 >>> ((2 : Int32).toUInt32 &&& Int32.toUInt32 31)).toInt32) &&& 858993459)) + (((((x1 - (((x1.toUInt32 >>> ((1 : Int32).toUInt32 &&& Int32.toUInt32 31)).toInt32) &&& 1431655765)) &&& 858993459) + ((((x1 - (((x1.toUInt32 >>> ((1 : Int32).toUInt32 &&& Int32.toUInt32 31)).toInt32) &&& 1431655765)).toUInt32 >>> ((2 : Int32).toUInt32 &&& Int32.toUInt32 31)).toInt32) &&& 858993459)).toUInt32 >>> ((4 : Int32).toUInt32 &&& Int32.toUInt32 31)).toInt32)) &&& 252645135) + (((((((x1 - (((x1.toUInt32 >>> ((1 : Int32).toUInt32 &&& Int32.toUInt32 31)).toInt32) &&& 1431655765)) &&& 858993459) + ((((x1 - (((x1.toUInt32 >>> ((1 : Int32).toUInt32 &&& Int32.toUInt32 31)).toInt32) &&& 1431655765)).toUInt32 >>> ((2 : Int32).toUInt32 &&& Int32.toUInt32 31)).toInt32) &&& 858993459)) + (((((x1 - (((x1.toUInt32 >>> ((1 : Int32).toUInt32 &&& Int32.toUInt32 31)).toInt32) &&& 1431655765)) &&& 858993459) + ((((x1 - (((x1.toUInt32 >>> ((1 : Int32).toUInt32 &&& Int32.toUInt32 31)).toInt32) &&& 1431655765)).toUInt32 >>> ((2 : Int32).toUInt32 &&& Int32.toUInt32 31)).toInt32) &&& 858993459)).toUInt32 >>> ((4 : Int32).toUInt32 &&& Int32.toUInt32 31)).toInt32)) &&& 252645135).toUInt32 >>> ((8 : Int32).toUInt32 &&& Int32.toUInt32 31)).toInt32)))]) rfl rfl rfl (Nat.le_of_ble_eq_true rfl) rfl ?_
  refine nx_ld rfl rfl rfl rfl ?_
  refine nx_ld rfl rfl rfl rfl ?_
  refine nx_int (x := 16) rfl rfl ?_
  refine nx_ii rfl rfl ?_
  refine nx_ii rfl rfl ?_
  refine nx_st (ls' := [some (eI (((((((x1 - (((x1.toUInt32 >>> ((1 : Int32).toUInt32 &&& Int32.toUInt32 31)).toInt32) &&& 1431655765)) &&& 858993459) + ((((x1 - (((x1.toUInt32 >>> ((1 : Int32).toUInt32 &&& Int32.toUInt32 31)).toInt32) &&& 1431655765)).toUInt32 >>> ((2 : Int32).toUInt32 &&& Int32.toUInt32 31)).toInt32) &&& 858993459)) + (((((x1 - (((x1.toUInt32 >>> ((1 : Int32).toUInt32 &&& Int32.toUInt32 31)).toInt32) &&& 1431655765)) &&& 858993459) + ((((x1 - (((x1.toUInt32 >>> ((1 : Int32).toUInt32 &&& Int32.toUInt32 31)).toInt32) &&& 1431655765)).toUInt32 >>> ((2 : Int32).toUInt32 &&& Int32.toUInt32 31)).toInt32) &&& 858993459)).toUInt32 >>> ((4 : Int32).toUInt32 &&& Int32.toUInt32 31)).toInt32)) &&& 252645135) + (((((((x1 - (((x1.toUInt32 >>> ((1 : Int32).toUInt32 &&& Int32.toUInt32 31)).toInt32) &&& 1431655765)) &&& 858993459) + ((((x1 - (((x1.toUInt32 >>> ((1 : Int32).toUInt32 &&& Int32.toUInt32 31)).toInt32) &&& 1431655765)).toUInt32 >>> ((2 : Int32).toUInt32 &&& Int32.toUInt32 31)).toInt32) &&& 858993459)) + (((((x1 - (((x1.toUInt32 >>> ((1 : Int32).toUInt32 &&& Int32.toUInt32 31)).toInt32) &&& 1431655765)) &&& 858993459) + ((((x1 - (((x1.toUInt32 >>> ((1 : Int32).toUInt32 &&& Int32.toUInt32 31)).toInt32) &&& 1431655765)).toUInt32 >>> ((2 : Int32).toUInt32 &&& Int32.toUInt32 31)).toInt32) &&& 858993459)).toUInt32 >>> ((4 : Int32).toUInt32 &&& Int32.toUInt32 31)).toInt32)) &&& 252645135).toUInt32 >>> ((8 : Int32).toUInt32 &&& Int32.toUInt32 31)).toInt32)) + ((((((((x1 - (((x1.toUInt32 >>> ((1 : Int32).toUInt32 &&& Int32.toUInt32 31)).toInt32) &&& 1431655765)) &&& 858993459) + ((((x1 - (((x1.toUInt32 >>> ((1 : Int32).toUInt32 &&& Int32.toUInt32 31)).toInt32) &&& 1431655765)).toUInt32 >>> ((2 : Int32).toUInt32 &&& Int32.toUInt32 31)).toInt32) &&& 858993459)) + (((((x1 - (((x1.toUInt32 >>> ((1 : Int32).toUInt32 &&& Int32.toUInt32 31)).toInt32) &&& 1431655765)) &&& 858993459) + ((((x1 - (((x1.toUInt32 >>> ((1 : Int32).toUInt32 &&& Int32.toUInt32 31)).toInt32) &&& 1431655765)).toUInt32 >>> ((2 : Int32).toUInt32 &&& Int32.toUInt32 31)).toInt32) &&& 858993459)).toUInt32 >>> ((4 : Int32).toUInt32 &&& Int32.toUInt32 31)).toInt32)) &&& 252645135) + (((((((x1 - (((x1.toUInt32 >>> ((1 : Int32).toUInt32 &&& Int32.toUInt32 31)).toInt32) &&& 1431655765)) &&& 858993459) + ((((x1 - (((x1.toUInt32 >>> ((1 : Int32).toUInt32 &&& Int32.toUInt32 31)).toInt32) &&& 1431655765)).toUInt32 >>> ((2 : Int32).toUInt32 &&& Int32.toUInt32 31)).toInt32) &&& 858993459)) + (((((x1 - (((x1.toUInt32 >>> ((1 : Int32).toUInt32 &&& Int32.toUInt32 31)).toInt32) &&& 1431655765)) &&& 858993459) + ((((x1 - (((x1.toUInt32 >>> ((1 : Int32).toUInt32 &&& Int32.toUInt32 31)).toInt32) &&& 1431655765)).toUInt32 >>> ((2 : Int32).toUInt32 &&& Int32.toUInt32 31)).toInt32) &&& 858993459)).toUInt32 >>> ((4 : Int32).toUInt32 &&& Int32.toUInt32 31)).toInt32)) &&& 252645135).toUInt32 >>> ((8 : Int32).toUInt32 &&& Int32.toUInt32 31)).toInt32)).toUInt32 >>> ((16 : Int32).toUInt32 &&& Int32.toUInt32 31)).toInt32)))]) rfl rfl rfl (Nat.le_of_ble_eq_true rfl) rfl ?_
  refine nx_ld rfl rfl rfl rfl ?_
  show nX _ _ _ _ _ _ 49 _ _ _ _ _
  refine nx_int (x := 63) rfl rfl ?_
  refine nx_ii rfl rfl ?_
  exact nx_ri rfl rfl H
def B_X2_fillsPlaces_70 (k5 : TS → Int32 → Int32 → Int32 → Option Int32) (t : TS) (v1 : Int32) (v3 : Int32) (v4 : Int32) (v5 : Int32) : Option Int32 := (if v5 ≤ 0 then (k5 t v1 v3 (v4 + (-1))) else (some (0)))
theorem TB_X2_fillsPlaces_70 {W : NW} {d : Nat} {Q : Option NV → TS → Prop} {a0 : Nat → Nat → Nat} {e0 : Nat → Nat → Bool} {t : TS} {k5 : TS → Int32 → Int32 → Int32 → Option Int32} {bc bs : Nat} (hW : W.2.2.2 = mm_fx) (hk5 : ∀ (v1 : Int32) (v2 : Int32) (v3 : Int32) (v4 : Int32) (v5 : Option NV) (v6 : Option NV), wp (k5 t v1 v3 v4) (fun r => Q (some (eI r)) t) → nX W d tX2_fillsPlaces Q a0 e0 5 [some (eR (some (2, 0))), some (eI v1), some (eI v2), some (eI v3), some (eI v4), v5, v6] [] t bc bs) : ∀ (v1 : Int32) (v2 : Int32) (v3 : Int32) (v4 : Int32) (v5 : Int32) (v6 : Int32), wp (B_X2_fillsPlaces_70 k5 t v1 v3 v4 v5) (fun r => Q (some (eI r)) t) → nX W d tX2_fillsPlaces Q a0 e0 70 [some (eR (some (2, 0))), some (eI v1), some (eI v2), some (eI v3), some (eI v4), some (eI v5), some (eI v6)] [] t bc bs := by
  intro v1 v2 v3 v4 v5 v6 H
  unfold B_X2_fillsPlaces_70 at H
  refine nx_ld rfl rfl rfl rfl ?_
  refine nx_if rfl rfl (by rfl) H (fun H => ?_) (fun H => ?_)
  · refine nx_iinc2 (-1) (ls' := [some (eR (some (2, 0))), some (eI v1), some (eI v2), some (eI v3), some (eI (v4 + (-1))), some (eI v5), some (eI v6)]) rfl rfl rfl rfl rfl ?_
    refine nx_goto rfl rfl ?_
    exact hk5 _ _ _ _ _ _ H
  refine nx_int (x := 0) rfl rfl ?_
  exact nx_rzl rfl rfl (by decide) H
def B_X2_fillsPlaces_61 (k5 : TS → Int32 → Int32 → Int32 → Option Int32) (k24 : TS → Int32 → Int32 → Int32 → Int32 → Int32 → Option Int32) (t : TS) (v1 : Int32) (v3 : Int32) (v4 : Int32) (v6 : Int32) (s0 : Int32) (s1 : Int32) : Option Int32 := (k24 t v1 v3 v4 (s1 - s0) (v6 + 1))
theorem TB_X2_fillsPlaces_61 {W : NW} {d : Nat} {Q : Option NV → TS → Prop} {a0 : Nat → Nat → Nat} {e0 : Nat → Nat → Bool} {t : TS} {k5 : TS → Int32 → Int32 → Int32 → Option Int32} {k24 : TS → Int32 → Int32 → Int32 → Int32 → Int32 → Option Int32} {bc bs : Nat} (hW : W.2.2.2 = mm_fx) (hk5 : ∀ (v1 : Int32) (v2 : Int32) (v3 : Int32) (v4 : Int32) (v5 : Option NV) (v6 : Option NV), wp (k5 t v1 v3 v4) (fun r => Q (some (eI r)) t) → nX W d tX2_fillsPlaces Q a0 e0 5 [some (eR (some (2, 0))), some (eI v1), some (eI v2), some (eI v3), some (eI v4), v5, v6] [] t bc bs) (hk24 : ∀ (v1 : Int32) (v2 : Int32) (v3 : Int32) (v4 : Int32) (v5 : Int32) (v6 : Int32), wp (k24 t v1 v3 v4 v5 v6) (fun r => Q (some (eI r)) t) → nX W d tX2_fillsPlaces Q a0 e0 24 [some (eR (some (2, 0))), some (eI v1), some (eI v2), some (eI v3), some (eI v4), some (eI v5), some (eI v6)] [] t bc bs) : ∀ (v1 : Int32) (v2 : Int32) (v3 : Int32) (v4 : Int32) (v5 : Int32) (v6 : Int32) (s0 : Int32) (s1 : Int32), wp (B_X2_fillsPlaces_61 k5 k24 t v1 v3 v4 v6 s0 s1) (fun r => Q (some (eI r)) t) → nX W d tX2_fillsPlaces Q a0 e0 61 [some (eR (some (2, 0))), some (eI v1), some (eI v2), some (eI v3), some (eI v4), some (eI v5), some (eI v6)] [eI s0, eI s1] t bc bs := by
  intro v1 v2 v3 v4 v5 v6 s0 s1 H
  unfold B_X2_fillsPlaces_61 at H
  refine nx_ii rfl rfl ?_
  refine nx_st (ls' := [some (eR (some (2, 0))), some (eI v1), some (eI v2), some (eI v3), some (eI v4), some (eI (s1 - s0)), some (eI v6)]) rfl rfl rfl (Nat.le_of_ble_eq_true rfl) rfl ?_
  refine nx_iinc2 1 (ls' := [some (eR (some (2, 0))), some (eI v1), some (eI v2), some (eI v3), some (eI v4), some (eI (s1 - s0)), some (eI (v6 + 1))]) rfl rfl rfl rfl rfl ?_
  refine nx_goto rfl rfl ?_
  exact hk24 _ _ _ _ _ _ H
def B_X2_fillsPlaces_60 (k5 : TS → Int32 → Int32 → Int32 → Option Int32) (k24 : TS → Int32 → Int32 → Int32 → Int32 → Int32 → Option Int32) (t : TS) (v1 : Int32) (v3 : Int32) (v4 : Int32) (v6 : Int32) (s0 : Int32) : Option Int32 := (B_X2_fillsPlaces_61 k5 k24 t v1 v3 v4 v6 0 s0)
theorem TB_X2_fillsPlaces_60 {W : NW} {d : Nat} {Q : Option NV → TS → Prop} {a0 : Nat → Nat → Nat} {e0 : Nat → Nat → Bool} {t : TS} {k5 : TS → Int32 → Int32 → Int32 → Option Int32} {k24 : TS → Int32 → Int32 → Int32 → Int32 → Int32 → Option Int32} {bc bs : Nat} (hW : W.2.2.2 = mm_fx) (hk5 : ∀ (v1 : Int32) (v2 : Int32) (v3 : Int32) (v4 : Int32) (v5 : Option NV) (v6 : Option NV), wp (k5 t v1 v3 v4) (fun r => Q (some (eI r)) t) → nX W d tX2_fillsPlaces Q a0 e0 5 [some (eR (some (2, 0))), some (eI v1), some (eI v2), some (eI v3), some (eI v4), v5, v6] [] t bc bs) (hk24 : ∀ (v1 : Int32) (v2 : Int32) (v3 : Int32) (v4 : Int32) (v5 : Int32) (v6 : Int32), wp (k24 t v1 v3 v4 v5 v6) (fun r => Q (some (eI r)) t) → nX W d tX2_fillsPlaces Q a0 e0 24 [some (eR (some (2, 0))), some (eI v1), some (eI v2), some (eI v3), some (eI v4), some (eI v5), some (eI v6)] [] t bc bs) : ∀ (v1 : Int32) (v2 : Int32) (v3 : Int32) (v4 : Int32) (v5 : Int32) (v6 : Int32) (s0 : Int32), wp (B_X2_fillsPlaces_60 k5 k24 t v1 v3 v4 v6 s0) (fun r => Q (some (eI r)) t) → nX W d tX2_fillsPlaces Q a0 e0 60 [some (eR (some (2, 0))), some (eI v1), some (eI v2), some (eI v3), some (eI v4), some (eI v5), some (eI v6)] [eI s0] t bc bs := by
  intro v1 v2 v3 v4 v5 v6 s0 H
  unfold B_X2_fillsPlaces_60 at H
  refine nx_int (x := 0) rfl rfl ?_
  exact TB_X2_fillsPlaces_61 hW   hk5 hk24 _ _ _ _ _ _ _ _ H
def BB_X2_fillsPlaces_24 (k5 : TS → Int32 → Int32 → Int32 → Option Int32) (k24 : TS → Int32 → Int32 → Int32 → Int32 → Int32 → Option Int32) (t : TS) (v1 : Int32) (v3 : Int32) (v4 : Int32) (v5 : Int32) (v6 : Int32) : Option Int32 := (if (tI t 204 0) ≤ v6 then (B_X2_fillsPlaces_70 k5 t v1 v3 v4 v5) else (if ((v1 >>> (v6 &&& 31)) &&& 1) = 0 then (B_X2_fillsPlaces_60 k5 k24 t v1 v3 v4 v6 v5) else (gd v6 (tL t 2203 0) (if ¬ (tA t 2203 0 v6.toNatClampNeg) = v4 then (B_X2_fillsPlaces_60 k5 k24 t v1 v3 v4 v6 v5) else (B_X2_fillsPlaces_61 k5 k24 t v1 v3 v4 v6 1 v5)))))
theorem TBB_X2_fillsPlaces_24 {W : NW} {d : Nat} {Q : Option NV → TS → Prop} {a0 : Nat → Nat → Nat} {e0 : Nat → Nat → Bool} {t : TS} {k5 : TS → Int32 → Int32 → Int32 → Option Int32} {k24 : TS → Int32 → Int32 → Int32 → Int32 → Int32 → Option Int32} {bc bs : Nat} (hW : W.2.2.2 = mm_fx) (hk5 : ∀ (v1 : Int32) (v2 : Int32) (v3 : Int32) (v4 : Int32) (v5 : Option NV) (v6 : Option NV), wp (k5 t v1 v3 v4) (fun r => Q (some (eI r)) t) → nX W d tX2_fillsPlaces Q a0 e0 5 [some (eR (some (2, 0))), some (eI v1), some (eI v2), some (eI v3), some (eI v4), v5, v6] [] t bc bs) (hk24 : ∀ (v1 : Int32) (v2 : Int32) (v3 : Int32) (v4 : Int32) (v5 : Int32) (v6 : Int32), wp (k24 t v1 v3 v4 v5 v6) (fun r => Q (some (eI r)) t) → nX W d tX2_fillsPlaces Q a0 e0 24 [some (eR (some (2, 0))), some (eI v1), some (eI v2), some (eI v3), some (eI v4), some (eI v5), some (eI v6)] [] t bc bs) : ∀ (v1 : Int32) (v2 : Int32) (v3 : Int32) (v4 : Int32) (v5 : Int32) (v6 : Int32), wp (BB_X2_fillsPlaces_24 k5 k24 t v1 v3 v4 v5 v6) (fun r => Q (some (eI r)) t) → nX W d tX2_fillsPlaces Q a0 e0 24 [some (eR (some (2, 0))), some (eI v1), some (eI v2), some (eI v3), some (eI v4), some (eI v5), some (eI v6)] [] t bc bs := by
  intro v1 v2 v3 v4 v5 v6 H
  unfold BB_X2_fillsPlaces_24 at H
  refine nx_ld rfl rfl rfl rfl ?_
  refine nx_ld rfl rfl rfl rfl ?_
  refine nx_getI rfl rfl rfl (by decide) ?_
  refine nx_icmp rfl rfl (by rfl) H (fun H => ?_) (fun H => ?_)
  · exact TB_X2_fillsPlaces_70 hW   hk5 _ _ _ _ _ _ H
  refine nx_ld rfl rfl rfl rfl ?_
  refine nx_ld rfl rfl rfl rfl ?_
  refine nx_ld rfl rfl rfl rfl ?_
  refine nx_ii rfl rfl ?_
  refine nx_int (x := 1) rfl rfl ?_
  refine nx_ii rfl rfl ?_
  refine nx_if rfl rfl (by rfl) H (fun H => ?_) (fun H => ?_)
  · exact TB_X2_fillsPlaces_60 hW   hk5 hk24 _ _ _ _ _ _ _ H
  refine nx_ld rfl rfl rfl rfl ?_
  refine nx_getFix rfl rfl rfl (by decide) (by rw [hW]; rfl) rfl ?_
  refine nx_ld rfl rfl rfl rfl ?_
  refine nx_iald (p := (2203, 0)) rfl rfl (Nat.le_of_ble_eq_true rfl) (Nat.le_of_ble_eq_true rfl) rfl H (fun H => ?_)
  refine nx_ld rfl rfl rfl rfl ?_
  refine nx_icmp rfl rfl (by rfl) H (fun H => ?_) (fun H => ?_)
  · exact TB_X2_fillsPlaces_60 hW   hk5 hk24 _ _ _ _ _ _ _ H
  refine nx_int (x := 1) rfl rfl ?_
  refine nx_goto rfl rfl ?_
  exact TB_X2_fillsPlaces_61 hW   hk5 hk24 _ _ _ _ _ _ _ _ H
def B_X2_fillsPlaces_24 (k5 : TS → Int32 → Int32 → Int32 → Option Int32) : Nat → TS → Int32 → Int32 → Int32 → Int32 → Int32 → Option Int32
  | 0 => fun _ _ _ _ _ _ => none
  | n + 1 => fun t v1 v3 v4 v5 v6 => BB_X2_fillsPlaces_24 k5 (B_X2_fillsPlaces_24 k5 n) t v1 v3 v4 v5 v6
theorem TB_X2_fillsPlaces_24 {W : NW} {d : Nat} {Q : Option NV → TS → Prop} {a0 : Nat → Nat → Nat} {e0 : Nat → Nat → Bool} {t : TS} {k5 : TS → Int32 → Int32 → Int32 → Option Int32} {bc bs : Nat} (hW : W.2.2.2 = mm_fx) (hk5 : ∀ (v1 : Int32) (v2 : Int32) (v3 : Int32) (v4 : Int32) (v5 : Option NV) (v6 : Option NV), wp (k5 t v1 v3 v4) (fun r => Q (some (eI r)) t) → nX W d tX2_fillsPlaces Q a0 e0 5 [some (eR (some (2, 0))), some (eI v1), some (eI v2), some (eI v3), some (eI v4), v5, v6] [] t bc bs) : ∀ (n : Nat) (v1 : Int32) (v2 : Int32) (v3 : Int32) (v4 : Int32) (v5 : Int32) (v6 : Int32), wp (B_X2_fillsPlaces_24 k5 n t v1 v3 v4 v5 v6) (fun r => Q (some (eI r)) t) → nX W d tX2_fillsPlaces Q a0 e0 24 [some (eR (some (2, 0))), some (eI v1), some (eI v2), some (eI v3), some (eI v4), some (eI v5), some (eI v6)] [] t bc bs := by
  intro n
  induction n with
  | zero => intro v1 v2 v3 v4 v5 v6 H; exact (wp_none H).elim
  | succ n ih =>
    intro v1 v2 v3 v4 v5 v6 H
    exact TBB_X2_fillsPlaces_24 hW   hk5 ih v1 v2 v3 v4 v5 v6 H
def BB_X2_fillsPlaces_5 (k5 : TS → Int32 → Int32 → Int32 → Option Int32) (t : TS) (v1 : Int32) (v3 : Int32) (v4 : Int32) : Option Int32 := (if v4 < 0 then (some (1)) else (B_X2_fillsPlaces_24 k5 10000 t v1 (v3 / 10) v4 (irm v3 10) 0))
theorem TBB_X2_fillsPlaces_5 {W : NW} {d : Nat} {Q : Option NV → TS → Prop} {a0 : Nat → Nat → Nat} {e0 : Nat → Nat → Bool} {t : TS} {k5 : TS → Int32 → Int32 → Int32 → Option Int32} {bc bs : Nat} (hW : W.2.2.2 = mm_fx) (hk5 : ∀ (v1 : Int32) (v2 : Int32) (v3 : Int32) (v4 : Int32) (v5 : Option NV) (v6 : Option NV), wp (k5 t v1 v3 v4) (fun r => Q (some (eI r)) t) → nX W d tX2_fillsPlaces Q a0 e0 5 [some (eR (some (2, 0))), some (eI v1), some (eI v2), some (eI v3), some (eI v4), v5, v6] [] t bc bs) : ∀ (v1 : Int32) (v2 : Int32) (v3 : Int32) (v4 : Int32) (v5 : Option NV) (v6 : Option NV), wp (BB_X2_fillsPlaces_5 k5 t v1 v3 v4) (fun r => Q (some (eI r)) t) → nX W d tX2_fillsPlaces Q a0 e0 5 [some (eR (some (2, 0))), some (eI v1), some (eI v2), some (eI v3), some (eI v4), v5, v6] [] t bc bs := by
  intro v1 v2 v3 v4 v5 v6 H
  unfold BB_X2_fillsPlaces_5 at H
  refine nx_ld rfl rfl rfl rfl ?_
  refine nx_if rfl rfl (by rfl) H (fun H => ?_) (fun H => ?_)
  · refine nx_int (x := 1) rfl rfl ?_
    exact nx_rzl rfl rfl (by decide) H
  refine nx_ld rfl rfl rfl rfl ?_
  refine nx_int (x := 10) rfl rfl ?_
  refine nx_idivL rfl rfl (by decide) ?_
  refine nx_st (ls' := [some (eR (some (2, 0))), some (eI v1), some (eI v2), some (eI v3), some (eI v4), some (eI (irm v3 10)), v6]) rfl rfl rfl (Nat.le_of_ble_eq_true rfl) rfl ?_
  refine nx_ld rfl rfl rfl rfl ?_
  refine nx_int (x := 10) rfl rfl ?_
  refine nx_idivL rfl rfl (by decide) ?_
  show nX _ _ _ _ _ _ 20 _ _ _ _ _
  refine nx_st (ls' := [some (eR (some (2, 0))), some (eI v1), some (eI v2), some (eI (v3 / 10)), some (eI v4), some (eI (irm v3 10)), v6]) rfl rfl rfl (Nat.le_of_ble_eq_true rfl) rfl ?_
  refine nx_int (x := 0) rfl rfl ?_
  refine nx_st (ls' := [some (eR (some (2, 0))), some (eI v1), some (eI v2), some (eI (v3 / 10)), some (eI v4), some (eI (irm v3 10)), some (eI 0)]) rfl rfl rfl (Nat.le_of_ble_eq_true rfl) rfl ?_
  exact TB_X2_fillsPlaces_24 hW   hk5 10000 _ _ _ _ _ _ H
def B_X2_fillsPlaces_5 : Nat → TS → Int32 → Int32 → Int32 → Option Int32
  | 0 => fun _ _ _ _ => none
  | n + 1 => fun t v1 v3 v4 => BB_X2_fillsPlaces_5 (B_X2_fillsPlaces_5 n) t v1 v3 v4
theorem TB_X2_fillsPlaces_5 {W : NW} {d : Nat} {Q : Option NV → TS → Prop} {a0 : Nat → Nat → Nat} {e0 : Nat → Nat → Bool} {t : TS} {bc bs : Nat} (hW : W.2.2.2 = mm_fx) : ∀ (n : Nat) (v1 : Int32) (v2 : Int32) (v3 : Int32) (v4 : Int32) (v5 : Option NV) (v6 : Option NV), wp (B_X2_fillsPlaces_5 n t v1 v3 v4) (fun r => Q (some (eI r)) t) → nX W d tX2_fillsPlaces Q a0 e0 5 [some (eR (some (2, 0))), some (eI v1), some (eI v2), some (eI v3), some (eI v4), v5, v6] [] t bc bs := by
  intro n
  induction n with
  | zero => intro v1 v2 v3 v4 v5 v6 H; exact (wp_none H).elim
  | succ n ih =>
    intro v1 v2 v3 v4 v5 v6 H
    exact TBB_X2_fillsPlaces_5 hW    ih v1 v2 v3 v4 v5 v6 H
def F_X2_fillsPlaces (t : TS) (x1 : Int32) (x2 : Int32) : Option Int32 := (B_X2_fillsPlaces_5  10000 t x1 x2 3)
theorem TF_X2_fillsPlaces {W : NW} {d : Nat} {t : TS} {x1 : Int32} {x2 : Int32} {Q : Option NV → TS → Prop} {bc bs : Nat} (hW : W.2.2.2 = mm_fx) (H : wp (F_X2_fillsPlaces t x1 x2) (fun r => Q (some (eI r)) t)) : nC W (d + 1) 16 [eR (some (2, 0)), eI x1, eI x2] t bc bs Q := by
  refine nC_in (d := d) (T := tX2_fillsPlaces) (ls := [some (eR (some (2, 0))), some (eI x1), some (eI x2), none, none, none, none]) rfl (Nat.le_of_ble_eq_true rfl) rfl (fun a0 e0 => ?_)
  unfold F_X2_fillsPlaces at H
  refine nx_ld rfl rfl rfl rfl ?_
  refine nx_st (ls' := [some (eR (some (2, 0))), some (eI x1), some (eI x2), some (eI x2), none, none, none]) rfl rfl rfl (Nat.le_of_ble_eq_true rfl) rfl ?_
  refine nx_int (x := 3) rfl rfl ?_
  refine nx_st (ls' := [some (eR (some (2, 0))), some (eI x1), some (eI x2), some (eI x2), some (eI 3), none, none]) rfl rfl rfl (Nat.le_of_ble_eq_true rfl) rfl ?_
  exact TB_X2_fillsPlaces_5 hW    10000 _ _ _ _ _ _ H
def B_X2_takeBest_156 (t : TS) (v4 : Int32) : Option (Int32 × TS) := (nxt (uI t 204 0 0) (fun t21 => (some (v4, t21))))
theorem TB_X2_takeBest_156 {W : NW} {d : Nat} {Q : Option NV → TS → Prop} {a0 : Nat → Nat → Nat} {e0 : Nat → Nat → Bool} {bc bs : Nat} (hW : W.2.2.2 = mm_fx) : ∀ (t : TS) (v1 : Int32) (v2 : Int32) (v3 : Int32) (v4 : Int32) (v5 : Int32) (v6 : Int32) (v7 : Int32) (v8 : Option NV) (v9 : Option NV) (v10 : Option NV) (v11 : Option NV), wp (B_X2_takeBest_156 t v4) (fun r => Q (some (eI r.1)) r.2) → nX W (d + 1) tX2_takeBest Q a0 e0 156 [some (eR (some (2, 0))), some (eI v1), some (eI v2), some (eI v3), some (eI v4), some (eI v5), some (eI v6), some (eI v7), v8, v9, v10, v11] [] t bc bs := by
  intro t v1 v2 v3 v4 v5 v6 v7 v8 v9 v10 v11 H
  unfold B_X2_takeBest_156 at H
  refine nx_ld rfl rfl rfl rfl ?_
  refine nx_int (x := 0) rfl rfl ?_
  refine nx_putI rfl rfl rfl (by decide) H (fun t21 H => ?_)
  refine nx_ld rfl rfl rfl rfl ?_
  exact nx_rit rfl rfl H
def B_X2_takeBest_150 (k13 : TS → Int32 → Int32 → Int32 → Int32 → Int32 → Int32 → Int32 → Option (Int32 × TS)) (t : TS) (v1 : Int32) (v2 : Int32) (v3 : Int32) (v4 : Int32) (v5 : Int32) (v6 : Int32) (v7 : Int32) : Option (Int32 × TS) := (k13 t v1 v2 v3 v4 v5 v6 (v7 + 1))
theorem TB_X2_takeBest_150 {W : NW} {d : Nat} {Q : Option NV → TS → Prop} {a0 : Nat → Nat → Nat} {e0 : Nat → Nat → Bool} {k13 : TS → Int32 → Int32 → Int32 → Int32 → Int32 → Int32 → Int32 → Option (Int32 × TS)} {bc bs : Nat} (hW : W.2.2.2 = mm_fx) (hk13 : ∀ (t : TS) (v1 : Int32) (v2 : Int32) (v3 : Int32) (v4 : Int32) (v5 : Int32) (v6 : Int32) (v7 : Int32) (v8 : Option NV) (v9 : Option NV) (v10 : Option NV) (v11 : Option NV), wp (k13 t v1 v2 v3 v4 v5 v6 v7) (fun r => Q (some (eI r.1)) r.2) → nX W (d + 1) tX2_takeBest Q a0 e0 13 [some (eR (some (2, 0))), some (eI v1), some (eI v2), some (eI v3), some (eI v4), some (eI v5), some (eI v6), some (eI v7), v8, v9, v10, v11] [] t bc bs) : ∀ (t : TS) (v1 : Int32) (v2 : Int32) (v3 : Int32) (v4 : Int32) (v5 : Int32) (v6 : Int32) (v7 : Int32) (v8 : Int32) (v9 : Int32) (v10 : Int32) (v11 : Int32), wp (B_X2_takeBest_150 k13 t v1 v2 v3 v4 v5 v6 v7) (fun r => Q (some (eI r.1)) r.2) → nX W (d + 1) tX2_takeBest Q a0 e0 150 [some (eR (some (2, 0))), some (eI v1), some (eI v2), some (eI v3), some (eI v4), some (eI v5), some (eI v6), some (eI v7), some (eI v8), some (eI v9), some (eI v10), some (eI v11)] [] t bc bs := by
  intro t v1 v2 v3 v4 v5 v6 v7 v8 v9 v10 v11 H
  unfold B_X2_takeBest_150 at H
  refine nx_iinc2 1 (ls' := [some (eR (some (2, 0))), some (eI v1), some (eI v2), some (eI v3), some (eI v4), some (eI v5), some (eI v6), some (eI (v7 + 1)), some (eI v8), some (eI v9), some (eI v10), some (eI v11)]) rfl rfl rfl rfl rfl ?_
  refine nx_goto rfl rfl ?_
  exact hk13 _ _ _ _ _ _ _ _ _ _ _ _ H
def B_X2_takeBest_116 (k13 : TS → Int32 → Int32 → Int32 → Int32 → Int32 → Int32 → Int32 → Option (Int32 × TS)) (t : TS) (v1 : Int32) (v2 : Int32) (v3 : Int32) (v4 : Int32) (v5 : Int32) (v6 : Int32) (v7 : Int32) (v8 : Int32) (v9 : Int32) (v10 : Int32) (s0 : Int32) : Option (Int32 × TS) := (if v10 = 0 then (B_X2_takeBest_150 k13 t v1 v2 v3 v4 v5 v6 v7) else (if s0 = 0 then (B_X2_takeBest_150 k13 t v1 v2 v3 v4 v5 v6 v7) else (Option.bind (F_X2_fillsPlaces t v7 v3) (fun r21 => (if r21 = 0 then (B_X2_takeBest_150 k13 t v1 v2 v3 v4 v5 v6 v7) else (B_X2_takeBest_150 k13 t v1 v2 v3 v7 v9 v8 v7))))))
theorem TB_X2_takeBest_116 {W : NW} {d : Nat} {Q : Option NV → TS → Prop} {a0 : Nat → Nat → Nat} {e0 : Nat → Nat → Bool} {k13 : TS → Int32 → Int32 → Int32 → Int32 → Int32 → Int32 → Int32 → Option (Int32 × TS)} {bc bs : Nat} (hW : W.2.2.2 = mm_fx) (hk13 : ∀ (t : TS) (v1 : Int32) (v2 : Int32) (v3 : Int32) (v4 : Int32) (v5 : Int32) (v6 : Int32) (v7 : Int32) (v8 : Option NV) (v9 : Option NV) (v10 : Option NV) (v11 : Option NV), wp (k13 t v1 v2 v3 v4 v5 v6 v7) (fun r => Q (some (eI r.1)) r.2) → nX W (d + 1) tX2_takeBest Q a0 e0 13 [some (eR (some (2, 0))), some (eI v1), some (eI v2), some (eI v3), some (eI v4), some (eI v5), some (eI v6), some (eI v7), v8, v9, v10, v11] [] t bc bs) : ∀ (t : TS) (v1 : Int32) (v2 : Int32) (v3 : Int32) (v4 : Int32) (v5 : Int32) (v6 : Int32) (v7 : Int32) (v8 : Int32) (v9 : Int32) (v10 : Int32) (v11 : Option NV) (s0 : Int32), wp (B_X2_takeBest_116 k13 t v1 v2 v3 v4 v5 v6 v7 v8 v9 v10 s0) (fun r => Q (some (eI r.1)) r.2) → nX W (d + 1) tX2_takeBest Q a0 e0 116 [some (eR (some (2, 0))), some (eI v1), some (eI v2), some (eI v3), some (eI v4), some (eI v5), some (eI v6), some (eI v7), some (eI v8), some (eI v9), some (eI v10), v11] [eI s0] t bc bs := by
  intro t v1 v2 v3 v4 v5 v6 v7 v8 v9 v10 v11 s0 H
  unfold B_X2_takeBest_116 at H
  refine nx_st (ls' := [some (eR (some (2, 0))), some (eI v1), some (eI v2), some (eI v3), some (eI v4), some (eI v5), some (eI v6), some (eI v7), some (eI v8), some (eI v9), some (eI v10), some (eI s0)]) rfl rfl rfl (Nat.le_of_ble_eq_true rfl) rfl ?_
  refine nx_ld rfl rfl rfl rfl ?_
  refine nx_if rfl rfl (by rfl) H (fun H => ?_) (fun H => ?_)
  · exact TB_X2_takeBest_150 hW   hk13 _ _ _ _ _ _ _ _ _ _ _ _ H
  refine nx_ld rfl rfl rfl rfl ?_
  refine nx_if rfl rfl (by rfl) H (fun H => ?_) (fun H => ?_)
  · exact TB_X2_takeBest_150 hW   hk13 _ _ _ _ _ _ _ _ _ _ _ _ H
  refine nx_ld rfl rfl rfl rfl ?_
  refine nx_ld rfl rfl rfl rfl ?_
  refine nx_ld rfl rfl rfl rfl ?_
  refine nx_cVI (as := [eI v7, eI v3]) (st' := []) rfl rfl (Nat.le_of_ble_eq_true rfl) rfl rfl (Nat.le_of_ble_eq_true rfl) (c0 := 2) rfl (by decide) H (fun Q H => TF_X2_fillsPlaces hW  H) (fun r21 H => ?_)
  refine nx_if rfl rfl (by rfl) H (fun H => ?_) (fun H => ?_)
  · exact TB_X2_takeBest_150 hW   hk13 _ _ _ _ _ _ _ _ _ _ _ _ H
  refine nx_ld rfl rfl rfl rfl ?_
  refine nx_st (ls' := [some (eR (some (2, 0))), some (eI v1), some (eI v2), some (eI v3), some (eI v7), some (eI v5), some (eI v6), some (eI v7), some (eI v8), some (eI v9), some (eI v10), some (eI s0)]) rfl rfl rfl (Nat.le_of_ble_eq_true rfl) rfl ?_
  refine nx_ld rfl rfl rfl rfl ?_
  refine nx_st (ls' := [some (eR (some (2, 0))), some (eI v1), some (eI v2), some (eI v3), some (eI v7), some (eI v9), some (eI v6), some (eI v7), some (eI v8), some (eI v9), some (eI v10), some (eI s0)]) rfl rfl rfl (Nat.le_of_ble_eq_true rfl) rfl ?_
  refine nx_ld rfl rfl rfl rfl ?_
  refine nx_st (ls' := [some (eR (some (2, 0))), some (eI v1), some (eI v2), some (eI v3), some (eI v7), some (eI v9), some (eI v8), some (eI v7), some (eI v8), some (eI v9), some (eI v10), some (eI s0)]) rfl rfl rfl (Nat.le_of_ble_eq_true rfl) rfl ?_
  exact TB_X2_takeBest_150 hW   hk13 _ _ _ _ _ _ _ _ _ _ _ _ H
def B_X2_takeBest_115 (k13 : TS → Int32 → Int32 → Int32 → Int32 → Int32 → Int32 → Int32 → Option (Int32 × TS)) (t : TS) (v1 : Int32) (v2 : Int32) (v3 : Int32) (v4 : Int32) (v5 : Int32) (v6 : Int32) (v7 : Int32) (v8 : Int32) (v9 : Int32) (v10 : Int32) : Option (Int32 × TS) := (B_X2_takeBest_116 k13 t v1 v2 v3 v4 v5 v6 v7 v8 v9 v10 0)
theorem TB_X2_takeBest_115 {W : NW} {d : Nat} {Q : Option NV → TS → Prop} {a0 : Nat → Nat → Nat} {e0 : Nat → Nat → Bool} {k13 : TS → Int32 → Int32 → Int32 → Int32 → Int32 → Int32 → Int32 → Option (Int32 × TS)} {bc bs : Nat} (hW : W.2.2.2 = mm_fx) (hk13 : ∀ (t : TS) (v1 : Int32) (v2 : Int32) (v3 : Int32) (v4 : Int32) (v5 : Int32) (v6 : Int32) (v7 : Int32) (v8 : Option NV) (v9 : Option NV) (v10 : Option NV) (v11 : Option NV), wp (k13 t v1 v2 v3 v4 v5 v6 v7) (fun r => Q (some (eI r.1)) r.2) → nX W (d + 1) tX2_takeBest Q a0 e0 13 [some (eR (some (2, 0))), some (eI v1), some (eI v2), some (eI v3), some (eI v4), some (eI v5), some (eI v6), some (eI v7), v8, v9, v10, v11] [] t bc bs) : ∀ (t : TS) (v1 : Int32) (v2 : Int32) (v3 : Int32) (v4 : Int32) (v5 : Int32) (v6 : Int32) (v7 : Int32) (v8 : Int32) (v9 : Int32) (v10 : Int32) (v11 : Option NV), wp (B_X2_takeBest_115 k13 t v1 v2 v3 v4 v5 v6 v7 v8 v9 v10) (fun r => Q (some (eI r.1)) r.2) → nX W (d + 1) tX2_takeBest Q a0 e0 115 [some (eR (some (2, 0))), some (eI v1), some (eI v2), some (eI v3), some (eI v4), some (eI v5), some (eI v6), some (eI v7), some (eI v8), some (eI v9), some (eI v10), v11] [] t bc bs := by
  intro t v1 v2 v3 v4 v5 v6 v7 v8 v9 v10 v11 H
  unfold B_X2_takeBest_115 at H
  refine nx_int (x := 0) rfl rfl ?_
  exact TB_X2_takeBest_116 hW   hk13 _ _ _ _ _ _ _ _ _ _ _ _ _ H
def B_X2_takeBest_74 (k13 : TS → Int32 → Int32 → Int32 → Int32 → Int32 → Int32 → Int32 → Option (Int32 × TS)) (t : TS) (v1 : Int32) (v2 : Int32) (v3 : Int32) (v4 : Int32) (v5 : Int32) (v6 : Int32) (v7 : Int32) (v8 : Int32) (v9 : Int32) (s0 : Int32) : Option (Int32 × TS) := (if v1 < v8 then (B_X2_takeBest_115 k13 t v1 v2 v3 v4 v5 v6 v7 v8 v9 s0) else (Option.bind (F_J6_bitCount_0f7a4 t v7) (fun r21 => (if (v2 / 10) < r21 then (B_X2_takeBest_115 k13 t v1 v2 v3 v4 v5 v6 v7 v8 v9 s0) else (Option.bind (F_X2_sumOf t v7 (2202, 0)) (fun r22 => (if r22 < (irm v2 10) then (B_X2_takeBest_115 k13 t v1 v2 v3 v4 v5 v6 v7 v8 v9 s0) else (B_X2_takeBest_116 k13 t v1 v2 v3 v4 v5 v6 v7 v8 v9 s0 1))))))))
theorem TB_X2_takeBest_74 {W : NW} {d : Nat} {Q : Option NV → TS → Prop} {a0 : Nat → Nat → Nat} {e0 : Nat → Nat → Bool} {k13 : TS → Int32 → Int32 → Int32 → Int32 → Int32 → Int32 → Int32 → Option (Int32 × TS)} {bc bs : Nat} (hW : W.2.2.2 = mm_fx) (hk13 : ∀ (t : TS) (v1 : Int32) (v2 : Int32) (v3 : Int32) (v4 : Int32) (v5 : Int32) (v6 : Int32) (v7 : Int32) (v8 : Option NV) (v9 : Option NV) (v10 : Option NV) (v11 : Option NV), wp (k13 t v1 v2 v3 v4 v5 v6 v7) (fun r => Q (some (eI r.1)) r.2) → nX W (d + 1) tX2_takeBest Q a0 e0 13 [some (eR (some (2, 0))), some (eI v1), some (eI v2), some (eI v3), some (eI v4), some (eI v5), some (eI v6), some (eI v7), v8, v9, v10, v11] [] t bc bs) : ∀ (t : TS) (v1 : Int32) (v2 : Int32) (v3 : Int32) (v4 : Int32) (v5 : Int32) (v6 : Int32) (v7 : Int32) (v8 : Int32) (v9 : Int32) (v10 : Option NV) (v11 : Option NV) (s0 : Int32), wp (B_X2_takeBest_74 k13 t v1 v2 v3 v4 v5 v6 v7 v8 v9 s0) (fun r => Q (some (eI r.1)) r.2) → nX W (d + 1) tX2_takeBest Q a0 e0 74 [some (eR (some (2, 0))), some (eI v1), some (eI v2), some (eI v3), some (eI v4), some (eI v5), some (eI v6), some (eI v7), some (eI v8), some (eI v9), v10, v11] [eI s0] t bc bs := by
  intro t v1 v2 v3 v4 v5 v6 v7 v8 v9 v10 v11 s0 H
  unfold B_X2_takeBest_74 at H
  refine nx_st (ls' := [some (eR (some (2, 0))), some (eI v1), some (eI v2), some (eI v3), some (eI v4), some (eI v5), some (eI v6), some (eI v7), some (eI v8), some (eI v9), some (eI s0), v11]) rfl rfl rfl (Nat.le_of_ble_eq_true rfl) rfl ?_
  refine nx_ld rfl rfl rfl rfl ?_
  refine nx_ld rfl rfl rfl rfl ?_
  refine nx_icmp rfl rfl (by rfl) H (fun H => ?_) (fun H => ?_)
  · exact TB_X2_takeBest_115 hW   hk13 _ _ _ _ _ _ _ _ _ _ _ _ H
  refine nx_ld rfl rfl rfl rfl ?_
  refine nx_cSI (as := [eI v7]) (st' := []) rfl rfl (Nat.le_of_ble_eq_true rfl) rfl rfl (Nat.le_of_ble_eq_true rfl) H (fun Q H => TF_J6_bitCount_0f7a4 hW  H) (fun r21 H => ?_)
  refine nx_ld rfl rfl rfl rfl ?_
  refine nx_int (x := 10) rfl rfl ?_
  refine nx_idivL rfl rfl (by decide) ?_
  refine nx_icmp rfl rfl (by rfl) H (fun H => ?_) (fun H => ?_)
  · exact TB_X2_takeBest_115 hW   hk13 _ _ _ _ _ _ _ _ _ _ _ _ H
  refine nx_ld rfl rfl rfl rfl ?_
  refine nx_ld rfl rfl rfl rfl ?_
  refine nx_ld rfl rfl rfl rfl ?_
  refine nx_getFix rfl rfl rfl (by decide) (by rw [hW]; rfl) rfl ?_
  refine nx_cVI (as := [eI v7, eR (some (2202, 0))]) (st' := []) rfl rfl (Nat.le_of_ble_eq_true rfl) rfl rfl (Nat.le_of_ble_eq_true rfl) (c0 := 2) rfl (by decide) H (fun Q H => TF_X2_sumOf hW (Nat.le_of_ble_eq_true rfl) (Nat.le_of_ble_eq_true rfl) rfl H) (fun r22 H => ?_)
  refine nx_ld rfl rfl rfl rfl ?_
  refine nx_int (x := 10) rfl rfl ?_
  show nX _ _ _ _ _ _ 107 _ _ _ _ _
  refine nx_idivL rfl rfl (by decide) ?_
  refine nx_icmp rfl rfl (by rfl) H (fun H => ?_) (fun H => ?_)
  · exact TB_X2_takeBest_115 hW   hk13 _ _ _ _ _ _ _ _ _ _ _ _ H
  refine nx_int (x := 1) rfl rfl ?_
  refine nx_goto rfl rfl ?_
  exact TB_X2_takeBest_116 hW   hk13 _ _ _ _ _ _ _ _ _ _ _ _ _ H
def B_X2_takeBest_69 (k13 : TS → Int32 → Int32 → Int32 → Int32 → Int32 → Int32 → Int32 → Option (Int32 × TS)) (t : TS) (v1 : Int32) (v2 : Int32) (v3 : Int32) (v4 : Int32) (v5 : Int32) (v6 : Int32) (v7 : Int32) (v8 : Int32) (v9 : Int32) : Option (Int32 × TS) := (B_X2_takeBest_74 k13 t v1 v2 v3 v4 v5 v6 v7 v8 v9 1)
theorem TB_X2_takeBest_69 {W : NW} {d : Nat} {Q : Option NV → TS → Prop} {a0 : Nat → Nat → Nat} {e0 : Nat → Nat → Bool} {k13 : TS → Int32 → Int32 → Int32 → Int32 → Int32 → Int32 → Int32 → Option (Int32 × TS)} {bc bs : Nat} (hW : W.2.2.2 = mm_fx) (hk13 : ∀ (t : TS) (v1 : Int32) (v2 : Int32) (v3 : Int32) (v4 : Int32) (v5 : Int32) (v6 : Int32) (v7 : Int32) (v8 : Option NV) (v9 : Option NV) (v10 : Option NV) (v11 : Option NV), wp (k13 t v1 v2 v3 v4 v5 v6 v7) (fun r => Q (some (eI r.1)) r.2) → nX W (d + 1) tX2_takeBest Q a0 e0 13 [some (eR (some (2, 0))), some (eI v1), some (eI v2), some (eI v3), some (eI v4), some (eI v5), some (eI v6), some (eI v7), v8, v9, v10, v11] [] t bc bs) : ∀ (t : TS) (v1 : Int32) (v2 : Int32) (v3 : Int32) (v4 : Int32) (v5 : Int32) (v6 : Int32) (v7 : Int32) (v8 : Int32) (v9 : Int32) (v10 : Option NV) (v11 : Option NV), wp (B_X2_takeBest_69 k13 t v1 v2 v3 v4 v5 v6 v7 v8 v9) (fun r => Q (some (eI r.1)) r.2) → nX W (d + 1) tX2_takeBest Q a0 e0 69 [some (eR (some (2, 0))), some (eI v1), some (eI v2), some (eI v3), some (eI v4), some (eI v5), some (eI v6), some (eI v7), some (eI v8), some (eI v9), v10, v11] [] t bc bs := by
  intro t v1 v2 v3 v4 v5 v6 v7 v8 v9 v10 v11 H
  unfold B_X2_takeBest_69 at H
  refine nx_int (x := 1) rfl rfl ?_
  refine nx_goto rfl rfl ?_
  exact TB_X2_takeBest_74 hW   hk13 _ _ _ _ _ _ _ _ _ _ _ _ _ H
def B_X2_takeBest_73 (k13 : TS → Int32 → Int32 → Int32 → Int32 → Int32 → Int32 → Int32 → Option (Int32 × TS)) (t : TS) (v1 : Int32) (v2 : Int32) (v3 : Int32) (v4 : Int32) (v5 : Int32) (v6 : Int32) (v7 : Int32) (v8 : Int32) (v9 : Int32) : Option (Int32 × TS) := (B_X2_takeBest_74 k13 t v1 v2 v3 v4 v5 v6 v7 v8 v9 0)
theorem TB_X2_takeBest_73 {W : NW} {d : Nat} {Q : Option NV → TS → Prop} {a0 : Nat → Nat → Nat} {e0 : Nat → Nat → Bool} {k13 : TS → Int32 → Int32 → Int32 → Int32 → Int32 → Int32 → Int32 → Option (Int32 × TS)} {bc bs : Nat} (hW : W.2.2.2 = mm_fx) (hk13 : ∀ (t : TS) (v1 : Int32) (v2 : Int32) (v3 : Int32) (v4 : Int32) (v5 : Int32) (v6 : Int32) (v7 : Int32) (v8 : Option NV) (v9 : Option NV) (v10 : Option NV) (v11 : Option NV), wp (k13 t v1 v2 v3 v4 v5 v6 v7) (fun r => Q (some (eI r.1)) r.2) → nX W (d + 1) tX2_takeBest Q a0 e0 13 [some (eR (some (2, 0))), some (eI v1), some (eI v2), some (eI v3), some (eI v4), some (eI v5), some (eI v6), some (eI v7), v8, v9, v10, v11] [] t bc bs) : ∀ (t : TS) (v1 : Int32) (v2 : Int32) (v3 : Int32) (v4 : Int32) (v5 : Int32) (v6 : Int32) (v7 : Int32) (v8 : Int32) (v9 : Int32) (v10 : Option NV) (v11 : Option NV), wp (B_X2_takeBest_73 k13 t v1 v2 v3 v4 v5 v6 v7 v8 v9) (fun r => Q (some (eI r.1)) r.2) → nX W (d + 1) tX2_takeBest Q a0 e0 73 [some (eR (some (2, 0))), some (eI v1), some (eI v2), some (eI v3), some (eI v4), some (eI v5), some (eI v6), some (eI v7), some (eI v8), some (eI v9), v10, v11] [] t bc bs := by
  intro t v1 v2 v3 v4 v5 v6 v7 v8 v9 v10 v11 H
  unfold B_X2_takeBest_73 at H
  refine nx_int (x := 0) rfl rfl ?_
  exact TB_X2_takeBest_74 hW   hk13 _ _ _ _ _ _ _ _ _ _ _ _ _ H
def BB_X2_takeBest_13 (k13 : TS → Int32 → Int32 → Int32 → Int32 → Int32 → Int32 → Int32 → Option (Int32 × TS)) (t : TS) (v1 : Int32) (v2 : Int32) (v3 : Int32) (v4 : Int32) (v5 : Int32) (v6 : Int32) (v7 : Int32) : Option (Int32 × TS) := (if ((1 : Int32) <<< ((tI t 204 0) &&& 31)) ≤ v7 then (B_X2_takeBest_156  t v4) else (Option.bind (F_X2_sumOf t v7 (2200, 0)) (fun r21 => (Option.bind (F_X2_sumOf t v7 (2201, 0)) (fun r22 => (if v5 < r22 then (B_X2_takeBest_69 k13 t v1 v2 v3 v4 v5 v6 v7 r21 r22) else (if ¬ r22 = v5 then (B_X2_takeBest_73 k13 t v1 v2 v3 v4 v5 v6 v7 r21 r22) else (if v6 ≤ r21 then (B_X2_takeBest_73 k13 t v1 v2 v3 v4 v5 v6 v7 r21 r22) else (B_X2_takeBest_69 k13 t v1 v2 v3 v4 v5 v6 v7 r21 r22)))))))))
theorem TBB_X2_takeBest_13 {W : NW} {d : Nat} {Q : Option NV → TS → Prop} {a0 : Nat → Nat → Nat} {e0 : Nat → Nat → Bool} {k13 : TS → Int32 → Int32 → Int32 → Int32 → Int32 → Int32 → Int32 → Option (Int32 × TS)} {bc bs : Nat} (hW : W.2.2.2 = mm_fx) (hk13 : ∀ (t : TS) (v1 : Int32) (v2 : Int32) (v3 : Int32) (v4 : Int32) (v5 : Int32) (v6 : Int32) (v7 : Int32) (v8 : Option NV) (v9 : Option NV) (v10 : Option NV) (v11 : Option NV), wp (k13 t v1 v2 v3 v4 v5 v6 v7) (fun r => Q (some (eI r.1)) r.2) → nX W (d + 1) tX2_takeBest Q a0 e0 13 [some (eR (some (2, 0))), some (eI v1), some (eI v2), some (eI v3), some (eI v4), some (eI v5), some (eI v6), some (eI v7), v8, v9, v10, v11] [] t bc bs) : ∀ (t : TS) (v1 : Int32) (v2 : Int32) (v3 : Int32) (v4 : Int32) (v5 : Int32) (v6 : Int32) (v7 : Int32) (v8 : Option NV) (v9 : Option NV) (v10 : Option NV) (v11 : Option NV), wp (BB_X2_takeBest_13 k13 t v1 v2 v3 v4 v5 v6 v7) (fun r => Q (some (eI r.1)) r.2) → nX W (d + 1) tX2_takeBest Q a0 e0 13 [some (eR (some (2, 0))), some (eI v1), some (eI v2), some (eI v3), some (eI v4), some (eI v5), some (eI v6), some (eI v7), v8, v9, v10, v11] [] t bc bs := by
  intro t v1 v2 v3 v4 v5 v6 v7 v8 v9 v10 v11 H
  unfold BB_X2_takeBest_13 at H
  refine nx_ld rfl rfl rfl rfl ?_
  refine nx_int (x := 1) rfl rfl ?_
  refine nx_ld rfl rfl rfl rfl ?_
  refine nx_getI rfl rfl rfl (by decide) ?_
  refine nx_ii rfl rfl ?_
  refine nx_icmp rfl rfl (by rfl) H (fun H => ?_) (fun H => ?_)
  · exact TB_X2_takeBest_156 hW    _ _ _ _ _ _ _ _ _ _ _ _ H
  refine nx_ld rfl rfl rfl rfl ?_
  refine nx_ld rfl rfl rfl rfl ?_
  refine nx_ld rfl rfl rfl rfl ?_
  refine nx_getFix rfl rfl rfl (by decide) (by rw [hW]; rfl) rfl ?_
  refine nx_cVI (as := [eI v7, eR (some (2200, 0))]) (st' := []) rfl rfl (Nat.le_of_ble_eq_true rfl) rfl rfl (Nat.le_of_ble_eq_true rfl) (c0 := 2) rfl (by decide) H (fun Q H => TF_X2_sumOf hW (Nat.le_of_ble_eq_true rfl) (Nat.le_of_ble_eq_true rfl) rfl H) (fun r21 H => ?_)
  refine nx_st (ls' := [some (eR (some (2, 0))), some (eI v1), some (eI v2), some (eI v3), some (eI v4), some (eI v5), some (eI v6), some (eI v7), some (eI r21), v9, v10, v11]) rfl rfl rfl (Nat.le_of_ble_eq_true rfl) rfl ?_
  refine nx_ld rfl rfl rfl rfl ?_
  show nX _ _ _ _ _ _ 37 _ _ _ _ _
  refine nx_ld rfl rfl rfl rfl ?_
  refine nx_ld rfl rfl rfl rfl ?_
  refine nx_getFix rfl rfl rfl (by decide) (by rw [hW]; rfl) rfl ?_
  refine nx_cVI (as := [eI v7, eR (some (2201, 0))]) (st' := []) rfl rfl (Nat.le_of_ble_eq_true rfl) rfl rfl (Nat.le_of_ble_eq_true rfl) (c0 := 2) rfl (by decide) H (fun Q H => TF_X2_sumOf hW (Nat.le_of_ble_eq_true rfl) (Nat.le_of_ble_eq_true rfl) rfl H) (fun r22 H => ?_)
  refine nx_st (ls' := [some (eR (some (2, 0))), some (eI v1), some (eI v2), some (eI v3), some (eI v4), some (eI v5), some (eI v6), some (eI v7), some (eI r21), some (eI r22), v10, v11]) rfl rfl rfl (Nat.le_of_ble_eq_true rfl) rfl ?_
  refine nx_ld rfl rfl rfl rfl ?_
  refine nx_ld rfl rfl rfl rfl ?_
  refine nx_icmp rfl rfl (by rfl) H (fun H => ?_) (fun H => ?_)
  · exact TB_X2_takeBest_69 hW   hk13 _ _ _ _ _ _ _ _ _ _ _ _ H
  refine nx_ld rfl rfl rfl rfl ?_
  refine nx_ld rfl rfl rfl rfl ?_
  refine nx_icmp rfl rfl (by rfl) H (fun H => ?_) (fun H => ?_)
  · exact TB_X2_takeBest_73 hW   hk13 _ _ _ _ _ _ _ _ _ _ _ _ H
  refine nx_ld rfl rfl rfl rfl ?_
  refine nx_ld rfl rfl rfl rfl ?_
  refine nx_icmp rfl rfl (by rfl) H (fun H => ?_) (fun H => ?_)
  · exact TB_X2_takeBest_73 hW   hk13 _ _ _ _ _ _ _ _ _ _ _ _ H
  exact TB_X2_takeBest_69 hW   hk13 _ _ _ _ _ _ _ _ _ _ _ _ H
def B_X2_takeBest_13 : Nat → TS → Int32 → Int32 → Int32 → Int32 → Int32 → Int32 → Int32 → Option (Int32 × TS)
  | 0 => fun _ _ _ _ _ _ _ _ => none
  | n + 1 => fun t v1 v2 v3 v4 v5 v6 v7 => BB_X2_takeBest_13 (B_X2_takeBest_13 n) t v1 v2 v3 v4 v5 v6 v7
theorem TB_X2_takeBest_13 {W : NW} {d : Nat} {Q : Option NV → TS → Prop} {a0 : Nat → Nat → Nat} {e0 : Nat → Nat → Bool} {bc bs : Nat} (hW : W.2.2.2 = mm_fx) : ∀ (n : Nat) (t : TS) (v1 : Int32) (v2 : Int32) (v3 : Int32) (v4 : Int32) (v5 : Int32) (v6 : Int32) (v7 : Int32) (v8 : Option NV) (v9 : Option NV) (v10 : Option NV) (v11 : Option NV), wp (B_X2_takeBest_13 n t v1 v2 v3 v4 v5 v6 v7) (fun r => Q (some (eI r.1)) r.2) → nX W (d + 1) tX2_takeBest Q a0 e0 13 [some (eR (some (2, 0))), some (eI v1), some (eI v2), some (eI v3), some (eI v4), some (eI v5), some (eI v6), some (eI v7), v8, v9, v10, v11] [] t bc bs := by
  intro n
  induction n with
  | zero => intro t v1 v2 v3 v4 v5 v6 v7 v8 v9 v10 v11 H; exact (wp_none H).elim
  | succ n ih =>
    intro t v1 v2 v3 v4 v5 v6 v7 v8 v9 v10 v11 H
    exact TBB_X2_takeBest_13 hW    ih t v1 v2 v3 v4 v5 v6 v7 v8 v9 v10 v11 H
def F_X2_takeBest (t : TS) (x1 : Int32) (x2 : Int32) (x3 : Int32) : Option (Int32 × TS) := (B_X2_takeBest_13  10000 t x1 x2 x3 (-2) (-1) 0 0)
theorem TF_X2_takeBest {W : NW} {d : Nat} {t : TS} {x1 : Int32} {x2 : Int32} {x3 : Int32} {Q : Option NV → TS → Prop} {bc bs : Nat} (hW : W.2.2.2 = mm_fx) (H : wp (F_X2_takeBest t x1 x2 x3) (fun r => Q (some (eI r.1)) r.2)) : nC W (d + 2) 14 [eR (some (2, 0)), eI x1, eI x2, eI x3] t bc bs Q := by
  refine nC_in (d := (d + 1)) (T := tX2_takeBest) (ls := [some (eR (some (2, 0))), some (eI x1), some (eI x2), some (eI x3), none, none, none, none, none, none, none, none]) rfl (Nat.le_of_ble_eq_true rfl) rfl (fun a0 e0 => ?_)
  unfold F_X2_takeBest at H
  refine nx_int (x := (-2)) rfl rfl ?_
  refine nx_st (ls' := [some (eR (some (2, 0))), some (eI x1), some (eI x2), some (eI x3), some (eI (-2)), none, none, none, none, none, none, none]) rfl rfl rfl (Nat.le_of_ble_eq_true rfl) rfl ?_
  refine nx_int (x := (-1)) rfl rfl ?_
  refine nx_st (ls' := [some (eR (some (2, 0))), some (eI x1), some (eI x2), some (eI x3), some (eI (-2)), some (eI (-1)), none, none, none, none, none, none]) rfl rfl rfl (Nat.le_of_ble_eq_true rfl) rfl ?_
  refine nx_int (x := 0) rfl rfl ?_
  refine nx_st (ls' := [some (eR (some (2, 0))), some (eI x1), some (eI x2), some (eI x3), some (eI (-2)), some (eI (-1)), some (eI 0), none, none, none, none, none]) rfl rfl rfl (Nat.le_of_ble_eq_true rfl) rfl ?_
  refine nx_int (x := 0) rfl rfl ?_
  show nX _ _ _ _ _ _ 11 _ _ _ _ _
  refine nx_st (ls' := [some (eR (some (2, 0))), some (eI x1), some (eI x2), some (eI x3), some (eI (-2)), some (eI (-1)), some (eI 0), some (eI 0), none, none, none, none]) rfl rfl rfl (Nat.le_of_ble_eq_true rfl) rfl ?_
  exact TB_X2_takeBest_13 hW    10000 _ _ _ _ _ _ _ _ _ _ _ _ H
def F_X3_init (t : TS) : Option TS := (gE (tE t 2300 0) (nxt (uN t 2300 0 12) (fun t21 => (nxt (uR t21 300 0 (some 0)) (fun t22 => (gE (tE t22 2301 0) (nxt (uN t22 2301 0 12) (fun t23 => (nxt (uR t23 301 0 (some 0)) (fun t24 => (gE (tE t24 2303 0) (nxt (uN t24 2303 0 12) (fun t25 => (nxt (uR t25 303 0 (some 0)) (fun t26 => (gE (tE t26 2305 0) (nxt (uN t26 2305 0 12) (fun t27 => (nxt (uR t27 305 0 (some 0)) (fun t28 => (some t28)))))))))))))))))))))
theorem TF_X3_init {W : NW} {d : Nat} {t : TS} {Q : Option NV → TS → Prop} {bc bs : Nat} (hW : W.2.2.2 = (fun _ => false)) (H : wp (F_X3_init t) (fun r => Q none r)) : nC W (d + 1) 17 [eR (some (3, 0))] t (bc + 4) (bs + 48) Q := by
  refine nC_in (d := d) (T := tX3_init) (ls := [some (eR (some (3, 0)))]) rfl (Nat.le_of_ble_eq_true rfl) rfl (fun a0 e0 => ?_)
  unfold F_X3_init at H
  refine nx_ld rfl rfl rfl rfl ?_
  refine nx_objI rfl rfl (Nat.le_of_ble_eq_true rfl) ?_
  refine nx_ld rfl rfl rfl rfl ?_
  refine nx_int (x := 12) rfl rfl ?_
  refine nx_newaL 2300 0 12 rfl rfl (Nat.le_of_ble_eq_true rfl) (Nat.le_of_ble_eq_true rfl) rfl rfl (by decide) (Nat.le_of_ble_eq_true rfl) (by omega) (by omega) H (fun t21 H => ?_)
  refine nx_eq (bc' := bc + 3) (bs' := bs + 36) (by omega) (by omega) ?_
  refine nx_putR (f := 300) (o := (some 0)) rfl rfl rfl (by decide) (by rw [hW]) rfl (by decide) H (fun t22 H => ?_)
  refine nx_ld rfl rfl rfl rfl ?_
  show nX _ _ _ _ _ _ 13 _ _ _ _ _
  refine nx_int (x := 12) rfl rfl ?_
  refine nx_newaL 2301 0 12 rfl rfl (Nat.le_of_ble_eq_true rfl) (Nat.le_of_ble_eq_true rfl) rfl rfl (by decide) (Nat.le_of_ble_eq_true rfl) (by omega) (by omega) H (fun t23 H => ?_)
  refine nx_eq (bc' := bc + 2) (bs' := bs + 24) (by omega) (by omega) ?_
  refine nx_putR (f := 301) (o := (some 0)) rfl rfl rfl (by decide) (by rw [hW]) rfl (by decide) H (fun t24 H => ?_)
  refine nx_ld rfl rfl rfl rfl ?_
  refine nx_int (x := 12) rfl rfl ?_
  refine nx_newaL 2303 0 12 rfl rfl (Nat.le_of_ble_eq_true rfl) (Nat.le_of_ble_eq_true rfl) rfl rfl (by decide) (Nat.le_of_ble_eq_true rfl) (by omega) (by omega) H (fun t25 H => ?_)
  refine nx_eq (bc' := bc + 1) (bs' := bs + 12) (by omega) (by omega) ?_
  refine nx_putR (f := 303) (o := (some 0)) rfl rfl rfl (by decide) (by rw [hW]) rfl (by decide) H (fun t26 H => ?_)
  refine nx_ld rfl rfl rfl rfl ?_
  show nX _ _ _ _ _ _ 29 _ _ _ _ _
  refine nx_int (x := 12) rfl rfl ?_
  refine nx_newaL 2305 0 12 rfl rfl (Nat.le_of_ble_eq_true rfl) (Nat.le_of_ble_eq_true rfl) rfl rfl (by decide) (Nat.le_of_ble_eq_true rfl) (by omega) (by omega) H (fun t27 H => ?_)
  refine nx_eq (bc' := bc) (bs' := bs) (by omega) (by omega) ?_
  refine nx_putR (f := 305) (o := (some 0)) rfl rfl rfl (by decide) (by rw [hW]) rfl (by decide) H (fun t28 H => ?_)
  exact nx_rv rfl rfl H
def F_X3_add (t : TS) (x1 : Int32) (x2 : Int32) : Option (Int32 × TS) := (if (tI t 302 0) < (Int32.ofNat (tL t 2300 0)) then (gd (tI t 302 0) (tL t 2300 0) (nxt (uA t 2300 0 (tI t 302 0).toNatClampNeg x1) (fun t21 => (gd (tI t21 302 0) (tL t21 2301 0) (nxt (uA t21 2301 0 (tI t21 302 0).toNatClampNeg x2) (fun t22 => (nxt (uI t22 302 0 ((tI t22 302 0) + 1)) (fun t23 => (some (1, t23)))))))))) else (some (0, t)))
theorem TF_X3_add {W : NW} {d : Nat} {t : TS} {x1 : Int32} {x2 : Int32} {Q : Option NV → TS → Prop} {bc bs : Nat} (hW : W.2.2.2 = mm_fx) (H : wp (F_X3_add t x1 x2) (fun r => Q (some (eI r.1)) r.2)) : nC W (d + 1) 18 [eR (some (3, 0)), eI x1, eI x2] t bc bs Q := by
  refine nC_in (d := d) (T := tX3_add) (ls := [some (eR (some (3, 0))), some (eI x1), some (eI x2)]) rfl (Nat.le_of_ble_eq_true rfl) rfl (fun a0 e0 => ?_)
  unfold F_X3_add at H
  refine nx_ld rfl rfl rfl rfl ?_
  refine nx_getI rfl rfl rfl (by decide) ?_
  refine nx_ld rfl rfl rfl rfl ?_
  refine nx_getFix rfl rfl rfl (by decide) (by rw [hW]; rfl) rfl ?_
  refine nx_alen (p := (2300, 0)) rfl rfl (Nat.le_of_ble_eq_true rfl) (Nat.le_of_ble_eq_true rfl) (Nat.le_of_ble_eq_true rfl) ?_
  refine nx_icmp rfl rfl (by rfl) H (fun H => ?_) (fun H => ?_)
  · refine nx_ld rfl rfl rfl rfl ?_
    refine nx_getFix rfl rfl rfl (by decide) (by rw [hW]; rfl) rfl ?_
    refine nx_ld rfl rfl rfl rfl ?_
    refine nx_getI rfl rfl rfl (by decide) ?_
    refine nx_ld rfl rfl rfl rfl ?_
    refine nx_iast (p := (2300, 0)) rfl rfl (Nat.le_of_ble_eq_true rfl) (Nat.le_of_ble_eq_true rfl) rfl H (fun t21 H => ?_)
    refine nx_ld rfl rfl rfl rfl ?_
    show nX _ _ _ _ _ _ 25 _ _ _ _ _
    refine nx_getFix rfl rfl rfl (by decide) (by rw [hW]; rfl) rfl ?_
    refine nx_ld rfl rfl rfl rfl ?_
    refine nx_getI rfl rfl rfl (by decide) ?_
    refine nx_ld rfl rfl rfl rfl ?_
    refine nx_iast (p := (2301, 0)) rfl rfl (Nat.le_of_ble_eq_true rfl) (Nat.le_of_ble_eq_true rfl) rfl H (fun t22 H => ?_)
    refine nx_ld rfl rfl rfl rfl ?_
    refine nx_dup rfl rfl (Nat.ne_of_beq_eq_false rfl) ?_
    refine nx_getI rfl rfl rfl (by decide) ?_
    show nX _ _ _ _ _ _ 39 _ _ _ _ _
    refine nx_int (x := 1) rfl rfl ?_
    refine nx_ii rfl rfl ?_
    refine nx_putI rfl rfl rfl (by decide) H (fun t23 H => ?_)
    refine nx_int (x := 1) rfl rfl ?_
    exact nx_rzlt rfl rfl (by decide) H
  refine nx_int (x := 0) rfl rfl ?_
  exact nx_rzlt rfl rfl (by decide) H
def B_X12_addParts_197 (k95 : TS → Int32 → (Nat × Nat) → Int32 → (Nat × Nat) → Int64 → Int64 → Int64 → Int32 → Int32 → Option TS) (t : TS) (v0 : Int32) (v1 : Nat × Nat) (v2 : Int32) (v3 : Nat × Nat) (v4 : Int64) (v6 : Int64) (v11 : Int32) (v12 : Int32) (v13 : Int64) : Option TS := (if 0 ≤ v12 then (gd v12 (tL t v3.1 v3.2) (gd v12 (tL t v3.1 v3.2) (nxt (uA t v3.1 v3.2 v12.toNatClampNeg ((tA t v3.1 v3.2 v12.toNatClampNeg) + 1)) (fun t21 => (k95 t21 v0 v1 v2 v3 v4 v6 v13 v12 (v11 + 1)))))) else (some t))
theorem TB_X12_addParts_197 {W : NW} {d : Nat} {Q : Option NV → TS → Prop} {a0 : Nat → Nat → Nat} {e0 : Nat → Nat → Bool} {v1 : Nat × Nat} {v3 : Nat × Nat} {k95 : TS → Int32 → (Nat × Nat) → Int32 → (Nat × Nat) → Int64 → Int64 → Int64 → Int32 → Int32 → Option TS} {bc bs : Nat} (hW : W.2.2.2 = mm_fx) (hv11 : 2000 ≤ v1.1) (hv12 : v1.1 < 5000) (hv13 : nk v1.1 = 20) (hv31 : 2000 ≤ v3.1) (hv32 : v3.1 < 5000) (hv33 : nk v3.1 = 20) (hk95 : ∀ (t : TS) (v0 : Int32) (v2 : Int32) (v4 : Int64) (v6 : Int64) (v8 : Int64) (v10 : Int32) (v11 : Int32) (v12 : Option NV) (v13 : Option NV) (v15 : Option NV) (v16 : Option NV) (v18 : Option NV), wp (k95 t v0 v1 v2 v3 v4 v6 v8 v10 v11) (fun r => Q none r) → nX W d tX12_addParts Q a0 e0 95 [some (eI v0), some (eR (some v1)), some (eI v2), some (eR (some v3)), some (eJ v4), none, some (eJ v6), none, some (eJ v8), none, some (eI v10), some (eI v11), v12, v13, none, v15, v16, none, v18] [] t bc bs) : ∀ (t : TS) (v0 : Int32) (v2 : Int32) (v4 : Int64) (v6 : Int64) (v8 : Int64) (v10 : Int32) (v11 : Int32) (v12 : Int32) (v13 : Int64) (v15 : Int32) (v16 : Option NV) (v18 : Option NV), wp (B_X12_addParts_197 k95 t v0 v1 v2 v3 v4 v6 v11 v12 v13) (fun r => Q none r) → nX W d tX12_addParts Q a0 e0 197 [some (eI v0), some (eR (some v1)), some (eI v2), some (eR (some v3)), some (eJ v4), none, some (eJ v6), none, some (eJ v8), none, some (eI v10), some (eI v11), some (eI v12), some (eJ v13), none, some (eI v15), v16, none, v18] [] t bc bs := by
  intro t v0 v2 v4 v6 v8 v10 v11 v12 v13 v15 v16 v18 H
  unfold B_X12_addParts_197 at H
  refine nx_ld rfl rfl rfl rfl ?_
  refine nx_if rfl rfl (by rfl) H (fun H => ?_) (fun H => ?_)
  · refine nx_ld rfl rfl rfl rfl ?_
    refine nx_ld rfl rfl rfl rfl ?_
    refine nx_dup2 rfl rfl (Nat.ne_of_beq_eq_false rfl) (Nat.ne_of_beq_eq_false rfl) ?_
    refine nx_iald rfl rfl hv31 hv32 hv33 H (fun H => ?_)
    refine nx_int (x := 1) rfl rfl ?_
    refine nx_ii rfl rfl ?_
    refine nx_iast rfl rfl hv31 hv32 hv33 H (fun t21 H => ?_)
    show nX _ _ _ _ _ _ 211 _ _ _ _ _
    refine nx_ld rfl rfl rfl rfl ?_
    refine nx_st (ls' := [some (eI v0), some (eR (some v1)), some (eI v2), some (eR (some v3)), some (eJ v4), none, some (eJ v6), none, some (eJ v8), none, some (eI v12), some (eI v11), some (eI v12), some (eJ v13), none, some (eI v15), v16, none, v18]) rfl rfl rfl (Nat.le_of_ble_eq_true rfl) rfl ?_
    refine nx_ld rfl rfl rfl rfl ?_
    refine nx_st2 (ls' := [some (eI v0), some (eR (some v1)), some (eI v2), some (eR (some v3)), some (eJ v4), none, some (eJ v6), none, some (eJ v13), none, some (eI v12), some (eI v11), some (eI v12), some (eJ v13), none, some (eI v15), v16, none, v18]) rfl rfl (Nat.le_of_ble_eq_true rfl) rfl ?_
    refine nx_iinc2 1 (ls' := [some (eI v0), some (eR (some v1)), some (eI v2), some (eR (some v3)), some (eJ v4), none, some (eJ v6), none, some (eJ v13), none, some (eI v12), some (eI (v11 + 1)), some (eI v12), some (eJ v13), none, some (eI v15), v16, none, v18]) rfl rfl rfl rfl rfl ?_
    refine nx_goto rfl rfl ?_
    exact hk95 _ _ _ _ _ _ _ _ _ _ _ _ _ H
  exact nx_rv rfl rfl H
def B_X12_addParts_191 (k95 : TS → Int32 → (Nat × Nat) → Int32 → (Nat × Nat) → Int64 → Int64 → Int64 → Int32 → Int32 → Option TS) (k121 : TS → Int32 → (Nat × Nat) → Int32 → (Nat × Nat) → Int64 → Int64 → Int64 → Int32 → Int32 → Int32 → Int64 → Int32 → Option TS) (t : TS) (v0 : Int32) (v1 : Nat × Nat) (v2 : Int32) (v3 : Nat × Nat) (v4 : Int64) (v6 : Int64) (v8 : Int64) (v10 : Int32) (v11 : Int32) (v12 : Int32) (v13 : Int64) (v15 : Int32) : Option TS := (k121 t v0 v1 v2 v3 v4 v6 v8 v10 v11 v12 v13 (v15 + 1))
theorem TB_X12_addParts_191 {W : NW} {d : Nat} {Q : Option NV → TS → Prop} {a0 : Nat → Nat → Nat} {e0 : Nat → Nat → Bool} {v1 : Nat × Nat} {v3 : Nat × Nat} {k95 : TS → Int32 → (Nat × Nat) → Int32 → (Nat × Nat) → Int64 → Int64 → Int64 → Int32 → Int32 → Option TS} {k121 : TS → Int32 → (Nat × Nat) → Int32 → (Nat × Nat) → Int64 → Int64 → Int64 → Int32 → Int32 → Int32 → Int64 → Int32 → Option TS} {bc bs : Nat} (hW : W.2.2.2 = mm_fx) (hv11 : 2000 ≤ v1.1) (hv12 : v1.1 < 5000) (hv13 : nk v1.1 = 20) (hv31 : 2000 ≤ v3.1) (hv32 : v3.1 < 5000) (hv33 : nk v3.1 = 20) (hk95 : ∀ (t : TS) (v0 : Int32) (v2 : Int32) (v4 : Int64) (v6 : Int64) (v8 : Int64) (v10 : Int32) (v11 : Int32) (v12 : Option NV) (v13 : Option NV) (v15 : Option NV) (v16 : Option NV) (v18 : Option NV), wp (k95 t v0 v1 v2 v3 v4 v6 v8 v10 v11) (fun r => Q none r) → nX W d tX12_addParts Q a0 e0 95 [some (eI v0), some (eR (some v1)), some (eI v2), some (eR (some v3)), some (eJ v4), none, some (eJ v6), none, some (eJ v8), none, some (eI v10), some (eI v11), v12, v13, none, v15, v16, none, v18] [] t bc bs) (hk121 : ∀ (t : TS) (v0 : Int32) (v2 : Int32) (v4 : Int64) (v6 : Int64) (v8 : Int64) (v10 : Int32) (v11 : Int32) (v12 : Int32) (v13 : Int64) (v15 : Int32) (v16 : Option NV) (v18 : Option NV), wp (k121 t v0 v1 v2 v3 v4 v6 v8 v10 v11 v12 v13 v15) (fun r => Q none r) → nX W d tX12_addParts Q a0 e0 121 [some (eI v0), some (eR (some v1)), some (eI v2), some (eR (some v3)), some (eJ v4), none, some (eJ v6), none, some (eJ v8), none, some (eI v10), some (eI v11), some (eI v12), some (eJ v13), none, some (eI v15), v16, none, v18] [] t bc bs) : ∀ (t : TS) (v0 : Int32) (v2 : Int32) (v4 : Int64) (v6 : Int64) (v8 : Int64) (v10 : Int32) (v11 : Int32) (v12 : Int32) (v13 : Int64) (v15 : Int32) (v16 : Int64) (v18 : Int32), wp (B_X12_addParts_191 k95 k121 t v0 v1 v2 v3 v4 v6 v8 v10 v11 v12 v13 v15) (fun r => Q none r) → nX W d tX12_addParts Q a0 e0 191 [some (eI v0), some (eR (some v1)), some (eI v2), some (eR (some v3)), some (eJ v4), none, some (eJ v6), none, some (eJ v8), none, some (eI v10), some (eI v11), some (eI v12), some (eJ v13), none, some (eI v15), some (eJ v16), none, some (eI v18)] [] t bc bs := by
  intro t v0 v2 v4 v6 v8 v10 v11 v12 v13 v15 v16 v18 H
  unfold B_X12_addParts_191 at H
  refine nx_iinc2 1 (ls' := [some (eI v0), some (eR (some v1)), some (eI v2), some (eR (some v3)), some (eJ v4), none, some (eJ v6), none, some (eJ v8), none, some (eI v10), some (eI v11), some (eI v12), some (eJ v13), none, some (eI (v15 + 1)), some (eJ v16), none, some (eI v18)]) rfl rfl rfl rfl rfl ?_
  refine nx_goto rfl rfl ?_
  exact hk121 _ _ _ _ _ _ _ _ _ _ _ _ _ H
def B_X12_addParts_168 (k95 : TS → Int32 → (Nat × Nat) → Int32 → (Nat × Nat) → Int64 → Int64 → Int64 → Int32 → Int32 → Option TS) (k121 : TS → Int32 → (Nat × Nat) → Int32 → (Nat × Nat) → Int64 → Int64 → Int64 → Int32 → Int32 → Int32 → Int64 → Int32 → Option TS) (t : TS) (v0 : Int32) (v1 : Nat × Nat) (v2 : Int32) (v3 : Nat × Nat) (v4 : Int64) (v6 : Int64) (v8 : Int64) (v10 : Int32) (v11 : Int32) (v12 : Int32) (v13 : Int64) (v15 : Int32) (v16 : Int64) (s0 : Int32) : Option TS := (if s0 = 0 then (B_X12_addParts_191 k95 k121 t v0 v1 v2 v3 v4 v6 v8 v10 v11 v12 v13 v15) else (if (lg_cmp v16 v13) ≤ 0 then (B_X12_addParts_191 k95 k121 t v0 v1 v2 v3 v4 v6 v8 v10 v11 v12 v13 v15) else (B_X12_addParts_191 k95 k121 t v0 v1 v2 v3 v4 v6 v8 v10 v11 v15 v16 v15)))
theorem TB_X12_addParts_168 {W : NW} {d : Nat} {Q : Option NV → TS → Prop} {a0 : Nat → Nat → Nat} {e0 : Nat → Nat → Bool} {v1 : Nat × Nat} {v3 : Nat × Nat} {k95 : TS → Int32 → (Nat × Nat) → Int32 → (Nat × Nat) → Int64 → Int64 → Int64 → Int32 → Int32 → Option TS} {k121 : TS → Int32 → (Nat × Nat) → Int32 → (Nat × Nat) → Int64 → Int64 → Int64 → Int32 → Int32 → Int32 → Int64 → Int32 → Option TS} {bc bs : Nat} (hW : W.2.2.2 = mm_fx) (hv11 : 2000 ≤ v1.1) (hv12 : v1.1 < 5000) (hv13 : nk v1.1 = 20) (hv31 : 2000 ≤ v3.1) (hv32 : v3.1 < 5000) (hv33 : nk v3.1 = 20) (hk95 : ∀ (t : TS) (v0 : Int32) (v2 : Int32) (v4 : Int64) (v6 : Int64) (v8 : Int64) (v10 : Int32) (v11 : Int32) (v12 : Option NV) (v13 : Option NV) (v15 : Option NV) (v16 : Option NV) (v18 : Option NV), wp (k95 t v0 v1 v2 v3 v4 v6 v8 v10 v11) (fun r => Q none r) → nX W d tX12_addParts Q a0 e0 95 [some (eI v0), some (eR (some v1)), some (eI v2), some (eR (some v3)), some (eJ v4), none, some (eJ v6), none, some (eJ v8), none, some (eI v10), some (eI v11), v12, v13, none, v15, v16, none, v18] [] t bc bs) (hk121 : ∀ (t : TS) (v0 : Int32) (v2 : Int32) (v4 : Int64) (v6 : Int64) (v8 : Int64) (v10 : Int32) (v11 : Int32) (v12 : Int32) (v13 : Int64) (v15 : Int32) (v16 : Option NV) (v18 : Option NV), wp (k121 t v0 v1 v2 v3 v4 v6 v8 v10 v11 v12 v13 v15) (fun r => Q none r) → nX W d tX12_addParts Q a0 e0 121 [some (eI v0), some (eR (some v1)), some (eI v2), some (eR (some v3)), some (eJ v4), none, some (eJ v6), none, some (eJ v8), none, some (eI v10), some (eI v11), some (eI v12), some (eJ v13), none, some (eI v15), v16, none, v18] [] t bc bs) : ∀ (t : TS) (v0 : Int32) (v2 : Int32) (v4 : Int64) (v6 : Int64) (v8 : Int64) (v10 : Int32) (v11 : Int32) (v12 : Int32) (v13 : Int64) (v15 : Int32) (v16 : Int64) (v18 : Option NV) (s0 : Int32), wp (B_X12_addParts_168 k95 k121 t v0 v1 v2 v3 v4 v6 v8 v10 v11 v12 v13 v15 v16 s0) (fun r => Q none r) → nX W d tX12_addParts Q a0 e0 168 [some (eI v0), some (eR (some v1)), some (eI v2), some (eR (some v3)), some (eJ v4), none, some (eJ v6), none, some (eJ v8), none, some (eI v10), some (eI v11), some (eI v12), some (eJ v13), none, some (eI v15), some (eJ v16), none, v18] [eI s0] t bc bs := by
  intro t v0 v2 v4 v6 v8 v10 v11 v12 v13 v15 v16 v18 s0 H
  unfold B_X12_addParts_168 at H
  refine nx_st (ls' := [some (eI v0), some (eR (some v1)), some (eI v2), some (eR (some v3)), some (eJ v4), none, some (eJ v6), none, some (eJ v8), none, some (eI v10), some (eI v11), some (eI v12), some (eJ v13), none, some (eI v15), some (eJ v16), none, some (eI s0)]) rfl rfl rfl (Nat.le_of_ble_eq_true rfl) rfl ?_
  refine nx_ld rfl rfl rfl rfl ?_
  refine nx_if rfl rfl (by rfl) H (fun H => ?_) (fun H => ?_)
  · exact TB_X12_addParts_191 hW hv11 hv12 hv13 hv31 hv32 hv33  hk95 hk121 _ _ _ _ _ _ _ _ _ _ _ _ _ H
  refine nx_ld rfl rfl rfl rfl ?_
  refine nx_ld rfl rfl rfl rfl ?_
  refine nx_lcmp rfl rfl ?_
  refine nx_if rfl rfl (by rfl) H (fun H => ?_) (fun H => ?_)
  · exact TB_X12_addParts_191 hW hv11 hv12 hv13 hv31 hv32 hv33  hk95 hk121 _ _ _ _ _ _ _ _ _ _ _ _ _ H
  refine nx_ld rfl rfl rfl rfl ?_
  refine nx_st (ls' := [some (eI v0), some (eR (some v1)), some (eI v2), some (eR (some v3)), some (eJ v4), none, some (eJ v6), none, some (eJ v8), none, some (eI v10), some (eI v11), some (eI v15), some (eJ v13), none, some (eI v15), some (eJ v16), none, some (eI s0)]) rfl rfl rfl (Nat.le_of_ble_eq_true rfl) rfl ?_
  refine nx_ld rfl rfl rfl rfl ?_
  refine nx_st2 (ls' := [some (eI v0), some (eR (some v1)), some (eI v2), some (eR (some v3)), some (eJ v4), none, some (eJ v6), none, some (eJ v8), none, some (eI v10), some (eI v11), some (eI v15), some (eJ v16), none, some (eI v15), some (eJ v16), none, some (eI s0)]) rfl rfl (Nat.le_of_ble_eq_true rfl) rfl ?_
  exact TB_X12_addParts_191 hW hv11 hv12 hv13 hv31 hv32 hv33  hk95 hk121 _ _ _ _ _ _ _ _ _ _ _ _ _ H
def B_X12_addParts_163 (k95 : TS → Int32 → (Nat × Nat) → Int32 → (Nat × Nat) → Int64 → Int64 → Int64 → Int32 → Int32 → Option TS) (k121 : TS → Int32 → (Nat × Nat) → Int32 → (Nat × Nat) → Int64 → Int64 → Int64 → Int32 → Int32 → Int32 → Int64 → Int32 → Option TS) (t : TS) (v0 : Int32) (v1 : Nat × Nat) (v2 : Int32) (v3 : Nat × Nat) (v4 : Int64) (v6 : Int64) (v8 : Int64) (v10 : Int32) (v11 : Int32) (v12 : Int32) (v13 : Int64) (v15 : Int32) (v16 : Int64) : Option TS := (B_X12_addParts_168 k95 k121 t v0 v1 v2 v3 v4 v6 v8 v10 v11 v12 v13 v15 v16 1)
theorem TB_X12_addParts_163 {W : NW} {d : Nat} {Q : Option NV → TS → Prop} {a0 : Nat → Nat → Nat} {e0 : Nat → Nat → Bool} {v1 : Nat × Nat} {v3 : Nat × Nat} {k95 : TS → Int32 → (Nat × Nat) → Int32 → (Nat × Nat) → Int64 → Int64 → Int64 → Int32 → Int32 → Option TS} {k121 : TS → Int32 → (Nat × Nat) → Int32 → (Nat × Nat) → Int64 → Int64 → Int64 → Int32 → Int32 → Int32 → Int64 → Int32 → Option TS} {bc bs : Nat} (hW : W.2.2.2 = mm_fx) (hv11 : 2000 ≤ v1.1) (hv12 : v1.1 < 5000) (hv13 : nk v1.1 = 20) (hv31 : 2000 ≤ v3.1) (hv32 : v3.1 < 5000) (hv33 : nk v3.1 = 20) (hk95 : ∀ (t : TS) (v0 : Int32) (v2 : Int32) (v4 : Int64) (v6 : Int64) (v8 : Int64) (v10 : Int32) (v11 : Int32) (v12 : Option NV) (v13 : Option NV) (v15 : Option NV) (v16 : Option NV) (v18 : Option NV), wp (k95 t v0 v1 v2 v3 v4 v6 v8 v10 v11) (fun r => Q none r) → nX W d tX12_addParts Q a0 e0 95 [some (eI v0), some (eR (some v1)), some (eI v2), some (eR (some v3)), some (eJ v4), none, some (eJ v6), none, some (eJ v8), none, some (eI v10), some (eI v11), v12, v13, none, v15, v16, none, v18] [] t bc bs) (hk121 : ∀ (t : TS) (v0 : Int32) (v2 : Int32) (v4 : Int64) (v6 : Int64) (v8 : Int64) (v10 : Int32) (v11 : Int32) (v12 : Int32) (v13 : Int64) (v15 : Int32) (v16 : Option NV) (v18 : Option NV), wp (k121 t v0 v1 v2 v3 v4 v6 v8 v10 v11 v12 v13 v15) (fun r => Q none r) → nX W d tX12_addParts Q a0 e0 121 [some (eI v0), some (eR (some v1)), some (eI v2), some (eR (some v3)), some (eJ v4), none, some (eJ v6), none, some (eJ v8), none, some (eI v10), some (eI v11), some (eI v12), some (eJ v13), none, some (eI v15), v16, none, v18] [] t bc bs) : ∀ (t : TS) (v0 : Int32) (v2 : Int32) (v4 : Int64) (v6 : Int64) (v8 : Int64) (v10 : Int32) (v11 : Int32) (v12 : Int32) (v13 : Int64) (v15 : Int32) (v16 : Int64) (v18 : Option NV), wp (B_X12_addParts_163 k95 k121 t v0 v1 v2 v3 v4 v6 v8 v10 v11 v12 v13 v15 v16) (fun r => Q none r) → nX W d tX12_addParts Q a0 e0 163 [some (eI v0), some (eR (some v1)), some (eI v2), some (eR (some v3)), some (eJ v4), none, some (eJ v6), none, some (eJ v8), none, some (eI v10), some (eI v11), some (eI v12), some (eJ v13), none, some (eI v15), some (eJ v16), none, v18] [] t bc bs := by
  intro t v0 v2 v4 v6 v8 v10 v11 v12 v13 v15 v16 v18 H
  unfold B_X12_addParts_163 at H
  refine nx_int (x := 1) rfl rfl ?_
  refine nx_goto rfl rfl ?_
  exact TB_X12_addParts_168 hW hv11 hv12 hv13 hv31 hv32 hv33  hk95 hk121 _ _ _ _ _ _ _ _ _ _ _ _ _ _ H
def B_X12_addParts_167 (k95 : TS → Int32 → (Nat × Nat) → Int32 → (Nat × Nat) → Int64 → Int64 → Int64 → Int32 → Int32 → Option TS) (k121 : TS → Int32 → (Nat × Nat) → Int32 → (Nat × Nat) → Int64 → Int64 → Int64 → Int32 → Int32 → Int32 → Int64 → Int32 → Option TS) (t : TS) (v0 : Int32) (v1 : Nat × Nat) (v2 : Int32) (v3 : Nat × Nat) (v4 : Int64) (v6 : Int64) (v8 : Int64) (v10 : Int32) (v11 : Int32) (v12 : Int32) (v13 : Int64) (v15 : Int32) (v16 : Int64) : Option TS := (B_X12_addParts_168 k95 k121 t v0 v1 v2 v3 v4 v6 v8 v10 v11 v12 v13 v15 v16 0)
theorem TB_X12_addParts_167 {W : NW} {d : Nat} {Q : Option NV → TS → Prop} {a0 : Nat → Nat → Nat} {e0 : Nat → Nat → Bool} {v1 : Nat × Nat} {v3 : Nat × Nat} {k95 : TS → Int32 → (Nat × Nat) → Int32 → (Nat × Nat) → Int64 → Int64 → Int64 → Int32 → Int32 → Option TS} {k121 : TS → Int32 → (Nat × Nat) → Int32 → (Nat × Nat) → Int64 → Int64 → Int64 → Int32 → Int32 → Int32 → Int64 → Int32 → Option TS} {bc bs : Nat} (hW : W.2.2.2 = mm_fx) (hv11 : 2000 ≤ v1.1) (hv12 : v1.1 < 5000) (hv13 : nk v1.1 = 20) (hv31 : 2000 ≤ v3.1) (hv32 : v3.1 < 5000) (hv33 : nk v3.1 = 20) (hk95 : ∀ (t : TS) (v0 : Int32) (v2 : Int32) (v4 : Int64) (v6 : Int64) (v8 : Int64) (v10 : Int32) (v11 : Int32) (v12 : Option NV) (v13 : Option NV) (v15 : Option NV) (v16 : Option NV) (v18 : Option NV), wp (k95 t v0 v1 v2 v3 v4 v6 v8 v10 v11) (fun r => Q none r) → nX W d tX12_addParts Q a0 e0 95 [some (eI v0), some (eR (some v1)), some (eI v2), some (eR (some v3)), some (eJ v4), none, some (eJ v6), none, some (eJ v8), none, some (eI v10), some (eI v11), v12, v13, none, v15, v16, none, v18] [] t bc bs) (hk121 : ∀ (t : TS) (v0 : Int32) (v2 : Int32) (v4 : Int64) (v6 : Int64) (v8 : Int64) (v10 : Int32) (v11 : Int32) (v12 : Int32) (v13 : Int64) (v15 : Int32) (v16 : Option NV) (v18 : Option NV), wp (k121 t v0 v1 v2 v3 v4 v6 v8 v10 v11 v12 v13 v15) (fun r => Q none r) → nX W d tX12_addParts Q a0 e0 121 [some (eI v0), some (eR (some v1)), some (eI v2), some (eR (some v3)), some (eJ v4), none, some (eJ v6), none, some (eJ v8), none, some (eI v10), some (eI v11), some (eI v12), some (eJ v13), none, some (eI v15), v16, none, v18] [] t bc bs) : ∀ (t : TS) (v0 : Int32) (v2 : Int32) (v4 : Int64) (v6 : Int64) (v8 : Int64) (v10 : Int32) (v11 : Int32) (v12 : Int32) (v13 : Int64) (v15 : Int32) (v16 : Int64) (v18 : Option NV), wp (B_X12_addParts_167 k95 k121 t v0 v1 v2 v3 v4 v6 v8 v10 v11 v12 v13 v15 v16) (fun r => Q none r) → nX W d tX12_addParts Q a0 e0 167 [some (eI v0), some (eR (some v1)), some (eI v2), some (eR (some v3)), some (eJ v4), none, some (eJ v6), none, some (eJ v8), none, some (eI v10), some (eI v11), some (eI v12), some (eJ v13), none, some (eI v15), some (eJ v16), none, v18] [] t bc bs := by
  intro t v0 v2 v4 v6 v8 v10 v11 v12 v13 v15 v16 v18 H
  unfold B_X12_addParts_167 at H
  refine nx_int (x := 0) rfl rfl ?_
  exact TB_X12_addParts_168 hW hv11 hv12 hv13 hv31 hv32 hv33  hk95 hk121 _ _ _ _ _ _ _ _ _ _ _ _ _ _ H
def BB_X12_addParts_121 (k95 : TS → Int32 → (Nat × Nat) → Int32 → (Nat × Nat) → Int64 → Int64 → Int64 → Int32 → Int32 → Option TS) (k121 : TS → Int32 → (Nat × Nat) → Int32 → (Nat × Nat) → Int64 → Int64 → Int64 → Int32 → Int32 → Int32 → Int64 → Int32 → Option TS) (t : TS) (v0 : Int32) (v1 : Nat × Nat) (v2 : Int32) (v3 : Nat × Nat) (v4 : Int64) (v6 : Int64) (v8 : Int64) (v10 : Int32) (v11 : Int32) (v12 : Int32) (v13 : Int64) (v15 : Int32) : Option TS := (if v2 ≤ v15 then (B_X12_addParts_197 k95 t v0 v1 v2 v3 v4 v6 v11 v12 v13) else (gd v15 (tL t v1.1 v1.2) (gzJ v4 (if (lg_cmp (jrm ((v0.toInt64) * ((tA t v1.1 v1.2 v15.toNatClampNeg).toInt64)) v4) v8) < 0 then (B_X12_addParts_163 k95 k121 t v0 v1 v2 v3 v4 v6 v8 v10 v11 v12 v13 v15 (jrm ((v0.toInt64) * ((tA t v1.1 v1.2 v15.toNatClampNeg).toInt64)) v4)) else (if ¬ (lg_cmp (jrm ((v0.toInt64) * ((tA t v1.1 v1.2 v15.toNatClampNeg).toInt64)) v4) v8) = 0 then (B_X12_addParts_167 k95 k121 t v0 v1 v2 v3 v4 v6 v8 v10 v11 v12 v13 v15 (jrm ((v0.toInt64) * ((tA t v1.1 v1.2 v15.toNatClampNeg).toInt64)) v4)) else (if v15 ≤ v10 then (B_X12_addParts_167 k95 k121 t v0 v1 v2 v3 v4 v6 v8 v10 v11 v12 v13 v15 (jrm ((v0.toInt64) * ((tA t v1.1 v1.2 v15.toNatClampNeg).toInt64)) v4)) else (B_X12_addParts_163 k95 k121 t v0 v1 v2 v3 v4 v6 v8 v10 v11 v12 v13 v15 (jrm ((v0.toInt64) * ((tA t v1.1 v1.2 v15.toNatClampNeg).toInt64)) v4))))))))
theorem TBB_X12_addParts_121 {W : NW} {d : Nat} {Q : Option NV → TS → Prop} {a0 : Nat → Nat → Nat} {e0 : Nat → Nat → Bool} {v1 : Nat × Nat} {v3 : Nat × Nat} {k95 : TS → Int32 → (Nat × Nat) → Int32 → (Nat × Nat) → Int64 → Int64 → Int64 → Int32 → Int32 → Option TS} {k121 : TS → Int32 → (Nat × Nat) → Int32 → (Nat × Nat) → Int64 → Int64 → Int64 → Int32 → Int32 → Int32 → Int64 → Int32 → Option TS} {bc bs : Nat} (hW : W.2.2.2 = mm_fx) (hv11 : 2000 ≤ v1.1) (hv12 : v1.1 < 5000) (hv13 : nk v1.1 = 20) (hv31 : 2000 ≤ v3.1) (hv32 : v3.1 < 5000) (hv33 : nk v3.1 = 20) (hk95 : ∀ (t : TS) (v0 : Int32) (v2 : Int32) (v4 : Int64) (v6 : Int64) (v8 : Int64) (v10 : Int32) (v11 : Int32) (v12 : Option NV) (v13 : Option NV) (v15 : Option NV) (v16 : Option NV) (v18 : Option NV), wp (k95 t v0 v1 v2 v3 v4 v6 v8 v10 v11) (fun r => Q none r) → nX W d tX12_addParts Q a0 e0 95 [some (eI v0), some (eR (some v1)), some (eI v2), some (eR (some v3)), some (eJ v4), none, some (eJ v6), none, some (eJ v8), none, some (eI v10), some (eI v11), v12, v13, none, v15, v16, none, v18] [] t bc bs) (hk121 : ∀ (t : TS) (v0 : Int32) (v2 : Int32) (v4 : Int64) (v6 : Int64) (v8 : Int64) (v10 : Int32) (v11 : Int32) (v12 : Int32) (v13 : Int64) (v15 : Int32) (v16 : Option NV) (v18 : Option NV), wp (k121 t v0 v1 v2 v3 v4 v6 v8 v10 v11 v12 v13 v15) (fun r => Q none r) → nX W d tX12_addParts Q a0 e0 121 [some (eI v0), some (eR (some v1)), some (eI v2), some (eR (some v3)), some (eJ v4), none, some (eJ v6), none, some (eJ v8), none, some (eI v10), some (eI v11), some (eI v12), some (eJ v13), none, some (eI v15), v16, none, v18] [] t bc bs) : ∀ (t : TS) (v0 : Int32) (v2 : Int32) (v4 : Int64) (v6 : Int64) (v8 : Int64) (v10 : Int32) (v11 : Int32) (v12 : Int32) (v13 : Int64) (v15 : Int32) (v16 : Option NV) (v18 : Option NV), wp (BB_X12_addParts_121 k95 k121 t v0 v1 v2 v3 v4 v6 v8 v10 v11 v12 v13 v15) (fun r => Q none r) → nX W d tX12_addParts Q a0 e0 121 [some (eI v0), some (eR (some v1)), some (eI v2), some (eR (some v3)), some (eJ v4), none, some (eJ v6), none, some (eJ v8), none, some (eI v10), some (eI v11), some (eI v12), some (eJ v13), none, some (eI v15), v16, none, v18] [] t bc bs := by
  intro t v0 v2 v4 v6 v8 v10 v11 v12 v13 v15 v16 v18 H
  unfold BB_X12_addParts_121 at H
  refine nx_ld rfl rfl rfl rfl ?_
  refine nx_ld rfl rfl rfl rfl ?_
  refine nx_icmp rfl rfl (by rfl) H (fun H => ?_) (fun H => ?_)
  · exact TB_X12_addParts_197 hW hv11 hv12 hv13 hv31 hv32 hv33  hk95 _ _ _ _ _ _ _ _ _ _ _ _ _ H
  refine nx_ld rfl rfl rfl rfl ?_
  refine nx_i2l rfl rfl ?_
  refine nx_ld rfl rfl rfl rfl ?_
  refine nx_ld rfl rfl rfl rfl ?_
  refine nx_iald rfl rfl hv11 hv12 hv13 H (fun H => ?_)
  refine nx_i2l rfl rfl ?_
  refine nx_jj rfl rfl ?_
  show nX _ _ _ _ _ _ 135 _ _ _ _ _
  refine nx_ld rfl rfl rfl rfl ?_
  refine nx_jdiv rfl rfl H (fun H => ?_)
  refine nx_st2 (ls' := [some (eI v0), some (eR (some v1)), some (eI v2), some (eR (some v3)), some (eJ v4), none, some (eJ v6), none, some (eJ v8), none, some (eI v10), some (eI v11), some (eI v12), some (eJ v13), none, some (eI v15), some (eJ (jrm ((v0.toInt64) * ((tA t v1.1 v1.2 v15.toNatClampNeg).toInt64)) v4)), none, v18]) rfl rfl (Nat.le_of_ble_eq_true rfl) rfl ?_
  refine nx_ld rfl rfl rfl rfl ?_
  refine nx_ld rfl rfl rfl rfl ?_
  refine nx_lcmp rfl rfl ?_
  refine nx_if rfl rfl (by rfl) H (fun H => ?_) (fun H => ?_)
  · exact TB_X12_addParts_163 hW hv11 hv12 hv13 hv31 hv32 hv33  hk95 hk121 _ _ _ _ _ _ _ _ _ _ _ _ _ H
  refine nx_ld rfl rfl rfl rfl ?_
  refine nx_ld rfl rfl rfl rfl ?_
  refine nx_lcmp rfl rfl ?_
  refine nx_if rfl rfl (by rfl) H (fun H => ?_) (fun H => ?_)
  · exact TB_X12_addParts_167 hW hv11 hv12 hv13 hv31 hv32 hv33  hk95 hk121 _ _ _ _ _ _ _ _ _ _ _ _ _ H
  refine nx_ld rfl rfl rfl rfl ?_
  refine nx_ld rfl rfl rfl rfl ?_
  refine nx_icmp rfl rfl (by rfl) H (fun H => ?_) (fun H => ?_)
  · exact TB_X12_addParts_167 hW hv11 hv12 hv13 hv31 hv32 hv33  hk95 hk121 _ _ _ _ _ _ _ _ _ _ _ _ _ H
  exact TB_X12_addParts_163 hW hv11 hv12 hv13 hv31 hv32 hv33  hk95 hk121 _ _ _ _ _ _ _ _ _ _ _ _ _ H
def B_X12_addParts_121 (k95 : TS → Int32 → (Nat × Nat) → Int32 → (Nat × Nat) → Int64 → Int64 → Int64 → Int32 → Int32 → Option TS) : Nat → TS → Int32 → (Nat × Nat) → Int32 → (Nat × Nat) → Int64 → Int64 → Int64 → Int32 → Int32 → Int32 → Int64 → Int32 → Option TS
  | 0 => fun _ _ _ _ _ _ _ _ _ _ _ _ _ => none
  | n + 1 => fun t v0 v1 v2 v3 v4 v6 v8 v10 v11 v12 v13 v15 => BB_X12_addParts_121 k95 (B_X12_addParts_121 k95 n) t v0 v1 v2 v3 v4 v6 v8 v10 v11 v12 v13 v15
theorem TB_X12_addParts_121 {W : NW} {d : Nat} {Q : Option NV → TS → Prop} {a0 : Nat → Nat → Nat} {e0 : Nat → Nat → Bool} {v1 : Nat × Nat} {v3 : Nat × Nat} {k95 : TS → Int32 → (Nat × Nat) → Int32 → (Nat × Nat) → Int64 → Int64 → Int64 → Int32 → Int32 → Option TS} {bc bs : Nat} (hW : W.2.2.2 = mm_fx) (hv11 : 2000 ≤ v1.1) (hv12 : v1.1 < 5000) (hv13 : nk v1.1 = 20) (hv31 : 2000 ≤ v3.1) (hv32 : v3.1 < 5000) (hv33 : nk v3.1 = 20) (hk95 : ∀ (t : TS) (v0 : Int32) (v2 : Int32) (v4 : Int64) (v6 : Int64) (v8 : Int64) (v10 : Int32) (v11 : Int32) (v12 : Option NV) (v13 : Option NV) (v15 : Option NV) (v16 : Option NV) (v18 : Option NV), wp (k95 t v0 v1 v2 v3 v4 v6 v8 v10 v11) (fun r => Q none r) → nX W d tX12_addParts Q a0 e0 95 [some (eI v0), some (eR (some v1)), some (eI v2), some (eR (some v3)), some (eJ v4), none, some (eJ v6), none, some (eJ v8), none, some (eI v10), some (eI v11), v12, v13, none, v15, v16, none, v18] [] t bc bs) : ∀ (n : Nat) (t : TS) (v0 : Int32) (v2 : Int32) (v4 : Int64) (v6 : Int64) (v8 : Int64) (v10 : Int32) (v11 : Int32) (v12 : Int32) (v13 : Int64) (v15 : Int32) (v16 : Option NV) (v18 : Option NV), wp (B_X12_addParts_121 k95 n t v0 v1 v2 v3 v4 v6 v8 v10 v11 v12 v13 v15) (fun r => Q none r) → nX W d tX12_addParts Q a0 e0 121 [some (eI v0), some (eR (some v1)), some (eI v2), some (eR (some v3)), some (eJ v4), none, some (eJ v6), none, some (eJ v8), none, some (eI v10), some (eI v11), some (eI v12), some (eJ v13), none, some (eI v15), v16, none, v18] [] t bc bs := by
  intro n
  induction n with
  | zero => intro t v0 v2 v4 v6 v8 v10 v11 v12 v13 v15 v16 v18 H; exact (wp_none H).elim
  | succ n ih =>
    intro t v0 v2 v4 v6 v8 v10 v11 v12 v13 v15 v16 v18 H
    exact TBB_X12_addParts_121 hW hv11 hv12 hv13 hv31 hv32 hv33  hk95 ih t v0 v2 v4 v6 v8 v10 v11 v12 v13 v15 v16 v18 H
def BB_X12_addParts_95 (k95 : TS → Int32 → (Nat × Nat) → Int32 → (Nat × Nat) → Int64 → Int64 → Int64 → Int32 → Int32 → Option TS) (t : TS) (v0 : Int32) (v1 : Nat × Nat) (v2 : Int32) (v3 : Nat × Nat) (v4 : Int64) (v6 : Int64) (v8 : Int64) (v10 : Int32) (v11 : Int32) : Option TS := (if 0 ≤ (lg_cmp (v11.toInt64) v6) then (some t) else (if v2 ≤ v11 then (some t) else (B_X12_addParts_121 k95 10000 t v0 v1 v2 v3 v4 v6 v8 v10 v11 (-1) (-1) 0)))
theorem TBB_X12_addParts_95 {W : NW} {d : Nat} {Q : Option NV → TS → Prop} {a0 : Nat → Nat → Nat} {e0 : Nat → Nat → Bool} {v1 : Nat × Nat} {v3 : Nat × Nat} {k95 : TS → Int32 → (Nat × Nat) → Int32 → (Nat × Nat) → Int64 → Int64 → Int64 → Int32 → Int32 → Option TS} {bc bs : Nat} (hW : W.2.2.2 = mm_fx) (hv11 : 2000 ≤ v1.1) (hv12 : v1.1 < 5000) (hv13 : nk v1.1 = 20) (hv31 : 2000 ≤ v3.1) (hv32 : v3.1 < 5000) (hv33 : nk v3.1 = 20) (hk95 : ∀ (t : TS) (v0 : Int32) (v2 : Int32) (v4 : Int64) (v6 : Int64) (v8 : Int64) (v10 : Int32) (v11 : Int32) (v12 : Option NV) (v13 : Option NV) (v15 : Option NV) (v16 : Option NV) (v18 : Option NV), wp (k95 t v0 v1 v2 v3 v4 v6 v8 v10 v11) (fun r => Q none r) → nX W d tX12_addParts Q a0 e0 95 [some (eI v0), some (eR (some v1)), some (eI v2), some (eR (some v3)), some (eJ v4), none, some (eJ v6), none, some (eJ v8), none, some (eI v10), some (eI v11), v12, v13, none, v15, v16, none, v18] [] t bc bs) : ∀ (t : TS) (v0 : Int32) (v2 : Int32) (v4 : Int64) (v6 : Int64) (v8 : Int64) (v10 : Int32) (v11 : Int32) (v12 : Option NV) (v13 : Option NV) (v15 : Option NV) (v16 : Option NV) (v18 : Option NV), wp (BB_X12_addParts_95 k95 t v0 v1 v2 v3 v4 v6 v8 v10 v11) (fun r => Q none r) → nX W d tX12_addParts Q a0 e0 95 [some (eI v0), some (eR (some v1)), some (eI v2), some (eR (some v3)), some (eJ v4), none, some (eJ v6), none, some (eJ v8), none, some (eI v10), some (eI v11), v12, v13, none, v15, v16, none, v18] [] t bc bs := by
  intro t v0 v2 v4 v6 v8 v10 v11 v12 v13 v15 v16 v18 H
  unfold BB_X12_addParts_95 at H
  refine nx_ld rfl rfl rfl rfl ?_
  refine nx_i2l rfl rfl ?_
  refine nx_ld rfl rfl rfl rfl ?_
  refine nx_lcmp rfl rfl ?_
  refine nx_if rfl rfl (by rfl) H (fun H => ?_) (fun H => ?_)
  · exact nx_rv rfl rfl H
  refine nx_ld rfl rfl rfl rfl ?_
  refine nx_ld rfl rfl rfl rfl ?_
  refine nx_icmp rfl rfl (by rfl) H (fun H => ?_) (fun H => ?_)
  · exact nx_rv rfl rfl H
  refine nx_int (x := (-1)) rfl rfl ?_
  refine nx_st (ls' := [some (eI v0), some (eR (some v1)), some (eI v2), some (eR (some v3)), some (eJ v4), none, some (eJ v6), none, some (eJ v8), none, some (eI v10), some (eI v11), some (eI (-1)), v13, none, v15, v16, none, v18]) rfl rfl rfl (Nat.le_of_ble_eq_true rfl) rfl ?_
  refine nx_long (x := (-1)) rfl rfl ?_
  refine nx_st2 (ls' := [some (eI v0), some (eR (some v1)), some (eI v2), some (eR (some v3)), some (eJ v4), none, some (eJ v6), none, some (eJ v8), none, some (eI v10), some (eI v11), some (eI (-1)), some (eJ (-1)), none, v15, v16, none, v18]) rfl rfl (Nat.le_of_ble_eq_true rfl) rfl ?_
  refine nx_int (x := 0) rfl rfl ?_
  refine nx_st (ls' := [some (eI v0), some (eR (some v1)), some (eI v2), some (eR (some v3)), some (eJ v4), none, some (eJ v6), none, some (eJ v8), none, some (eI v10), some (eI v11), some (eI (-1)), some (eJ (-1)), none, some (eI 0), v16, none, v18]) rfl rfl rfl (Nat.le_of_ble_eq_true rfl) rfl ?_
  exact TB_X12_addParts_121 hW hv11 hv12 hv13 hv31 hv32 hv33  hk95 10000 _ _ _ _ _ _ _ _ _ _ _ _ _ H
def B_X12_addParts_95 : Nat → TS → Int32 → (Nat × Nat) → Int32 → (Nat × Nat) → Int64 → Int64 → Int64 → Int32 → Int32 → Option TS
  | 0 => fun _ _ _ _ _ _ _ _ _ _ => none
  | n + 1 => fun t v0 v1 v2 v3 v4 v6 v8 v10 v11 => BB_X12_addParts_95 (B_X12_addParts_95 n) t v0 v1 v2 v3 v4 v6 v8 v10 v11
theorem TB_X12_addParts_95 {W : NW} {d : Nat} {Q : Option NV → TS → Prop} {a0 : Nat → Nat → Nat} {e0 : Nat → Nat → Bool} {v1 : Nat × Nat} {v3 : Nat × Nat} {bc bs : Nat} (hW : W.2.2.2 = mm_fx) (hv11 : 2000 ≤ v1.1) (hv12 : v1.1 < 5000) (hv13 : nk v1.1 = 20) (hv31 : 2000 ≤ v3.1) (hv32 : v3.1 < 5000) (hv33 : nk v3.1 = 20) : ∀ (n : Nat) (t : TS) (v0 : Int32) (v2 : Int32) (v4 : Int64) (v6 : Int64) (v8 : Int64) (v10 : Int32) (v11 : Int32) (v12 : Option NV) (v13 : Option NV) (v15 : Option NV) (v16 : Option NV) (v18 : Option NV), wp (B_X12_addParts_95 n t v0 v1 v2 v3 v4 v6 v8 v10 v11) (fun r => Q none r) → nX W d tX12_addParts Q a0 e0 95 [some (eI v0), some (eR (some v1)), some (eI v2), some (eR (some v3)), some (eJ v4), none, some (eJ v6), none, some (eJ v8), none, some (eI v10), some (eI v11), v12, v13, none, v15, v16, none, v18] [] t bc bs := by
  intro n
  induction n with
  | zero => intro t v0 v2 v4 v6 v8 v10 v11 v12 v13 v15 v16 v18 H; exact (wp_none H).elim
  | succ n ih =>
    intro t v0 v2 v4 v6 v8 v10 v11 v12 v13 v15 v16 v18 H
    exact TBB_X12_addParts_95 hW hv11 hv12 hv13 hv31 hv32 hv33   ih t v0 v2 v4 v6 v8 v10 v11 v12 v13 v15 v16 v18 H
def B_X12_addParts_85 (t : TS) (v0 : Int32) (v1 : Nat × Nat) (v2 : Int32) (v3 : Nat × Nat) (v4 : Int64) (v6 : Int64) : Option TS := (B_X12_addParts_95  10000 t v0 v1 v2 v3 v4 v6 v4 (-1) 0)
theorem TB_X12_addParts_85 {W : NW} {d : Nat} {Q : Option NV → TS → Prop} {a0 : Nat → Nat → Nat} {e0 : Nat → Nat → Bool} {v1 : Nat × Nat} {v3 : Nat × Nat} {bc bs : Nat} (hW : W.2.2.2 = mm_fx) (hv11 : 2000 ≤ v1.1) (hv12 : v1.1 < 5000) (hv13 : nk v1.1 = 20) (hv31 : 2000 ≤ v3.1) (hv32 : v3.1 < 5000) (hv33 : nk v3.1 = 20) : ∀ (t : TS) (v0 : Int32) (v2 : Int32) (v4 : Int64) (v6 : Int64) (v8 : Int32) (v9 : Option NV), wp (B_X12_addParts_85 t v0 v1 v2 v3 v4 v6) (fun r => Q none r) → nX W d tX12_addParts Q a0 e0 85 [some (eI v0), some (eR (some v1)), some (eI v2), some (eR (some v3)), some (eJ v4), none, some (eJ v6), none, some (eI v8), v9, none, none, none, none, none, none, none, none, none] [] t bc bs := by
  intro t v0 v2 v4 v6 v8 v9 H
  unfold B_X12_addParts_85 at H
  refine nx_ld rfl rfl rfl rfl ?_
  refine nx_st2 (ls' := [some (eI v0), some (eR (some v1)), some (eI v2), some (eR (some v3)), some (eJ v4), none, some (eJ v6), none, some (eJ v4), none, none, none, none, none, none, none, none, none, none]) rfl rfl (Nat.le_of_ble_eq_true rfl) rfl ?_
  refine nx_int (x := (-1)) rfl rfl ?_
  refine nx_st (ls' := [some (eI v0), some (eR (some v1)), some (eI v2), some (eR (some v3)), some (eJ v4), none, some (eJ v6), none, some (eJ v4), none, some (eI (-1)), none, none, none, none, none, none, none, none]) rfl rfl rfl (Nat.le_of_ble_eq_true rfl) rfl ?_
  refine nx_int (x := 0) rfl rfl ?_
  refine nx_st (ls' := [some (eI v0), some (eR (some v1)), some (eI v2), some (eR (some v3)), some (eJ v4), none, some (eJ v6), none, some (eJ v4), none, some (eI (-1)), some (eI 0), none, none, none, none, none, none, none]) rfl rfl rfl (Nat.le_of_ble_eq_true rfl) rfl ?_
  exact TB_X12_addParts_95 hW hv11 hv12 hv13 hv31 hv32 hv33   10000 _ _ _ _ _ _ _ _ _ _ _ _ _ H
def BB_X12_addParts_43 (k43 : TS → Int32 → (Nat × Nat) → Int32 → (Nat × Nat) → Int64 → Int64 → Int32 → Option TS) (t : TS) (v0 : Int32) (v1 : Nat × Nat) (v2 : Int32) (v3 : Nat × Nat) (v4 : Int64) (v6 : Int64) (v8 : Int32) : Option TS := (if v2 ≤ v8 then (B_X12_addParts_85  t v0 v1 v2 v3 v4 v6) else (gd v8 (tL t v1.1 v1.2) (gzJ v4 (gd v8 (tL t v3.1 v3.2) (gd v8 (tL t v3.1 v3.2) (nxt (uA t v3.1 v3.2 v8.toNatClampNeg ((tA t v3.1 v3.2 v8.toNatClampNeg) + ((((v0.toInt64) * ((tA t v1.1 v1.2 v8.toNatClampNeg).toInt64)) / v4).toInt32))) (fun t21 => (k43 t21 v0 v1 v2 v3 v4 (v6 - (((v0.toInt64) * ((tA t v1.1 v1.2 v8.toNatClampNeg).toInt64)) / v4)) (v8 + 1)))))))))
theorem TBB_X12_addParts_43 {W : NW} {d : Nat} {Q : Option NV → TS → Prop} {a0 : Nat → Nat → Nat} {e0 : Nat → Nat → Bool} {v1 : Nat × Nat} {v3 : Nat × Nat} {k43 : TS → Int32 → (Nat × Nat) → Int32 → (Nat × Nat) → Int64 → Int64 → Int32 → Option TS} {bc bs : Nat} (hW : W.2.2.2 = mm_fx) (hv11 : 2000 ≤ v1.1) (hv12 : v1.1 < 5000) (hv13 : nk v1.1 = 20) (hv31 : 2000 ≤ v3.1) (hv32 : v3.1 < 5000) (hv33 : nk v3.1 = 20) (hk43 : ∀ (t : TS) (v0 : Int32) (v2 : Int32) (v4 : Int64) (v6 : Int64) (v8 : Int32) (v9 : Option NV), wp (k43 t v0 v1 v2 v3 v4 v6 v8) (fun r => Q none r) → nX W d tX12_addParts Q a0 e0 43 [some (eI v0), some (eR (some v1)), some (eI v2), some (eR (some v3)), some (eJ v4), none, some (eJ v6), none, some (eI v8), v9, none, none, none, none, none, none, none, none, none] [] t bc bs) : ∀ (t : TS) (v0 : Int32) (v2 : Int32) (v4 : Int64) (v6 : Int64) (v8 : Int32) (v9 : Option NV), wp (BB_X12_addParts_43 k43 t v0 v1 v2 v3 v4 v6 v8) (fun r => Q none r) → nX W d tX12_addParts Q a0 e0 43 [some (eI v0), some (eR (some v1)), some (eI v2), some (eR (some v3)), some (eJ v4), none, some (eJ v6), none, some (eI v8), v9, none, none, none, none, none, none, none, none, none] [] t bc bs := by
  intro t v0 v2 v4 v6 v8 v9 H
  unfold BB_X12_addParts_43 at H
  refine nx_ld rfl rfl rfl rfl ?_
  refine nx_ld rfl rfl rfl rfl ?_
  refine nx_icmp rfl rfl (by rfl) H (fun H => ?_) (fun H => ?_)
  · exact TB_X12_addParts_85 hW hv11 hv12 hv13 hv31 hv32 hv33   _ _ _ _ _ _ _ H
  refine nx_ld rfl rfl rfl rfl ?_
  refine nx_i2l rfl rfl ?_
  refine nx_ld rfl rfl rfl rfl ?_
  refine nx_ld rfl rfl rfl rfl ?_
  refine nx_iald rfl rfl hv11 hv12 hv13 H (fun H => ?_)
  refine nx_i2l rfl rfl ?_
  refine nx_jj rfl rfl ?_
  show nX _ _ _ _ _ _ 57 _ _ _ _ _
  refine nx_ld rfl rfl rfl rfl ?_
  refine nx_jdiv rfl rfl H (fun H => ?_)
  refine nx_st2 (ls' := [some (eI v0), some (eR (some v1)), some (eI v2), some (eR (some v3)), some (eJ v4), none, some (eJ v6), none, some (eI v8), some (eJ (((v0.toInt64) * ((tA t v1.1 v1.2 v8.toNatClampNeg).toInt64)) / v4)), none, none, none, none, none, none, none, none, none]) rfl rfl (Nat.le_of_ble_eq_true rfl) rfl ?_
  refine nx_ld rfl rfl rfl rfl ?_
  refine nx_ld rfl rfl rfl rfl ?_
  refine nx_dup2 rfl rfl (Nat.ne_of_beq_eq_false rfl) (Nat.ne_of_beq_eq_false rfl) ?_
  refine nx_iald rfl rfl hv31 hv32 hv33 H (fun H => ?_)
  refine nx_ld rfl rfl rfl rfl ?_
  show nX _ _ _ _ _ _ 69 _ _ _ _ _
  refine nx_l2i rfl rfl ?_
  refine nx_ii rfl rfl ?_
  refine nx_iast rfl rfl hv31 hv32 hv33 H (fun t21 H => ?_)
  refine nx_ld rfl rfl rfl rfl ?_
  refine nx_ld rfl rfl rfl rfl ?_
  refine nx_jj rfl rfl ?_
  refine nx_st2 (ls' := [some (eI v0), some (eR (some v1)), some (eI v2), some (eR (some v3)), some (eJ v4), none, some (eJ (v6 - (((v0.toInt64) * ((tA t v1.1 v1.2 v8.toNatClampNeg).toInt64)) / v4))), none, some (eI v8), some (eJ (((v0.toInt64) * ((tA t v1.1 v1.2 v8.toNatClampNeg).toInt64)) / v4)), none, none, none, none, none, none, none, none, none]) rfl rfl (Nat.le_of_ble_eq_true rfl) rfl ?_
  refine nx_iinc2 1 (ls' := [some (eI v0), some (eR (some v1)), some (eI v2), some (eR (some v3)), some (eJ v4), none, some (eJ (v6 - (((v0.toInt64) * ((tA t v1.1 v1.2 v8.toNatClampNeg).toInt64)) / v4))), none, some (eI (v8 + 1)), some (eJ (((v0.toInt64) * ((tA t v1.1 v1.2 v8.toNatClampNeg).toInt64)) / v4)), none, none, none, none, none, none, none, none, none]) rfl rfl rfl rfl rfl ?_
  show nX _ _ _ _ _ _ 82 _ _ _ _ _
  refine nx_goto rfl rfl ?_
  exact hk43 _ _ _ _ _ _ _ H
def B_X12_addParts_43 : Nat → TS → Int32 → (Nat × Nat) → Int32 → (Nat × Nat) → Int64 → Int64 → Int32 → Option TS
  | 0 => fun _ _ _ _ _ _ _ _ => none
  | n + 1 => fun t v0 v1 v2 v3 v4 v6 v8 => BB_X12_addParts_43 (B_X12_addParts_43 n) t v0 v1 v2 v3 v4 v6 v8
theorem TB_X12_addParts_43 {W : NW} {d : Nat} {Q : Option NV → TS → Prop} {a0 : Nat → Nat → Nat} {e0 : Nat → Nat → Bool} {v1 : Nat × Nat} {v3 : Nat × Nat} {bc bs : Nat} (hW : W.2.2.2 = mm_fx) (hv11 : 2000 ≤ v1.1) (hv12 : v1.1 < 5000) (hv13 : nk v1.1 = 20) (hv31 : 2000 ≤ v3.1) (hv32 : v3.1 < 5000) (hv33 : nk v3.1 = 20) : ∀ (n : Nat) (t : TS) (v0 : Int32) (v2 : Int32) (v4 : Int64) (v6 : Int64) (v8 : Int32) (v9 : Option NV), wp (B_X12_addParts_43 n t v0 v1 v2 v3 v4 v6 v8) (fun r => Q none r) → nX W d tX12_addParts Q a0 e0 43 [some (eI v0), some (eR (some v1)), some (eI v2), some (eR (some v3)), some (eJ v4), none, some (eJ v6), none, some (eI v8), v9, none, none, none, none, none, none, none, none, none] [] t bc bs := by
  intro n
  induction n with
  | zero => intro t v0 v2 v4 v6 v8 v9 H; exact (wp_none H).elim
  | succ n ih =>
    intro t v0 v2 v4 v6 v8 v9 H
    exact TBB_X12_addParts_43 hW hv11 hv12 hv13 hv31 hv32 hv33   ih t v0 v2 v4 v6 v8 v9 H
def B_X12_addParts_28 (t : TS) (v0 : Int32) (v1 : Nat × Nat) (v2 : Int32) (v3 : Nat × Nat) (v4 : Int64) : Option TS := (if 0 < (lg_cmp v4 0) then (B_X12_addParts_43  10000 t v0 v1 v2 v3 v4 (v0.toInt64) 0) else (some t))
theorem TB_X12_addParts_28 {W : NW} {d : Nat} {Q : Option NV → TS → Prop} {a0 : Nat → Nat → Nat} {e0 : Nat → Nat → Bool} {v1 : Nat × Nat} {v3 : Nat × Nat} {bc bs : Nat} (hW : W.2.2.2 = mm_fx) (hv11 : 2000 ≤ v1.1) (hv12 : v1.1 < 5000) (hv13 : nk v1.1 = 20) (hv31 : 2000 ≤ v3.1) (hv32 : v3.1 < 5000) (hv33 : nk v3.1 = 20) : ∀ (t : TS) (v0 : Int32) (v2 : Int32) (v4 : Int64) (v6 : Int32), wp (B_X12_addParts_28 t v0 v1 v2 v3 v4) (fun r => Q none r) → nX W d tX12_addParts Q a0 e0 28 [some (eI v0), some (eR (some v1)), some (eI v2), some (eR (some v3)), some (eJ v4), none, some (eI v6), none, none, none, none, none, none, none, none, none, none, none, none] [] t bc bs := by
  intro t v0 v2 v4 v6 H
  unfold B_X12_addParts_28 at H
  refine nx_ld rfl rfl rfl rfl ?_
  refine nx_long (x := 0) rfl rfl ?_
  refine nx_lcmp rfl rfl ?_
  refine nx_if rfl rfl (by rfl) H (fun H => ?_) (fun H => ?_)
  · refine nx_ld rfl rfl rfl rfl ?_
    refine nx_i2l rfl rfl ?_
    refine nx_st2 (ls' := [some (eI v0), some (eR (some v1)), some (eI v2), some (eR (some v3)), some (eJ v4), none, some (eJ (v0.toInt64)), none, none, none, none, none, none, none, none, none, none, none, none]) rfl rfl (Nat.le_of_ble_eq_true rfl) rfl ?_
    refine nx_int (x := 0) rfl rfl ?_
    refine nx_st (ls' := [some (eI v0), some (eR (some v1)), some (eI v2), some (eR (some v3)), some (eJ v4), none, some (eJ (v0.toInt64)), none, some (eI 0), none, none, none, none, none, none, none, none, none, none]) rfl rfl rfl (Nat.le_of_ble_eq_true rfl) rfl ?_
    exact TB_X12_addParts_43 hW hv11 hv12 hv13 hv31 hv32 hv33   10000 _ _ _ _ _ _ _ H
  exact nx_rv rfl rfl H
def BB_X12_addParts_6 (k6 : TS → Int32 → (Nat × Nat) → Int32 → (Nat × Nat) → Int64 → Int32 → Option TS) (t : TS) (v0 : Int32) (v1 : Nat × Nat) (v2 : Int32) (v3 : Nat × Nat) (v4 : Int64) (v6 : Int32) : Option TS := (if v2 ≤ v6 then (B_X12_addParts_28  t v0 v1 v2 v3 v4) else (gd v6 (tL t v1.1 v1.2) (k6 t v0 v1 v2 v3 (v4 + ((tA t v1.1 v1.2 v6.toNatClampNeg).toInt64)) (v6 + 1))))
theorem TBB_X12_addParts_6 {W : NW} {d : Nat} {Q : Option NV → TS → Prop} {a0 : Nat → Nat → Nat} {e0 : Nat → Nat → Bool} {v1 : Nat × Nat} {v3 : Nat × Nat} {k6 : TS → Int32 → (Nat × Nat) → Int32 → (Nat × Nat) → Int64 → Int32 → Option TS} {bc bs : Nat} (hW : W.2.2.2 = mm_fx) (hv11 : 2000 ≤ v1.1) (hv12 : v1.1 < 5000) (hv13 : nk v1.1 = 20) (hv31 : 2000 ≤ v3.1) (hv32 : v3.1 < 5000) (hv33 : nk v3.1 = 20) (hk6 : ∀ (t : TS) (v0 : Int32) (v2 : Int32) (v4 : Int64) (v6 : Int32), wp (k6 t v0 v1 v2 v3 v4 v6) (fun r => Q none r) → nX W d tX12_addParts Q a0 e0 6 [some (eI v0), some (eR (some v1)), some (eI v2), some (eR (some v3)), some (eJ v4), none, some (eI v6), none, none, none, none, none, none, none, none, none, none, none, none] [] t bc bs) : ∀ (t : TS) (v0 : Int32) (v2 : Int32) (v4 : Int64) (v6 : Int32), wp (BB_X12_addParts_6 k6 t v0 v1 v2 v3 v4 v6) (fun r => Q none r) → nX W d tX12_addParts Q a0 e0 6 [some (eI v0), some (eR (some v1)), some (eI v2), some (eR (some v3)), some (eJ v4), none, some (eI v6), none, none, none, none, none, none, none, none, none, none, none, none] [] t bc bs := by
  intro t v0 v2 v4 v6 H
  unfold BB_X12_addParts_6 at H
  refine nx_ld rfl rfl rfl rfl ?_
  refine nx_ld rfl rfl rfl rfl ?_
  refine nx_icmp rfl rfl (by rfl) H (fun H => ?_) (fun H => ?_)
  · exact TB_X12_addParts_28 hW hv11 hv12 hv13 hv31 hv32 hv33   _ _ _ _ _ H
  refine nx_ld rfl rfl rfl rfl ?_
  refine nx_ld rfl rfl rfl rfl ?_
  refine nx_ld rfl rfl rfl rfl ?_
  refine nx_iald rfl rfl hv11 hv12 hv13 H (fun H => ?_)
  refine nx_i2l rfl rfl ?_
  refine nx_jj rfl rfl ?_
  refine nx_st2 (ls' := [some (eI v0), some (eR (some v1)), some (eI v2), some (eR (some v3)), some (eJ (v4 + ((tA t v1.1 v1.2 v6.toNatClampNeg).toInt64))), none, some (eI v6), none, none, none, none, none, none, none, none, none, none, none, none]) rfl rfl (Nat.le_of_ble_eq_true rfl) rfl ?_
  show nX _ _ _ _ _ _ 22 _ _ _ _ _
  refine nx_iinc2 1 (ls' := [some (eI v0), some (eR (some v1)), some (eI v2), some (eR (some v3)), some (eJ (v4 + ((tA t v1.1 v1.2 v6.toNatClampNeg).toInt64))), none, some (eI (v6 + 1)), none, none, none, none, none, none, none, none, none, none, none, none]) rfl rfl rfl rfl rfl ?_
  refine nx_goto rfl rfl ?_
  exact hk6 _ _ _ _ _ H
def B_X12_addParts_6 : Nat → TS → Int32 → (Nat × Nat) → Int32 → (Nat × Nat) → Int64 → Int32 → Option TS
  | 0 => fun _ _ _ _ _ _ _ => none
  | n + 1 => fun t v0 v1 v2 v3 v4 v6 => BB_X12_addParts_6 (B_X12_addParts_6 n) t v0 v1 v2 v3 v4 v6
theorem TB_X12_addParts_6 {W : NW} {d : Nat} {Q : Option NV → TS → Prop} {a0 : Nat → Nat → Nat} {e0 : Nat → Nat → Bool} {v1 : Nat × Nat} {v3 : Nat × Nat} {bc bs : Nat} (hW : W.2.2.2 = mm_fx) (hv11 : 2000 ≤ v1.1) (hv12 : v1.1 < 5000) (hv13 : nk v1.1 = 20) (hv31 : 2000 ≤ v3.1) (hv32 : v3.1 < 5000) (hv33 : nk v3.1 = 20) : ∀ (n : Nat) (t : TS) (v0 : Int32) (v2 : Int32) (v4 : Int64) (v6 : Int32), wp (B_X12_addParts_6 n t v0 v1 v2 v3 v4 v6) (fun r => Q none r) → nX W d tX12_addParts Q a0 e0 6 [some (eI v0), some (eR (some v1)), some (eI v2), some (eR (some v3)), some (eJ v4), none, some (eI v6), none, none, none, none, none, none, none, none, none, none, none, none] [] t bc bs := by
  intro n
  induction n with
  | zero => intro t v0 v2 v4 v6 H; exact (wp_none H).elim
  | succ n ih =>
    intro t v0 v2 v4 v6 H
    exact TBB_X12_addParts_6 hW hv11 hv12 hv13 hv31 hv32 hv33   ih t v0 v2 v4 v6 H
def F_X12_addParts (t : TS) (x1 : Int32) (w2 : Nat × Nat) (x3 : Int32) (w4 : Nat × Nat) : Option TS := (B_X12_addParts_6  10000 t x1 w2 x3 w4 0 0)
theorem TF_X12_addParts {W : NW} {d : Nat} {t : TS} {x1 : Int32} {w2 : Nat × Nat} {x3 : Int32} {w4 : Nat × Nat} {Q : Option NV → TS → Prop} {bc bs : Nat} (hW : W.2.2.2 = mm_fx) (hw21 : 2000 ≤ w2.1) (hw22 : w2.1 < 5000) (hw23 : nk w2.1 = 20) (hw41 : 2000 ≤ w4.1) (hw42 : w4.1 < 5000) (hw43 : nk w4.1 = 20) (H : wp (F_X12_addParts t x1 w2 x3 w4) (fun r => Q none r)) : nC W (d + 1) 141 [eI x1, eR (some w2), eI x3, eR (some w4)] t bc bs Q := by
  refine nC_in (d := d) (T := tX12_addParts) (ls := [some (eI x1), some (eR (some w2)), some (eI x3), some (eR (some w4)), none, none, none, none, none, none, none, none, none, none, none, none, none, none, none]) rfl (Nat.le_of_ble_eq_true rfl) rfl (fun a0 e0 => ?_)
  unfold F_X12_addParts at H
  refine nx_long (x := 0) rfl rfl ?_
  refine nx_st2 (ls' := [some (eI x1), some (eR (some w2)), some (eI x3), some (eR (some w4)), some (eJ 0), none, none, none, none, none, none, none, none, none, none, none, none, none, none]) rfl rfl (Nat.le_of_ble_eq_true rfl) rfl ?_
  refine nx_int (x := 0) rfl rfl ?_
  refine nx_st (ls' := [some (eI x1), some (eR (some w2)), some (eI x3), some (eR (some w4)), some (eJ 0), none, some (eI 0), none, none, none, none, none, none, none, none, none, none, none, none]) rfl rfl rfl (Nat.le_of_ble_eq_true rfl) rfl ?_
  exact TB_X12_addParts_6 hW hw21 hw22 hw23 hw41 hw42 hw43   10000 _ _ _ _ _ H
