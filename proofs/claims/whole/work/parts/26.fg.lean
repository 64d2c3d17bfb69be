/-! functions of methods over the typed heap, and that the runs follow them (by program: wip/whole/walk.py) -/
def B_X12_countStandingMoves_30 (k4 : TS → Int32 → Int32 → Option Int32) (t : TS) (v2 : Int32) (s0 : Int32) (s1 : Int32) : Option Int32 := (Option.bind (F_X12_bit t s0) (fun r21 => (k4 t (s1 + r21) (v2 + 1))))
theorem TB_X12_countStandingMoves_30 {W : NW} {d : Nat} {Q : Option NV → TS → Prop} {a0 : Nat → Nat → Nat} {e0 : Nat → Nat → Bool} {t : TS} {k4 : TS → Int32 → Int32 → Option Int32} {bc bs : Nat} (hW : W.2.2.2 = mm_fx) (hk4 : ∀ (v1 : Int32) (v2 : Int32), wp (k4 t v1 v2) (fun r => Q (some (eI r)) t) → nX W (d + 1) tX12_countStandingMoves Q a0 e0 4 [some (eR (some (12, 0))), some (eI v1), some (eI v2)] [] t bc bs) : ∀ (v1 : Int32) (v2 : Int32) (s0 : Int32) (s1 : Int32), wp (B_X12_countStandingMoves_30 k4 t v2 s0 s1) (fun r => Q (some (eI r)) t) → nX W (d + 1) tX12_countStandingMoves Q a0 e0 30 [some (eR (some (12, 0))), some (eI v1), some (eI v2)] [eI s0, eI s1] t bc bs := by
  intro v1 v2 s0 s1 H
  unfold B_X12_countStandingMoves_30 at H
  refine nx_cSI (as := [eI s0]) (st' := [eI s1]) rfl rfl (Nat.le_of_ble_eq_true rfl) rfl rfl (Nat.le_of_ble_eq_true rfl) H (fun Q H => TF_X12_bit hW  H) (fun r21 H => ?_)
  refine nx_ii rfl rfl ?_
  refine nx_st (ls' := [some (eR (some (12, 0))), some (eI (s1 + r21)), some (eI v2)]) rfl rfl rfl (Nat.le_of_ble_eq_true rfl) rfl ?_
  refine nx_iinc2 1 (ls' := [some (eR (some (12, 0))), some (eI (s1 + r21)), some (eI (v2 + 1))]) rfl rfl rfl rfl rfl ?_
  refine nx_goto rfl rfl ?_
  exact hk4 _ _ H
def BB_X12_countStandingMoves_4 (k4 : TS → Int32 → Int32 → Option Int32) (t : TS) (v1 : Int32) (v2 : Int32) : Option Int32 := (if (tI t 1207 0) ≤ v2 then (some (v1)) else (gd v2 (tL t 3206 0) (nxt (tQ t 3206 0 v2.toNatClampNeg) (fun o21 => (oc o21 none (fun j22 => (if ¬ (tI t 608 j22) = 0 then (B_X12_countStandingMoves_30 k4 t v2 0 v1) else (B_X12_countStandingMoves_30 k4 t v2 1 v1))))))))
theorem TBB_X12_countStandingMoves_4 {W : NW} {d : Nat} {Q : Option NV → TS → Prop} {a0 : Nat → Nat → Nat} {e0 : Nat → Nat → Bool} {t : TS} {k4 : TS → Int32 → Int32 → Option Int32} {bc bs : Nat} (hW : W.2.2.2 = mm_fx) (hk4 : ∀ (v1 : Int32) (v2 : Int32), wp (k4 t v1 v2) (fun r => Q (some (eI r)) t) → nX W (d + 1) tX12_countStandingMoves Q a0 e0 4 [some (eR (some (12, 0))), some (eI v1), some (eI v2)] [] t bc bs) : ∀ (v1 : Int32) (v2 : Int32), wp (BB_X12_countStandingMoves_4 k4 t v1 v2) (fun r => Q (some (eI r)) t) → nX W (d + 1) tX12_countStandingMoves Q a0 e0 4 [some (eR (some (12, 0))), some (eI v1), some (eI v2)] [] t bc bs := by
  intro v1 v2 H
  unfold BB_X12_countStandingMoves_4 at H
  refine nx_ld rfl rfl rfl rfl ?_
  refine nx_ld rfl rfl rfl rfl ?_
  refine nx_getI rfl rfl rfl (by decide) ?_
  refine nx_icmp rfl rfl (by rfl) H (fun H => ?_) (fun H => ?_)
  · refine nx_ld rfl rfl rfl rfl ?_
    exact nx_ri rfl rfl H
  refine nx_ld rfl rfl rfl rfl ?_
  refine nx_ld rfl rfl rfl rfl ?_
  refine nx_getFix rfl rfl rfl (by decide) (by rw [hW]; rfl) rfl ?_
  refine nx_ld rfl rfl rfl rfl ?_
  refine nx_aald (c := 3206) (i := 0) rfl rfl (Nat.le_of_ble_eq_true rfl) (Nat.le_of_ble_eq_true rfl) (Nat.le_of_ble_eq_true rfl) rfl H (fun o21 H => ?_)
  rcases o21 with _ | j22
  · exact (wp_none (oc_no H)).elim
  replace H := oc_so H
  refine nx_getI rfl rfl rfl (by decide) ?_
  refine nx_if rfl rfl (by rfl) H (fun H => ?_) (fun H => ?_)
  · refine nx_int (x := 0) rfl rfl ?_
    exact TB_X12_countStandingMoves_30 hW   hk4 _ _ _ _ H
  refine nx_int (x := 1) rfl rfl ?_
  refine nx_goto rfl rfl ?_
  exact TB_X12_countStandingMoves_30 hW   hk4 _ _ _ _ H
def B_X12_countStandingMoves_4 : Nat → TS → Int32 → Int32 → Option Int32
  | 0 => fun _ _ _ => none
  | n + 1 => fun t v1 v2 => BB_X12_countStandingMoves_4 (B_X12_countStandingMoves_4 n) t v1 v2
theorem TB_X12_countStandingMoves_4 {W : NW} {d : Nat} {Q : Option NV → TS → Prop} {a0 : Nat → Nat → Nat} {e0 : Nat → Nat → Bool} {t : TS} {bc bs : Nat} (hW : W.2.2.2 = mm_fx) : ∀ (n : Nat) (v1 : Int32) (v2 : Int32), wp (B_X12_countStandingMoves_4 n t v1 v2) (fun r => Q (some (eI r)) t) → nX W (d + 1) tX12_countStandingMoves Q a0 e0 4 [some (eR (some (12, 0))), some (eI v1), some (eI v2)] [] t bc bs := by
  intro n
  induction n with
  | zero => intro v1 v2 H; exact (wp_none H).elim
  | succ n ih =>
    intro v1 v2 H
    exact TBB_X12_countStandingMoves_4 hW    ih v1 v2 H
def F_X12_countStandingMoves (t : TS) : Option Int32 := (B_X12_countStandingMoves_4  10000 t 0 0)
theorem TF_X12_countStandingMoves {W : NW} {d : Nat} {t : TS} {Q : Option NV → TS → Prop} {bc bs : Nat} (hW : W.2.2.2 = mm_fx) (H : wp (F_X12_countStandingMoves t) (fun r => Q (some (eI r)) t)) : nC W (d + 2) 125 [eR (some (12, 0))] t bc bs Q := by
  refine nC_in (d := (d + 1)) (T := tX12_countStandingMoves) (ls := [some (eR (some (12, 0))), none, none]) rfl (Nat.le_of_ble_eq_true rfl) rfl (fun a0 e0 => ?_)
  unfold F_X12_countStandingMoves at H
  refine nx_int (x := 0) rfl rfl ?_
  refine nx_st (ls' := [some (eR (some (12, 0))), some (eI 0), none]) rfl rfl rfl (Nat.le_of_ble_eq_true rfl) rfl ?_
  refine nx_int (x := 0) rfl rfl ?_
  refine nx_st (ls' := [some (eR (some (12, 0))), some (eI 0), some (eI 0)]) rfl rfl rfl (Nat.le_of_ble_eq_true rfl) rfl ?_
  exact TB_X12_countStandingMoves_4 hW    10000 _ _ H
def F_X12_count (t : TS) (x1 : Int32) : Option Int32 := (swi x1 0 [(some ((tI t 1204 0))), (Option.bind (F_X12_countClubs t) (fun r21 => (some (r21)))), (Option.bind (F_X12_countPlayers t 0) (fun r22 => (some (r22)))), (some ((tI t 1205 0))), (Option.bind (F_X12_countStandingMoves t) (fun r23 => (some (r23)))), (some ((tI t 1212 0))), (some ((tI t 1200 0))), (some ((tI t 1201 0))), (some ((tI t 701 0))), (Option.bind (F_X12_countPlayers t 1) (fun r24 => (some (r24)))), (some ((tI t 1 0)))] (some ((-1))))
theorem TF_X12_count {W : NW} {d : Nat} {t : TS} {x1 : Int32} {Q : Option NV → TS → Prop} {bc bs : Nat} (hW : W.2.2.2 = mm_fx) (H : wp (F_X12_count t x1) (fun r => Q (some (eI r)) t)) : nC W (d + 3) 112 [eR (some (12, 0)), eI x1] t bc bs Q := by
  refine nC_in (d := (d + 2)) (T := tX12_count) (ls := [some (eR (some (12, 0))), some (eI x1)]) rfl (Nat.le_of_ble_eq_true rfl) rfl (fun a0 e0 => ?_)
  unfold F_X12_count at H
  refine nx_ld rfl rfl rfl rfl ?_
  refine nx_tsw rfl rfl (by decide) (by decide) (by decide) H (fun H => ?_) ?_
  · show nX _ _ _ _ _ _ 123 _ _ _ _ _
    refine nx_int (x := (-1)) rfl rfl ?_
    exact nx_ri rfl rfl H
  refine ⟨fun H => ?_, fun H => ?_, fun H => ?_, fun H => ?_, fun H => ?_, fun H => ?_, fun H => ?_, fun H => ?_, fun H => ?_, fun H => ?_, fun H => ?_, trivial⟩
  · show nX _ _ _ _ _ _ 60 _ _ _ _ _
    refine nx_ld rfl rfl rfl rfl ?_
    refine nx_getI rfl rfl rfl (by decide) ?_
    exact nx_ri rfl rfl H
  · show nX _ _ _ _ _ _ 65 _ _ _ _ _
    refine nx_ld rfl rfl rfl rfl ?_
    refine nx_cVI (as := []) (st' := []) rfl rfl (Nat.le_of_ble_eq_true rfl) rfl rfl (Nat.le_of_ble_eq_true rfl) (c0 := 12) rfl (by decide) H (fun Q H => TF_X12_countClubs hW  H) (fun r21 H => ?_)
    exact nx_ri rfl rfl H
  · show nX _ _ _ _ _ _ 70 _ _ _ _ _
    refine nx_ld rfl rfl rfl rfl ?_
    refine nx_int (x := 0) rfl rfl ?_
    refine nx_cVI (as := [eI 0]) (st' := []) rfl rfl (Nat.le_of_ble_eq_true rfl) rfl rfl (Nat.le_of_ble_eq_true rfl) (c0 := 12) rfl (by decide) H (fun Q H => TF_X12_countPlayers hW  H) (fun r22 H => ?_)
    exact nx_ri rfl rfl H
  · show nX _ _ _ _ _ _ 76 _ _ _ _ _
    refine nx_ld rfl rfl rfl rfl ?_
    refine nx_getI rfl rfl rfl (by decide) ?_
    exact nx_ri rfl rfl H
  · show nX _ _ _ _ _ _ 81 _ _ _ _ _
    refine nx_ld rfl rfl rfl rfl ?_
    refine nx_cVI (as := []) (st' := []) rfl rfl (Nat.le_of_ble_eq_true rfl) rfl rfl (Nat.le_of_ble_eq_true rfl) (c0 := 12) rfl (by decide) H (fun Q H => TF_X12_countStandingMoves hW  H) (fun r23 H => ?_)
    exact nx_ri rfl rfl H
  · show nX _ _ _ _ _ _ 86 _ _ _ _ _
    refine nx_ld rfl rfl rfl rfl ?_
    refine nx_getI rfl rfl rfl (by decide) ?_
    exact nx_ri rfl rfl H
  · show nX _ _ _ _ _ _ 91 _ _ _ _ _
    refine nx_ld rfl rfl rfl rfl ?_
    refine nx_getI rfl rfl rfl (by decide) ?_
    exact nx_ri rfl rfl H
  · show nX _ _ _ _ _ _ 96 _ _ _ _ _
    refine nx_ld rfl rfl rfl rfl ?_
    refine nx_getI rfl rfl rfl (by decide) ?_
    exact nx_ri rfl rfl H
  · show nX _ _ _ _ _ _ 101 _ _ _ _ _
    refine nx_ld rfl rfl rfl rfl ?_
    refine nx_getFix rfl rfl rfl (by decide) (by rw [hW]; rfl) rfl ?_
    refine nx_getI rfl rfl rfl (by decide) ?_
    exact nx_ri rfl rfl H
  · show nX _ _ _ _ _ _ 109 _ _ _ _ _
    refine nx_ld rfl rfl rfl rfl ?_
    refine nx_int (x := 1) rfl rfl ?_
    refine nx_cVI (as := [eI 1]) (st' := []) rfl rfl (Nat.le_of_ble_eq_true rfl) rfl rfl (Nat.le_of_ble_eq_true rfl) (c0 := 12) rfl (by decide) H (fun Q H => TF_X12_countPlayers hW  H) (fun r24 H => ?_)
    exact nx_ri rfl rfl H
  · show nX _ _ _ _ _ _ 115 _ _ _ _ _
    refine nx_ld rfl rfl rfl rfl ?_
    refine nx_getFix rfl rfl rfl (by decide) (by rw [hW]; rfl) rfl ?_
    refine nx_getI rfl rfl rfl (by decide) ?_
    exact nx_ri rfl rfl H
def B_X13_init_703 (t : TS) : Option TS := (gE (tE t 3394 0) (nxt (uN t 3394 0 6) (fun t21 => (nxt (uR t21 1394 0 (some 0)) (fun t22 => (gE (tE t22 3395 0) (nxt (uN t22 3395 0 360) (fun t23 => (nxt (uR t23 1395 0 (some 0)) (fun t24 => (gE (tE t24 3396 0) (nxt (uN t24 3396 0 60) (fun t25 => (nxt (uR t25 1396 0 (some 0)) (fun t26 => (some t26))))))))))))))))
theorem TB_X13_init_703 {W : NW} {d : Nat} {Q : Option NV → TS → Prop} {a0 : Nat → Nat → Nat} {e0 : Nat → Nat → Bool} {bc bs : Nat} (hW : W.2.2.2 = (fun _ => false)) : ∀ (t : TS) , wp (B_X13_init_703 t) (fun r => Q none r) → nX W d tX13_init Q a0 e0 703 [some (eR (some (13, 0)))] [] t (bc + 3) (bs + 426) := by
  intro t H
  unfold B_X13_init_703 at H
  refine nx_ld rfl rfl rfl rfl ?_
  refine nx_int (x := 6) rfl rfl ?_
  refine nx_newaL 3394 0 6 rfl rfl (Nat.le_of_ble_eq_true rfl) (Nat.le_of_ble_eq_true rfl) rfl rfl (by decide) (Nat.le_of_ble_eq_true rfl) (by omega) (by omega) H (fun t21 H => ?_)
  refine nx_eq (bc' := bc + 2) (bs' := bs + 420) (by omega) (by omega) ?_
  refine nx_putR (f := 1394) (o := (some 0)) rfl rfl rfl (by decide) (by rw [hW]) rfl (by decide) H (fun t22 H => ?_)
  refine nx_ld rfl rfl rfl rfl ?_
  refine nx_int (x := 360) rfl rfl ?_
  refine nx_newaL 3395 0 360 rfl rfl (Nat.le_of_ble_eq_true rfl) (Nat.le_of_ble_eq_true rfl) rfl rfl (by decide) (Nat.le_of_ble_eq_true rfl) (by omega) (by omega) H (fun t23 H => ?_)
  refine nx_eq (bc' := bc + 1) (bs' := bs + 60) (by omega) (by omega) ?_
  show nX _ _ _ _ _ _ 717 _ _ _ _ _
  refine nx_putR (f := 1395) (o := (some 0)) rfl rfl rfl (by decide) (by rw [hW]) rfl (by decide) H (fun t24 H => ?_)
  refine nx_ld rfl rfl rfl rfl ?_
  refine nx_int (x := 60) rfl rfl ?_
  refine nx_newaL 3396 0 60 rfl rfl (Nat.le_of_ble_eq_true rfl) (Nat.le_of_ble_eq_true rfl) rfl rfl (by decide) (Nat.le_of_ble_eq_true rfl) (by omega) (by omega) H (fun t25 H => ?_)
  refine nx_eq (bc' := bc) (bs' := bs) (by omega) (by omega) ?_
  refine nx_putR (f := 1396) (o := (some 0)) rfl rfl rfl (by decide) (by rw [hW]) rfl (by decide) H (fun t26 H => ?_)
  exact nx_rv rfl rfl H
def B_X13_init_618 (t : TS) : Option TS := (gE (tE t 3384 0) (nxt (uN t 3384 0 10) (fun t21 => (nxt (uR t21 1384 0 (some 0)) (fun t22 => (gE (tE t22 3385 0) (nxt (uN t22 3385 0 10) (fun t23 => (nxt (uR t23 1385 0 (some 0)) (fun t24 => (gE (tE t24 3387 0) (nxt (uN t24 3387 0 12) (fun t25 => (nxt (uR t25 1387 0 (some 0)) (fun t26 => (gE (tE t26 3388 0) (nxt (uN t26 3388 0 12) (fun t27 => (nxt (uR t27 1388 0 (some 0)) (fun t28 => (gE (tE t28 3389 0) (nxt (uN t28 3389 0 12) (fun t29 => (nxt (uR t29 1389 0 (some 0)) (fun t30 => (nxt (uI t30 1390 0 (-1)) (fun t31 => (gE (tE t31 3392 0) (nxt (uN t31 3392 0 24) (fun t32 => (nxt (uR t32 1392 0 (some 0)) (fun t33 => (gE (tE t33 3393 0) (nxt (uN t33 3393 0 6) (fun t34 => (gd (0 : Int32) (tL t34 3393 0) (nxt (uA t34 3393 0 (0 : Int32).toNatClampNeg (-1)) (fun t35 => (gd (1 : Int32) (tL t35 3393 0) (nxt (uA t35 3393 0 (1 : Int32).toNatClampNeg (-1)) (fun t36 => (gd (2 : Int32) (tL t36 3393 0) (nxt (uA t36 3393 0 (2 : Int32).toNatClampNeg (-1)) (fun t37 => (gd (3 : Int32) (tL t37 3393 0) (nxt (uA t37 3393 0 (3 : Int32).toNatClampNeg (-1)) (fun t38 => (gd (4 : Int32) (tL t38 3393 0) (nxt (uA t38 3393 0 (4 : Int32).toNatClampNeg (-1)) (fun t39 => (gd (5 : Int32) (tL t39 3393 0) (nxt (uA t39 3393 0 (5 : Int32).toNatClampNeg (-1)) (fun t40 => (nxt (uR t40 1393 0 (some 0)) (fun t41 => (B_X13_init_703  t41))))))))))))))))))))))))))))))))))))))))))))))))))))))))
theorem TB_X13_init_618 {W : NW} {d : Nat} {Q : Option NV → TS → Prop} {a0 : Nat → Nat → Nat} {e0 : Nat → Nat → Bool} {bc bs : Nat} (hW : W.2.2.2 = (fun _ => false)) : ∀ (t : TS) , wp (B_X13_init_618 t) (fun r => Q none r) → nX W d tX13_init Q a0 e0 618 [some (eR (some (13, 0)))] [] t (bc + 10) (bs + 512) := by
  intro t H
  unfold B_X13_init_618 at H
  refine nx_ld rfl rfl rfl rfl ?_
  refine nx_int (x := 10) rfl rfl ?_
  refine nx_newaL 3384 0 10 rfl rfl (Nat.le_of_ble_eq_true rfl) (Nat.le_of_ble_eq_true rfl) rfl rfl (by decide) (Nat.le_of_ble_eq_true rfl) (by omega) (by omega) H (fun t21 H => ?_)
  refine nx_eq (bc' := bc + 9) (bs' := bs + 502) (by omega) (by omega) ?_
  refine nx_putR (f := 1384) (o := (some 0)) rfl rfl rfl (by decide) (by rw [hW]) rfl (by decide) H (fun t22 H => ?_)
  refine nx_ld rfl rfl rfl rfl ?_
  refine nx_int (x := 10) rfl rfl ?_
  refine nx_newaL 3385 0 10 rfl rfl (Nat.le_of_ble_eq_true rfl) (Nat.le_of_ble_eq_true rfl) rfl rfl (by decide) (Nat.le_of_ble_eq_true rfl) (by omega) (by omega) H (fun t23 H => ?_)
  refine nx_eq (bc' := bc + 8) (bs' := bs + 492) (by omega) (by omega) ?_
  show nX _ _ _ _ _ _ 631 _ _ _ _ _
  refine nx_putR (f := 1385) (o := (some 0)) rfl rfl rfl (by decide) (by rw [hW]) rfl (by decide) H (fun t24 H => ?_)
  refine nx_ld rfl rfl rfl rfl ?_
  refine nx_int (x := 12) rfl rfl ?_
  refine nx_newaL 3387 0 12 rfl rfl (Nat.le_of_ble_eq_true rfl) (Nat.le_of_ble_eq_true rfl) rfl rfl (by decide) (Nat.le_of_ble_eq_true rfl) (by omega) (by omega) H (fun t25 H => ?_)
  refine nx_eq (bc' := bc + 7) (bs' := bs + 480) (by omega) (by omega) ?_
  refine nx_putR (f := 1387) (o := (some 0)) rfl rfl rfl (by decide) (by rw [hW]) rfl (by decide) H (fun t26 H => ?_)
  refine nx_ld rfl rfl rfl rfl ?_
  refine nx_int (x := 12) rfl rfl ?_
  refine nx_newaL 3388 0 12 rfl rfl (Nat.le_of_ble_eq_true rfl) (Nat.le_of_ble_eq_true rfl) rfl rfl (by decide) (Nat.le_of_ble_eq_true rfl) (by omega) (by omega) H (fun t27 H => ?_)
  refine nx_eq (bc' := bc + 6) (bs' := bs + 468) (by omega) (by omega) ?_
  show nX _ _ _ _ _ _ 647 _ _ _ _ _
  refine nx_putR (f := 1388) (o := (some 0)) rfl rfl rfl (by decide) (by rw [hW]) rfl (by decide) H (fun t28 H => ?_)
  refine nx_ld rfl rfl rfl rfl ?_
  refine nx_int (x := 12) rfl rfl ?_
  refine nx_newaL 3389 0 12 rfl rfl (Nat.le_of_ble_eq_true rfl) (Nat.le_of_ble_eq_true rfl) rfl rfl (by decide) (Nat.le_of_ble_eq_true rfl) (by omega) (by omega) H (fun t29 H => ?_)
  refine nx_eq (bc' := bc + 5) (bs' := bs + 456) (by omega) (by omega) ?_
  refine nx_putR (f := 1389) (o := (some 0)) rfl rfl rfl (by decide) (by rw [hW]) rfl (by decide) H (fun t30 H => ?_)
  refine nx_ld rfl rfl rfl rfl ?_
  refine nx_int (x := (-1)) rfl rfl ?_
  refine nx_putI rfl rfl rfl (by decide) H (fun t31 H => ?_)
  show nX _ _ _ _ _ _ 663 _ _ _ _ _
  refine nx_ld rfl rfl rfl rfl ?_
  refine nx_int (x := 24) rfl rfl ?_
  refine nx_newaL 3392 0 24 rfl rfl (Nat.le_of_ble_eq_true rfl) (Nat.le_of_ble_eq_true rfl) rfl rfl (by decide) (Nat.le_of_ble_eq_true rfl) (by omega) (by omega) H (fun t32 H => ?_)
  refine nx_eq (bc' := bc + 4) (bs' := bs + 432) (by omega) (by omega) ?_
  refine nx_putR (f := 1392) (o := (some 0)) rfl rfl rfl (by decide) (by rw [hW]) rfl (by decide) H (fun t33 H => ?_)
  refine nx_ld rfl rfl rfl rfl ?_
  refine nx_int (x := 6) rfl rfl ?_
  refine nx_newaL 3393 0 6 rfl rfl (Nat.le_of_ble_eq_true rfl) (Nat.le_of_ble_eq_true rfl) rfl rfl (by decide) (Nat.le_of_ble_eq_true rfl) (by omega) (by omega) H (fun t34 H => ?_)
  refine nx_eq (bc' := bc + 3) (bs' := bs + 426) (by omega) (by omega) ?_
  refine nx_dup rfl rfl (Nat.ne_of_beq_eq_false rfl) ?_
  show nX _ _ _ _ _ _ 677 _ _ _ _ _
  refine nx_int (x := 0) rfl rfl ?_
  refine nx_int (x := (-1)) rfl rfl ?_
  refine nx_iast (p := (3393, 0)) rfl rfl (Nat.le_of_ble_eq_true rfl) (Nat.le_of_ble_eq_true rfl) rfl H (fun t35 H => ?_)
  refine nx_dup rfl rfl (Nat.ne_of_beq_eq_false rfl) ?_
  refine nx_int (x := 1) rfl rfl ?_
  refine nx_int (x := (-1)) rfl rfl ?_
  refine nx_iast (p := (3393, 0)) rfl rfl (Nat.le_of_ble_eq_true rfl) (Nat.le_of_ble_eq_true rfl) rfl H (fun t36 H => ?_)
  refine nx_dup rfl rfl (Nat.ne_of_beq_eq_false rfl) ?_
  show nX _ _ _ _ _ _ 685 _ _ _ _ _
  refine nx_int (x := 2) rfl rfl ?_
  refine nx_int (x := (-1)) rfl rfl ?_
  refine nx_iast (p := (3393, 0)) rfl rfl (Nat.le_of_ble_eq_true rfl) (Nat.le_of_ble_eq_true rfl) rfl H (fun t37 H => ?_)
  refine nx_dup rfl rfl (Nat.ne_of_beq_eq_false rfl) ?_
  refine nx_int (x := 3) rfl rfl ?_
  refine nx_int (x := (-1)) rfl rfl ?_
  refine nx_iast (p := (3393, 0)) rfl rfl (Nat.le_of_ble_eq_true rfl) (Nat.le_of_ble_eq_true rfl) rfl H (fun t38 H => ?_)
  refine nx_dup rfl rfl (Nat.ne_of_beq_eq_false rfl) ?_
  show nX _ _ _ _ _ _ 693 _ _ _ _ _
  refine nx_int (x := 4) rfl rfl ?_
  refine nx_int (x := (-1)) rfl rfl ?_
  refine nx_iast (p := (3393, 0)) rfl rfl (Nat.le_of_ble_eq_true rfl) (Nat.le_of_ble_eq_true rfl) rfl H (fun t39 H => ?_)
  refine nx_dup rfl rfl (Nat.ne_of_beq_eq_false rfl) ?_
  refine nx_int (x := 5) rfl rfl ?_
  refine nx_int (x := (-1)) rfl rfl ?_
  refine nx_iast (p := (3393, 0)) rfl rfl (Nat.le_of_ble_eq_true rfl) (Nat.le_of_ble_eq_true rfl) rfl H (fun t40 H => ?_)
  refine nx_putR (f := 1393) (o := (some 0)) rfl rfl rfl (by decide) (by rw [hW]) rfl (by decide) H (fun t41 H => ?_)
  refine nx_eq (bc' := (bc) + 3) (bs' := (bs) + 426) (by omega) (by omega) ?_
  exact TB_X13_init_703 hW    _ H
def B_X13_init_557 (t : TS) : Option TS := (gE (tE t 3373 0) (nxt (uN t 3373 0 6) (fun t21 => (nxt (uR t21 1373 0 (some 0)) (fun t22 => (gE (tE t22 3374 0) (nxt (uN t22 3374 0 6) (fun t23 => (nxt (uR t23 1374 0 (some 0)) (fun t24 => (gE (tE t24 3376 0) (nxt (uN t24 3376 0 8) (fun t25 => (nxt (uR t25 1376 0 (some 0)) (fun t26 => (gE (tE t26 3377 0) (nxt (uN t26 3377 0 8) (fun t27 => (nxt (uR t27 1377 0 (some 0)) (fun t28 => (gE (tE t28 3378 0) (nxt (uN t28 3378 0 8) (fun t29 => (nxt (uR t29 1378 0 (some 0)) (fun t30 => (nxt (uI t30 1379 0 (-1)) (fun t31 => (gE (tE t31 3382 0) (nxt (uN t31 3382 0 10) (fun t32 => (nxt (uR t32 1382 0 (some 0)) (fun t33 => (gE (tE t33 3383 0) (nxt (uN t33 3383 0 10) (fun t34 => (nxt (uR t34 1383 0 (some 0)) (fun t35 => (B_X13_init_618  t35))))))))))))))))))))))))))))))))))))))
theorem TB_X13_init_557 {W : NW} {d : Nat} {Q : Option NV → TS → Prop} {a0 : Nat → Nat → Nat} {e0 : Nat → Nat → Bool} {bc bs : Nat} (hW : W.2.2.2 = (fun _ => false)) : ∀ (t : TS) , wp (B_X13_init_557 t) (fun r => Q none r) → nX W d tX13_init Q a0 e0 557 [some (eR (some (13, 0)))] [] t (bc + 17) (bs + 568) := by
  intro t H
  unfold B_X13_init_557 at H
  refine nx_ld rfl rfl rfl rfl ?_
  refine nx_int (x := 6) rfl rfl ?_
  refine nx_newaL 3373 0 6 rfl rfl (Nat.le_of_ble_eq_true rfl) (Nat.le_of_ble_eq_true rfl) rfl rfl (by decide) (Nat.le_of_ble_eq_true rfl) (by omega) (by omega) H (fun t21 H => ?_)
  refine nx_eq (bc' := bc + 16) (bs' := bs + 562) (by omega) (by omega) ?_
  refine nx_putR (f := 1373) (o := (some 0)) rfl rfl rfl (by decide) (by rw [hW]) rfl (by decide) H (fun t22 H => ?_)
  refine nx_ld rfl rfl rfl rfl ?_
  refine nx_int (x := 6) rfl rfl ?_
  refine nx_newaL 3374 0 6 rfl rfl (Nat.le_of_ble_eq_true rfl) (Nat.le_of_ble_eq_true rfl) rfl rfl (by decide) (Nat.le_of_ble_eq_true rfl) (by omega) (by omega) H (fun t23 H => ?_)
  refine nx_eq (bc' := bc + 15) (bs' := bs + 556) (by omega) (by omega) ?_
  show nX _ _ _ _ _ _ 570 _ _ _ _ _
  refine nx_putR (f := 1374) (o := (some 0)) rfl rfl rfl (by decide) (by rw [hW]) rfl (by decide) H (fun t24 H => ?_)
  refine nx_ld rfl rfl rfl rfl ?_
  refine nx_int (x := 8) rfl rfl ?_
  refine nx_newaL 3376 0 8 rfl rfl (Nat.le_of_ble_eq_true rfl) (Nat.le_of_ble_eq_true rfl) rfl rfl (by decide) (Nat.le_of_ble_eq_true rfl) (by omega) (by omega) H (fun t25 H => ?_)
  refine nx_eq (bc' := bc + 14) (bs' := bs + 548) (by omega) (by omega) ?_
  refine nx_putR (f := 1376) (o := (some 0)) rfl rfl rfl (by decide) (by rw [hW]) rfl (by decide) H (fun t26 H => ?_)
  refine nx_ld rfl rfl rfl rfl ?_
  refine nx_int (x := 8) rfl rfl ?_
  refine nx_newaL 3377 0 8 rfl rfl (Nat.le_of_ble_eq_true rfl) (Nat.le_of_ble_eq_true rfl) rfl rfl (by decide) (Nat.le_of_ble_eq_true rfl) (by omega) (by omega) H (fun t27 H => ?_)
  refine nx_eq (bc' := bc + 13) (bs' := bs + 540) (by omega) (by omega) ?_
  show nX _ _ _ _ _ _ 586 _ _ _ _ _
  refine nx_putR (f := 1377) (o := (some 0)) rfl rfl rfl (by decide) (by rw [hW]) rfl (by decide) H (fun t28 H => ?_)
  refine nx_ld rfl rfl rfl rfl ?_
  refine nx_int (x := 8) rfl rfl ?_
  refine nx_newaL 3378 0 8 rfl rfl (Nat.le_of_ble_eq_true rfl) (Nat.le_of_ble_eq_true rfl) rfl rfl (by decide) (Nat.le_of_ble_eq_true rfl) (by omega) (by omega) H (fun t29 H => ?_)
  refine nx_eq (bc' := bc + 12) (bs' := bs + 532) (by omega) (by omega) ?_
  refine nx_putR (f := 1378) (o := (some 0)) rfl rfl rfl (by decide) (by rw [hW]) rfl (by decide) H (fun t30 H => ?_)
  refine nx_ld rfl rfl rfl rfl ?_
  refine nx_int (x := (-1)) rfl rfl ?_
  refine nx_putI rfl rfl rfl (by decide) H (fun t31 H => ?_)
  show nX _ _ _ _ _ _ 602 _ _ _ _ _
  refine nx_ld rfl rfl rfl rfl ?_
  refine nx_int (x := 10) rfl rfl ?_
  refine nx_newaL 3382 0 10 rfl rfl (Nat.le_of_ble_eq_true rfl) (Nat.le_of_ble_eq_true rfl) rfl rfl (by decide) (Nat.le_of_ble_eq_true rfl) (by omega) (by omega) H (fun t32 H => ?_)
  refine nx_eq (bc' := bc + 11) (bs' := bs + 522) (by omega) (by omega) ?_
  refine nx_putR (f := 1382) (o := (some 0)) rfl rfl rfl (by decide) (by rw [hW]) rfl (by decide) H (fun t33 H => ?_)
  refine nx_ld rfl rfl rfl rfl ?_
  refine nx_int (x := 10) rfl rfl ?_
  refine nx_newaL 3383 0 10 rfl rfl (Nat.le_of_ble_eq_true rfl) (Nat.le_of_ble_eq_true rfl) rfl rfl (by decide) (Nat.le_of_ble_eq_true rfl) (by omega) (by omega) H (fun t34 H => ?_)
  refine nx_eq (bc' := bc + 10) (bs' := bs + 512) (by omega) (by omega) ?_
  refine nx_putR (f := 1383) (o := (some 0)) rfl rfl rfl (by decide) (by rw [hW]) rfl (by decide) H (fun t35 H => ?_)
  refine nx_eq (bc' := (bc) + 10) (bs' := (bs) + 512) (by omega) (by omega) ?_
  exact TB_X13_init_618 hW    _ H
def B_X13_init_489 (t : TS) : Option TS := (gE (tE t 3359 0) (nxt (uN t 3359 0 17) (fun t21 => (nxt (uR t21 1359 0 (some 0)) (fun t22 => (gE (tE t22 3360 0) (nxt (uN t22 3360 0 1530) (fun t23 => (nxt (uR t23 1360 0 (some 0)) (fun t24 => (gE (tE t24 3361 0) (nxt (uN t24 3361 0 3400) (fun t25 => (nxt (uR t25 1361 0 (some 0)) (fun t26 => (gE (tE t26 3362 0) (nxt (uN t26 3362 0 3400) (fun t27 => (nxt (uR t27 1362 0 (some 0)) (fun t28 => (gE (tE t28 3368 0) (nxt (uN t28 3368 0 12) (fun t29 => (nxt (uR t29 1368 0 (some 0)) (fun t30 => (gE (tE t30 3369 0) (nxt (uN t30 3369 0 200) (fun t31 => (nxt (uR t31 1369 0 (some 0)) (fun t32 => (gE (tE t32 3371 0) (nxt (uN t32 3371 0 6) (fun t33 => (nxt (uR t33 1371 0 (some 0)) (fun t34 => (gE (tE t34 3372 0) (nxt (uN t34 3372 0 6) (fun t35 => (nxt (uR t35 1372 0 (some 0)) (fun t36 => (B_X13_init_557  t36)))))))))))))))))))))))))))))))))))))))))
theorem TB_X13_init_489 {W : NW} {d : Nat} {Q : Option NV → TS → Prop} {a0 : Nat → Nat → Nat} {e0 : Nat → Nat → Bool} {bc bs : Nat} (hW : W.2.2.2 = (fun _ => false)) : ∀ (t : TS) , wp (B_X13_init_489 t) (fun r => Q none r) → nX W d tX13_init Q a0 e0 489 [some (eR (some (13, 0)))] [] t (bc + 25) (bs + 9139) := by
  intro t H
  unfold B_X13_init_489 at H
  refine nx_ld rfl rfl rfl rfl ?_
  refine nx_int (x := 17) rfl rfl ?_
  refine nx_newaL 3359 0 17 rfl rfl (Nat.le_of_ble_eq_true rfl) (Nat.le_of_ble_eq_true rfl) rfl rfl (by decide) (Nat.le_of_ble_eq_true rfl) (by omega) (by omega) H (fun t21 H => ?_)
  refine nx_eq (bc' := bc + 24) (bs' := bs + 9122) (by omega) (by omega) ?_
  refine nx_putR (f := 1359) (o := (some 0)) rfl rfl rfl (by decide) (by rw [hW]) rfl (by decide) H (fun t22 H => ?_)
  refine nx_ld rfl rfl rfl rfl ?_
  refine nx_int (x := 1530) rfl rfl ?_
  refine nx_newaL 3360 0 1530 rfl rfl (Nat.le_of_ble_eq_true rfl) (Nat.le_of_ble_eq_true rfl) rfl rfl (by decide) (Nat.le_of_ble_eq_true rfl) (by omega) (by omega) H (fun t23 H => ?_)
  refine nx_eq (bc' := bc + 23) (bs' := bs + 7592) (by omega) (by omega) ?_
  show nX _ _ _ _ _ _ 503 _ _ _ _ _
  refine nx_putR (f := 1360) (o := (some 0)) rfl rfl rfl (by decide) (by rw [hW]) rfl (by decide) H (fun t24 H => ?_)
  refine nx_ld rfl rfl rfl rfl ?_
  refine nx_int (x := 3400) rfl rfl ?_
  refine nx_newaL 3361 0 3400 rfl rfl (Nat.le_of_ble_eq_true rfl) (Nat.le_of_ble_eq_true rfl) rfl rfl (by decide) (Nat.le_of_ble_eq_true rfl) (by omega) (by omega) H (fun t25 H => ?_)
  refine nx_eq (bc' := bc + 22) (bs' := bs + 4192) (by omega) (by omega) ?_
  refine nx_putR (f := 1361) (o := (some 0)) rfl rfl rfl (by decide) (by rw [hW]) rfl (by decide) H (fun t26 H => ?_)
  refine nx_ld rfl rfl rfl rfl ?_
  refine nx_int (x := 3400) rfl rfl ?_
  refine nx_newaL 3362 0 3400 rfl rfl (Nat.le_of_ble_eq_true rfl) (Nat.le_of_ble_eq_true rfl) rfl rfl (by decide) (Nat.le_of_ble_eq_true rfl) (by omega) (by omega) H (fun t27 H => ?_)
  refine nx_eq (bc' := bc + 21) (bs' := bs + 792) (by omega) (by omega) ?_
  show nX _ _ _ _ _ _ 521 _ _ _ _ _
  refine nx_putR (f := 1362) (o := (some 0)) rfl rfl rfl (by decide) (by rw [hW]) rfl (by decide) H (fun t28 H => ?_)
  refine nx_ld rfl rfl rfl rfl ?_
  refine nx_int (x := 12) rfl rfl ?_
  refine nx_newaL 3368 0 12 rfl rfl (Nat.le_of_ble_eq_true rfl) (Nat.le_of_ble_eq_true rfl) rfl rfl (by decide) (Nat.le_of_ble_eq_true rfl) (by omega) (by omega) H (fun t29 H => ?_)
  refine nx_eq (bc' := bc + 20) (bs' := bs + 780) (by omega) (by omega) ?_
  refine nx_putR (f := 1368) (o := (some 0)) rfl rfl rfl (by decide) (by rw [hW]) rfl (by decide) H (fun t30 H => ?_)
  refine nx_ld rfl rfl rfl rfl ?_
  refine nx_int (x := 200) rfl rfl ?_
  refine nx_newaL 3369 0 200 rfl rfl (Nat.le_of_ble_eq_true rfl) (Nat.le_of_ble_eq_true rfl) rfl rfl (by decide) (Nat.le_of_ble_eq_true rfl) (by omega) (by omega) H (fun t31 H => ?_)
  refine nx_eq (bc' := bc + 19) (bs' := bs + 580) (by omega) (by omega) ?_
  show nX _ _ _ _ _ _ 538 _ _ _ _ _
  refine nx_putR (f := 1369) (o := (some 0)) rfl rfl rfl (by decide) (by rw [hW]) rfl (by decide) H (fun t32 H => ?_)
  refine nx_ld rfl rfl rfl rfl ?_
  refine nx_int (x := 6) rfl rfl ?_
  refine nx_newaL 3371 0 6 rfl rfl (Nat.le_of_ble_eq_true rfl) (Nat.le_of_ble_eq_true rfl) rfl rfl (by decide) (Nat.le_of_ble_eq_true rfl) (by omega) (by omega) H (fun t33 H => ?_)
  refine nx_eq (bc' := bc + 18) (bs' := bs + 574) (by omega) (by omega) ?_
  refine nx_putR (f := 1371) (o := (some 0)) rfl rfl rfl (by decide) (by rw [hW]) rfl (by decide) H (fun t34 H => ?_)
  refine nx_ld rfl rfl rfl rfl ?_
  refine nx_int (x := 6) rfl rfl ?_
  refine nx_newaL 3372 0 6 rfl rfl (Nat.le_of_ble_eq_true rfl) (Nat.le_of_ble_eq_true rfl) rfl rfl (by decide) (Nat.le_of_ble_eq_true rfl) (by omega) (by omega) H (fun t35 H => ?_)
  refine nx_eq (bc' := bc + 17) (bs' := bs + 568) (by omega) (by omega) ?_
  show nX _ _ _ _ _ _ 554 _ _ _ _ _
  refine nx_putR (f := 1372) (o := (some 0)) rfl rfl rfl (by decide) (by rw [hW]) rfl (by decide) H (fun t36 H => ?_)
  refine nx_eq (bc' := (bc) + 17) (bs' := (bs) + 568) (by omega) (by omega) ?_
  exact TB_X13_init_557 hW    _ H
def B_X13_init_382 (t : TS) : Option TS := (gE (tE t 3346 0) (nxt (uN t 3346 0 200) (fun t21 => (nxt (uR t21 1346 0 (some 0)) (fun t22 => (gE (tE t22 3347 0) (nxt (uN t22 3347 0 30000) (fun t23 => (nxt (uR t23 1347 0 (some 0)) (fun t24 => (gE (tE t24 3348 0) (nxt (uN t24 3348 0 22500) (fun t25 => (nxt (uR t25 1348 0 (some 0)) (fun t26 => (gE (tE t26 3349 0) (nxt (uN t26 3349 0 9) (fun t27 => (gd (0 : Int32) (tL t27 3349 0) (nxt (uA t27 3349 0 (0 : Int32).toNatClampNeg 0) (fun t28 => (gd (1 : Int32) (tL t28 3349 0) (nxt (uA t28 3349 0 (1 : Int32).toNatClampNeg 0) (fun t29 => (gd (2 : Int32) (tL t29 3349 0) (nxt (uA t29 3349 0 (2 : Int32).toNatClampNeg 0) (fun t30 => (gd (3 : Int32) (tL t30 3349 0) (nxt (uA t30 3349 0 (3 : Int32).toNatClampNeg 1) (fun t31 => (gd (4 : Int32) (tL t31 3349 0) (nxt (uA t31 3349 0 (4 : Int32).toNatClampNeg 0) (fun t32 => (gd (5 : Int32) (tL t32 3349 0) (nxt (uA t32 3349 0 (5 : Int32).toNatClampNeg 0) (fun t33 => (gd (6 : Int32) (tL t33 3349 0) (nxt (uA t33 3349 0 (6 : Int32).toNatClampNeg 1) (fun t34 => (gd (7 : Int32) (tL t34 3349 0) (nxt (uA t34 3349 0 (7 : Int32).toNatClampNeg 0) (fun t35 => (gd (8 : Int32) (tL t35 3349 0) (nxt (uA t35 3349 0 (8 : Int32).toNatClampNeg 0) (fun t36 => (nxt (uR t36 1349 0 (some 0)) (fun t37 => (gE (tE t37 3353 0) (nxt (uN t37 3353 0 160) (fun t38 => (nxt (uR t38 1353 0 (some 0)) (fun t39 => (gE (tE t39 3356 0) (nxt (uN t39 3356 0 16) (fun t40 => (nxt (uR t40 1356 0 (some 0)) (fun t41 => (gE (tE t41 3357 0) (nxt (uN t41 3357 0 16) (fun t42 => (nxt (uR t42 1357 0 (some 0)) (fun t43 => (gE (tE t43 3358 0) (nxt (uN t43 3358 0 16) (fun t44 => (nxt (uR t44 1358 0 (some 0)) (fun t45 => (B_X13_init_489  t45))))))))))))))))))))))))))))))))))))))))))))))))))))))))))))))))))))
theorem TB_X13_init_382 {W : NW} {d : Nat} {Q : Option NV → TS → Prop} {a0 : Nat → Nat → Nat} {e0 : Nat → Nat → Bool} {bc bs : Nat} (hW : W.2.2.2 = (fun _ => false)) : ∀ (t : TS) , wp (B_X13_init_382 t) (fun r => Q none r) → nX W d tX13_init Q a0 e0 382 [some (eR (some (13, 0)))] [] t (bc + 33) (bs + 62056) := by
  intro t H
  unfold B_X13_init_382 at H
  refine nx_ld rfl rfl rfl rfl ?_
  refine nx_int (x := 200) rfl rfl ?_
  refine nx_newaL 3346 0 200 rfl rfl (Nat.le_of_ble_eq_true rfl) (Nat.le_of_ble_eq_true rfl) rfl rfl (by decide) (Nat.le_of_ble_eq_true rfl) (by omega) (by omega) H (fun t21 H => ?_)
  refine nx_eq (bc' := bc + 32) (bs' := bs + 61856) (by omega) (by omega) ?_
  refine nx_putR (f := 1346) (o := (some 0)) rfl rfl rfl (by decide) (by rw [hW]) rfl (by decide) H (fun t22 H => ?_)
  refine nx_ld rfl rfl rfl rfl ?_
  refine nx_int (x := 30000) rfl rfl ?_
  refine nx_newaL 3347 0 30000 rfl rfl (Nat.le_of_ble_eq_true rfl) (Nat.le_of_ble_eq_true rfl) rfl rfl (by decide) (Nat.le_of_ble_eq_true rfl) (by omega) (by omega) H (fun t23 H => ?_)
  refine nx_eq (bc' := bc + 31) (bs' := bs + 31856) (by omega) (by omega) ?_
  show nX _ _ _ _ _ _ 397 _ _ _ _ _
  refine nx_putR (f := 1347) (o := (some 0)) rfl rfl rfl (by decide) (by rw [hW]) rfl (by decide) H (fun t24 H => ?_)
  refine nx_ld rfl rfl rfl rfl ?_
  refine nx_int (x := 22500) rfl rfl ?_
  refine nx_newaL 3348 0 22500 rfl rfl (Nat.le_of_ble_eq_true rfl) (Nat.le_of_ble_eq_true rfl) rfl rfl (by decide) (Nat.le_of_ble_eq_true rfl) (by omega) (by omega) H (fun t25 H => ?_)
  refine nx_eq (bc' := bc + 30) (bs' := bs + 9356) (by omega) (by omega) ?_
  refine nx_putR (f := 1348) (o := (some 0)) rfl rfl rfl (by decide) (by rw [hW]) rfl (by decide) H (fun t26 H => ?_)
  refine nx_ld rfl rfl rfl rfl ?_
  refine nx_int (x := 9) rfl rfl ?_
  refine nx_newaL 3349 0 9 rfl rfl (Nat.le_of_ble_eq_true rfl) (Nat.le_of_ble_eq_true rfl) rfl rfl (by decide) (Nat.le_of_ble_eq_true rfl) (by omega) (by omega) H (fun t27 H => ?_)
  refine nx_eq (bc' := bc + 29) (bs' := bs + 9347) (by omega) (by omega) ?_
  show nX _ _ _ _ _ _ 414 _ _ _ _ _
  refine nx_dup rfl rfl (Nat.ne_of_beq_eq_false rfl) ?_
  refine nx_int (x := 0) rfl rfl ?_
  refine nx_int (x := 0) rfl rfl ?_
  refine nx_iast (p := (3349, 0)) rfl rfl (Nat.le_of_ble_eq_true rfl) (Nat.le_of_ble_eq_true rfl) rfl H (fun t28 H => ?_)
  refine nx_dup rfl rfl (Nat.ne_of_beq_eq_false rfl) ?_
  refine nx_int (x := 1) rfl rfl ?_
  refine nx_int (x := 0) rfl rfl ?_
  refine nx_iast (p := (3349, 0)) rfl rfl (Nat.le_of_ble_eq_true rfl) (Nat.le_of_ble_eq_true rfl) rfl H (fun t29 H => ?_)
  show nX _ _ _ _ _ _ 422 _ _ _ _ _
  refine nx_dup rfl rfl (Nat.ne_of_beq_eq_false rfl) ?_
  refine nx_int (x := 2) rfl rfl ?_
  refine nx_int (x := 0) rfl rfl ?_
  refine nx_iast (p := (3349, 0)) rfl rfl (Nat.le_of_ble_eq_true rfl) (Nat.le_of_ble_eq_true rfl) rfl H (fun t30 H => ?_)
  refine nx_dup rfl rfl (Nat.ne_of_beq_eq_false rfl) ?_
  refine nx_int (x := 3) rfl rfl ?_
  refine nx_int (x := 1) rfl rfl ?_
  refine nx_iast (p := (3349, 0)) rfl rfl (Nat.le_of_ble_eq_true rfl) (Nat.le_of_ble_eq_true rfl) rfl H (fun t31 H => ?_)
  show nX _ _ _ _ _ _ 430 _ _ _ _ _
  refine nx_dup rfl rfl (Nat.ne_of_beq_eq_false rfl) ?_
  refine nx_int (x := 4) rfl rfl ?_
  refine nx_int (x := 0) rfl rfl ?_
  refine nx_iast (p := (3349, 0)) rfl rfl (Nat.le_of_ble_eq_true rfl) (Nat.le_of_ble_eq_true rfl) rfl H (fun t32 H => ?_)
  refine nx_dup rfl rfl (Nat.ne_of_beq_eq_false rfl) ?_
  refine nx_int (x := 5) rfl rfl ?_
  refine nx_int (x := 0) rfl rfl ?_
  refine nx_iast (p := (3349, 0)) rfl rfl (Nat.le_of_ble_eq_true rfl) (Nat.le_of_ble_eq_true rfl) rfl H (fun t33 H => ?_)
  show nX _ _ _ _ _ _ 438 _ _ _ _ _
  refine nx_dup rfl rfl (Nat.ne_of_beq_eq_false rfl) ?_
  refine nx_int (x := 6) rfl rfl ?_
  refine nx_int (x := 1) rfl rfl ?_
  refine nx_iast (p := (3349, 0)) rfl rfl (Nat.le_of_ble_eq_true rfl) (Nat.le_of_ble_eq_true rfl) rfl H (fun t34 H => ?_)
  refine nx_dup rfl rfl (Nat.ne_of_beq_eq_false rfl) ?_
  refine nx_int (x := 7) rfl rfl ?_
  refine nx_int (x := 0) rfl rfl ?_
  refine nx_iast (p := (3349, 0)) rfl rfl (Nat.le_of_ble_eq_true rfl) (Nat.le_of_ble_eq_true rfl) rfl H (fun t35 H => ?_)
  show nX _ _ _ _ _ _ 448 _ _ _ _ _
  refine nx_dup rfl rfl (Nat.ne_of_beq_eq_false rfl) ?_
  refine nx_int (x := 8) rfl rfl ?_
  refine nx_int (x := 0) rfl rfl ?_
  refine nx_iast (p := (3349, 0)) rfl rfl (Nat.le_of_ble_eq_true rfl) (Nat.le_of_ble_eq_true rfl) rfl H (fun t36 H => ?_)
  refine nx_putR (f := 1349) (o := (some 0)) rfl rfl rfl (by decide) (by rw [hW]) rfl (by decide) H (fun t37 H => ?_)
  refine nx_ld rfl rfl rfl rfl ?_
  refine nx_int (x := 160) rfl rfl ?_
  refine nx_newaL 3353 0 160 rfl rfl (Nat.le_of_ble_eq_true rfl) (Nat.le_of_ble_eq_true rfl) rfl rfl (by decide) (Nat.le_of_ble_eq_true rfl) (by omega) (by omega) H (fun t38 H => ?_)
  refine nx_eq (bc' := bc + 28) (bs' := bs + 9187) (by omega) (by omega) ?_
  show nX _ _ _ _ _ _ 462 _ _ _ _ _
  refine nx_putR (f := 1353) (o := (some 0)) rfl rfl rfl (by decide) (by rw [hW]) rfl (by decide) H (fun t39 H => ?_)
  refine nx_ld rfl rfl rfl rfl ?_
  refine nx_int (x := 16) rfl rfl ?_
  refine nx_newaL 3356 0 16 rfl rfl (Nat.le_of_ble_eq_true rfl) (Nat.le_of_ble_eq_true rfl) rfl rfl (by decide) (Nat.le_of_ble_eq_true rfl) (by omega) (by omega) H (fun t40 H => ?_)
  refine nx_eq (bc' := bc + 27) (bs' := bs + 9171) (by omega) (by omega) ?_
  refine nx_putR (f := 1356) (o := (some 0)) rfl rfl rfl (by decide) (by rw [hW]) rfl (by decide) H (fun t41 H => ?_)
  refine nx_ld rfl rfl rfl rfl ?_
  refine nx_int (x := 16) rfl rfl ?_
  refine nx_newaL 3357 0 16 rfl rfl (Nat.le_of_ble_eq_true rfl) (Nat.le_of_ble_eq_true rfl) rfl rfl (by decide) (Nat.le_of_ble_eq_true rfl) (by omega) (by omega) H (fun t42 H => ?_)
  refine nx_eq (bc' := bc + 26) (bs' := bs + 9155) (by omega) (by omega) ?_
  show nX _ _ _ _ _ _ 478 _ _ _ _ _
  refine nx_putR (f := 1357) (o := (some 0)) rfl rfl rfl (by decide) (by rw [hW]) rfl (by decide) H (fun t43 H => ?_)
  refine nx_ld rfl rfl rfl rfl ?_
  refine nx_int (x := 16) rfl rfl ?_
  refine nx_newaL 3358 0 16 rfl rfl (Nat.le_of_ble_eq_true rfl) (Nat.le_of_ble_eq_true rfl) rfl rfl (by decide) (Nat.le_of_ble_eq_true rfl) (by omega) (by omega) H (fun t44 H => ?_)
  refine nx_eq (bc' := bc + 25) (bs' := bs + 9139) (by omega) (by omega) ?_
  refine nx_putR (f := 1358) (o := (some 0)) rfl rfl rfl (by decide) (by rw [hW]) rfl (by decide) H (fun t45 H => ?_)
  refine nx_eq (bc' := (bc) + 25) (bs' := (bs) + 9139) (by omega) (by omega) ?_
  exact TB_X13_init_489 hW    _ H
def B_X13_init_310 (t : TS) : Option TS := (gE (tE t 3338 0) (nxt (uN t 3338 0 200) (fun t21 => (nxt (uR t21 1338 0 (some 0)) (fun t22 => (gE (tE t22 3339 0) (nxt (uN t22 3339 0 200) (fun t23 => (nxt (uR t23 1339 0 (some 0)) (fun t24 => (gE (tE t24 3340 0) (nxt (uN t24 3340 0 200) (fun t25 => (nxt (uR t25 1340 0 (some 0)) (fun t26 => (gE (tE t26 3341 0) (nxt (uN t26 3341 0 200) (fun t27 => (nxt (uR t27 1341 0 (some 0)) (fun t28 => (gE (tE t28 3342 0) (nxt (uN t28 3342 0 200) (fun t29 => (nxt (uR t29 1342 0 (some 0)) (fun t30 => (gE (tE t30 3343 0) (nxt (uN t30 3343 0 200) (fun t31 => (nxt (uR t31 1343 0 (some 0)) (fun t32 => (gE (tE t32 3344 0) (nxt (uN t32 3344 0 200) (fun t33 => (nxt (uR t33 1344 0 (some 0)) (fun t34 => (gE (tE t34 3345 0) (nxt (uN t34 3345 0 200) (fun t35 => (nxt (uR t35 1345 0 (some 0)) (fun t36 => (B_X13_init_382  t36)))))))))))))))))))))))))))))))))))))))))
theorem TB_X13_init_310 {W : NW} {d : Nat} {Q : Option NV → TS → Prop} {a0 : Nat → Nat → Nat} {e0 : Nat → Nat → Bool} {bc bs : Nat} (hW : W.2.2.2 = (fun _ => false)) : ∀ (t : TS) , wp (B_X13_init_310 t) (fun r => Q none r) → nX W d tX13_init Q a0 e0 310 [some (eR (some (13, 0)))] [] t (bc + 41) (bs + 63656) := by
  intro t H
  unfold B_X13_init_310 at H
  refine nx_ld rfl rfl rfl rfl ?_
  refine nx_int (x := 200) rfl rfl ?_
  refine nx_newaL 3338 0 200 rfl rfl (Nat.le_of_ble_eq_true rfl) (Nat.le_of_ble_eq_true rfl) rfl rfl (by decide) (Nat.le_of_ble_eq_true rfl) (by omega) (by omega) H (fun t21 H => ?_)
  refine nx_eq (bc' := bc + 40) (bs' := bs + 63456) (by omega) (by omega) ?_
  refine nx_putR (f := 1338) (o := (some 0)) rfl rfl rfl (by decide) (by rw [hW]) rfl (by decide) H (fun t22 H => ?_)
  refine nx_ld rfl rfl rfl rfl ?_
  refine nx_int (x := 200) rfl rfl ?_
  refine nx_newaL 3339 0 200 rfl rfl (Nat.le_of_ble_eq_true rfl) (Nat.le_of_ble_eq_true rfl) rfl rfl (by decide) (Nat.le_of_ble_eq_true rfl) (by omega) (by omega) H (fun t23 H => ?_)
  refine nx_eq (bc' := bc + 39) (bs' := bs + 63256) (by omega) (by omega) ?_
  show nX _ _ _ _ _ _ 325 _ _ _ _ _
  refine nx_putR (f := 1339) (o := (some 0)) rfl rfl rfl (by decide) (by rw [hW]) rfl (by decide) H (fun t24 H => ?_)
  refine nx_ld rfl rfl rfl rfl ?_
  refine nx_int (x := 200) rfl rfl ?_
  refine nx_newaL 3340 0 200 rfl rfl (Nat.le_of_ble_eq_true rfl) (Nat.le_of_ble_eq_true rfl) rfl rfl (by decide) (Nat.le_of_ble_eq_true rfl) (by omega) (by omega) H (fun t25 H => ?_)
  refine nx_eq (bc' := bc + 38) (bs' := bs + 63056) (by omega) (by omega) ?_
  refine nx_putR (f := 1340) (o := (some 0)) rfl rfl rfl (by decide) (by rw [hW]) rfl (by decide) H (fun t26 H => ?_)
  refine nx_ld rfl rfl rfl rfl ?_
  refine nx_int (x := 200) rfl rfl ?_
  refine nx_newaL 3341 0 200 rfl rfl (Nat.le_of_ble_eq_true rfl) (Nat.le_of_ble_eq_true rfl) rfl rfl (by decide) (Nat.le_of_ble_eq_true rfl) (by omega) (by omega) H (fun t27 H => ?_)
  refine nx_eq (bc' := bc + 37) (bs' := bs + 62856) (by omega) (by omega) ?_
  show nX _ _ _ _ _ _ 343 _ _ _ _ _
  refine nx_putR (f := 1341) (o := (some 0)) rfl rfl rfl (by decide) (by rw [hW]) rfl (by decide) H (fun t28 H => ?_)
  refine nx_ld rfl rfl rfl rfl ?_
  refine nx_int (x := 200) rfl rfl ?_
  refine nx_newaL 3342 0 200 rfl rfl (Nat.le_of_ble_eq_true rfl) (Nat.le_of_ble_eq_true rfl) rfl rfl (by decide) (Nat.le_of_ble_eq_true rfl) (by omega) (by omega) H (fun t29 H => ?_)
  refine nx_eq (bc' := bc + 36) (bs' := bs + 62656) (by omega) (by omega) ?_
  refine nx_putR (f := 1342) (o := (some 0)) rfl rfl rfl (by decide) (by rw [hW]) rfl (by decide) H (fun t30 H => ?_)
  refine nx_ld rfl rfl rfl rfl ?_
  refine nx_int (x := 200) rfl rfl ?_
  refine nx_newaL 3343 0 200 rfl rfl (Nat.le_of_ble_eq_true rfl) (Nat.le_of_ble_eq_true rfl) rfl rfl (by decide) (Nat.le_of_ble_eq_true rfl) (by omega) (by omega) H (fun t31 H => ?_)
  refine nx_eq (bc' := bc + 35) (bs' := bs + 62456) (by omega) (by omega) ?_
  show nX _ _ _ _ _ _ 361 _ _ _ _ _
  refine nx_putR (f := 1343) (o := (some 0)) rfl rfl rfl (by decide) (by rw [hW]) rfl (by decide) H (fun t32 H => ?_)
  refine nx_ld rfl rfl rfl rfl ?_
  refine nx_int (x := 200) rfl rfl ?_
  refine nx_newaL 3344 0 200 rfl rfl (Nat.le_of_ble_eq_true rfl) (Nat.le_of_ble_eq_true rfl) rfl rfl (by decide) (Nat.le_of_ble_eq_true rfl) (by omega) (by omega) H (fun t33 H => ?_)
  refine nx_eq (bc' := bc + 34) (bs' := bs + 62256) (by omega) (by omega) ?_
  refine nx_putR (f := 1344) (o := (some 0)) rfl rfl rfl (by decide) (by rw [hW]) rfl (by decide) H (fun t34 H => ?_)
  refine nx_ld rfl rfl rfl rfl ?_
  refine nx_int (x := 200) rfl rfl ?_
  refine nx_newaL 3345 0 200 rfl rfl (Nat.le_of_ble_eq_true rfl) (Nat.le_of_ble_eq_true rfl) rfl rfl (by decide) (Nat.le_of_ble_eq_true rfl) (by omega) (by omega) H (fun t35 H => ?_)
  refine nx_eq (bc' := bc + 33) (bs' := bs + 62056) (by omega) (by omega) ?_
  show nX _ _ _ _ _ _ 379 _ _ _ _ _
  refine nx_putR (f := 1345) (o := (some 0)) rfl rfl rfl (by decide) (by rw [hW]) rfl (by decide) H (fun t36 H => ?_)
  refine nx_eq (bc' := (bc) + 33) (bs' := (bs) + 62056) (by omega) (by omega) ?_
  exact TB_X13_init_382 hW    _ H
def B_X13_init_238 (t : TS) : Option TS := (gE (tE t 3330 0) (nxt (uN t 3330 0 200) (fun t21 => (nxt (uR t21 1330 0 (some 0)) (fun t22 => (gE (tE t22 3331 0) (nxt (uN t22 3331 0 200) (fun t23 => (nxt (uR t23 1331 0 (some 0)) (fun t24 => (gE (tE t24 3332 0) (nxt (uN t24 3332 0 200) (fun t25 => (nxt (uR t25 1332 0 (some 0)) (fun t26 => (gE (tE t26 3333 0) (nxt (uN t26 3333 0 200) (fun t27 => (nxt (uR t27 1333 0 (some 0)) (fun t28 => (gE (tE t28 3334 0) (nxt (uN t28 3334 0 200) (fun t29 => (nxt (uR t29 1334 0 (some 0)) (fun t30 => (gE (tE t30 3335 0) (nxt (uN t30 3335 0 200) (fun t31 => (nxt (uR t31 1335 0 (some 0)) (fun t32 => (gE (tE t32 3336 0) (nxt (uN t32 3336 0 200) (fun t33 => (nxt (uR t33 1336 0 (some 0)) (fun t34 => (gE (tE t34 3337 0) (nxt (uN t34 3337 0 200) (fun t35 => (nxt (uR t35 1337 0 (some 0)) (fun t36 => (B_X13_init_310  t36)))))))))))))))))))))))))))))))))))))))))
theorem TB_X13_init_238 {W : NW} {d : Nat} {Q : Option NV → TS → Prop} {a0 : Nat → Nat → Nat} {e0 : Nat → Nat → Bool} {bc bs : Nat} (hW : W.2.2.2 = (fun _ => false)) : ∀ (t : TS) , wp (B_X13_init_238 t) (fun r => Q none r) → nX W d tX13_init Q a0 e0 238 [some (eR (some (13, 0)))] [] t (bc + 49) (bs + 65256) := by
  intro t H
  unfold B_X13_init_238 at H
  refine nx_ld rfl rfl rfl rfl ?_
  refine nx_int (x := 200) rfl rfl ?_
  refine nx_newaL 3330 0 200 rfl rfl (Nat.le_of_ble_eq_true rfl) (Nat.le_of_ble_eq_true rfl) rfl rfl (by decide) (Nat.le_of_ble_eq_true rfl) (by omega) (by omega) H (fun t21 H => ?_)
  refine nx_eq (bc' := bc + 48) (bs' := bs + 65056) (by omega) (by omega) ?_
  refine nx_putR (f := 1330) (o := (some 0)) rfl rfl rfl (by decide) (by rw [hW]) rfl (by decide) H (fun t22 H => ?_)
  refine nx_ld rfl rfl rfl rfl ?_
  refine nx_int (x := 200) rfl rfl ?_
  refine nx_newaL 3331 0 200 rfl rfl (Nat.le_of_ble_eq_true rfl) (Nat.le_of_ble_eq_true rfl) rfl rfl (by decide) (Nat.le_of_ble_eq_true rfl) (by omega) (by omega) H (fun t23 H => ?_)
  refine nx_eq (bc' := bc + 47) (bs' := bs + 64856) (by omega) (by omega) ?_
  show nX _ _ _ _ _ _ 253 _ _ _ _ _
  refine nx_putR (f := 1331) (o := (some 0)) rfl rfl rfl (by decide) (by rw [hW]) rfl (by decide) H (fun t24 H => ?_)
  refine nx_ld rfl rfl rfl rfl ?_
  refine nx_int (x := 200) rfl rfl ?_
  refine nx_newaL 3332 0 200 rfl rfl (Nat.le_of_ble_eq_true rfl) (Nat.le_of_ble_eq_true rfl) rfl rfl (by decide) (Nat.le_of_ble_eq_true rfl) (by omega) (by omega) H (fun t25 H => ?_)
  refine nx_eq (bc' := bc + 46) (bs' := bs + 64656) (by omega) (by omega) ?_
  refine nx_putR (f := 1332) (o := (some 0)) rfl rfl rfl (by decide) (by rw [hW]) rfl (by decide) H (fun t26 H => ?_)
  refine nx_ld rfl rfl rfl rfl ?_
  refine nx_int (x := 200) rfl rfl ?_
  refine nx_newaL 3333 0 200 rfl rfl (Nat.le_of_ble_eq_true rfl) (Nat.le_of_ble_eq_true rfl) rfl rfl (by decide) (Nat.le_of_ble_eq_true rfl) (by omega) (by omega) H (fun t27 H => ?_)
  refine nx_eq (bc' := bc + 45) (bs' := bs + 64456) (by omega) (by omega) ?_
  show nX _ _ _ _ _ _ 271 _ _ _ _ _
  refine nx_putR (f := 1333) (o := (some 0)) rfl rfl rfl (by decide) (by rw [hW]) rfl (by decide) H (fun t28 H => ?_)
  refine nx_ld rfl rfl rfl rfl ?_
  refine nx_int (x := 200) rfl rfl ?_
  refine nx_newaL 3334 0 200 rfl rfl (Nat.le_of_ble_eq_true rfl) (Nat.le_of_ble_eq_true rfl) rfl rfl (by decide) (Nat.le_of_ble_eq_true rfl) (by omega) (by omega) H (fun t29 H => ?_)
  refine nx_eq (bc' := bc + 44) (bs' := bs + 64256) (by omega) (by omega) ?_
  refine nx_putR (f := 1334) (o := (some 0)) rfl rfl rfl (by decide) (by rw [hW]) rfl (by decide) H (fun t30 H => ?_)
  refine nx_ld rfl rfl rfl rfl ?_
  refine nx_int (x := 200) rfl rfl ?_
  refine nx_newaL 3335 0 200 rfl rfl (Nat.le_of_ble_eq_true rfl) (Nat.le_of_ble_eq_true rfl) rfl rfl (by decide) (Nat.le_of_ble_eq_true rfl) (by omega) (by omega) H (fun t31 H => ?_)
  refine nx_eq (bc' := bc + 43) (bs' := bs + 64056) (by omega) (by omega) ?_
  show nX _ _ _ _ _ _ 289 _ _ _ _ _
  refine nx_putR (f := 1335) (o := (some 0)) rfl rfl rfl (by decide) (by rw [hW]) rfl (by decide) H (fun t32 H => ?_)
  refine nx_ld rfl rfl rfl rfl ?_
  refine nx_int (x := 200) rfl rfl ?_
  refine nx_newaL 3336 0 200 rfl rfl (Nat.le_of_ble_eq_true rfl) (Nat.le_of_ble_eq_true rfl) rfl rfl (by decide) (Nat.le_of_ble_eq_true rfl) (by omega) (by omega) H (fun t33 H => ?_)
  refine nx_eq (bc' := bc + 42) (bs' := bs + 63856) (by omega) (by omega) ?_
  refine nx_putR (f := 1336) (o := (some 0)) rfl rfl rfl (by decide) (by rw [hW]) rfl (by decide) H (fun t34 H => ?_)
  refine nx_ld rfl rfl rfl rfl ?_
  refine nx_int (x := 200) rfl rfl ?_
  refine nx_newaL 3337 0 200 rfl rfl (Nat.le_of_ble_eq_true rfl) (Nat.le_of_ble_eq_true rfl) rfl rfl (by decide) (Nat.le_of_ble_eq_true rfl) (by omega) (by omega) H (fun t35 H => ?_)
  refine nx_eq (bc' := bc + 41) (bs' := bs + 63656) (by omega) (by omega) ?_
  show nX _ _ _ _ _ _ 307 _ _ _ _ _
  refine nx_putR (f := 1337) (o := (some 0)) rfl rfl rfl (by decide) (by rw [hW]) rfl (by decide) H (fun t36 H => ?_)
  refine nx_eq (bc' := (bc) + 41) (bs' := (bs) + 63656) (by omega) (by omega) ?_
  exact TB_X13_init_310 hW    _ H
def B_X13_init_166 (t : TS) : Option TS := (gE (tE t 3321 0) (nxt (uN t 3321 0 600) (fun t21 => (nxt (uR t21 1321 0 (some 0)) (fun t22 => (gE (tE t22 3322 0) (nxt (uN t22 3322 0 600) (fun t23 => (nxt (uR t23 1322 0 (some 0)) (fun t24 => (gE (tE t24 3323 0) (nxt (uN t24 3323 0 600) (fun t25 => (nxt (uR t25 1323 0 (some 0)) (fun t26 => (gE (tE t26 3324 0) (nxt (uN t26 3324 0 600) (fun t27 => (nxt (uR t27 1324 0 (some 0)) (fun t28 => (gE (tE t28 3325 0) (nxt (uN t28 3325 0 150) (fun t29 => (nxt (uR t29 1325 0 (some 0)) (fun t30 => (gE (tE t30 3326 0) (nxt (uN t30 3326 0 600) (fun t31 => (nxt (uR t31 1326 0 (some 0)) (fun t32 => (gE (tE t32 3328 0) (nxt (uN t32 3328 0 200) (fun t33 => (nxt (uR t33 1328 0 (some 0)) (fun t34 => (gE (tE t34 3329 0) (nxt (uN t34 3329 0 200) (fun t35 => (nxt (uR t35 1329 0 (some 0)) (fun t36 => (B_X13_init_238  t36)))))))))))))))))))))))))))))))))))))))))
theorem TB_X13_init_166 {W : NW} {d : Nat} {Q : Option NV → TS → Prop} {a0 : Nat → Nat → Nat} {e0 : Nat → Nat → Bool} {bc bs : Nat} (hW : W.2.2.2 = (fun _ => false)) : ∀ (t : TS) , wp (B_X13_init_166 t) (fun r => Q none r) → nX W d tX13_init Q a0 e0 166 [some (eR (some (13, 0)))] [] t (bc + 57) (bs + 68806) := by
  intro t H
  unfold B_X13_init_166 at H
  refine nx_ld rfl rfl rfl rfl ?_
  refine nx_int (x := 600) rfl rfl ?_
  refine nx_newaL 3321 0 600 rfl rfl (Nat.le_of_ble_eq_true rfl) (Nat.le_of_ble_eq_true rfl) rfl rfl (by decide) (Nat.le_of_ble_eq_true rfl) (by omega) (by omega) H (fun t21 H => ?_)
  refine nx_eq (bc' := bc + 56) (bs' := bs + 68206) (by omega) (by omega) ?_
  refine nx_putR (f := 1321) (o := (some 0)) rfl rfl rfl (by decide) (by rw [hW]) rfl (by decide) H (fun t22 H => ?_)
  refine nx_ld rfl rfl rfl rfl ?_
  refine nx_int (x := 600) rfl rfl ?_
  refine nx_newaL 3322 0 600 rfl rfl (Nat.le_of_ble_eq_true rfl) (Nat.le_of_ble_eq_true rfl) rfl rfl (by decide) (Nat.le_of_ble_eq_true rfl) (by omega) (by omega) H (fun t23 H => ?_)
  refine nx_eq (bc' := bc + 55) (bs' := bs + 67606) (by omega) (by omega) ?_
  show nX _ _ _ _ _ _ 181 _ _ _ _ _
  refine nx_putR (f := 1322) (o := (some 0)) rfl rfl rfl (by decide) (by rw [hW]) rfl (by decide) H (fun t24 H => ?_)
  refine nx_ld rfl rfl rfl rfl ?_
  refine nx_int (x := 600) rfl rfl ?_
  refine nx_newaL 3323 0 600 rfl rfl (Nat.le_of_ble_eq_true rfl) (Nat.le_of_ble_eq_true rfl) rfl rfl (by decide) (Nat.le_of_ble_eq_true rfl) (by omega) (by omega) H (fun t25 H => ?_)
  refine nx_eq (bc' := bc + 54) (bs' := bs + 67006) (by omega) (by omega) ?_
  refine nx_putR (f := 1323) (o := (some 0)) rfl rfl rfl (by decide) (by rw [hW]) rfl (by decide) H (fun t26 H => ?_)
  refine nx_ld rfl rfl rfl rfl ?_
  refine nx_int (x := 600) rfl rfl ?_
  refine nx_newaL 3324 0 600 rfl rfl (Nat.le_of_ble_eq_true rfl) (Nat.le_of_ble_eq_true rfl) rfl rfl (by decide) (Nat.le_of_ble_eq_true rfl) (by omega) (by omega) H (fun t27 H => ?_)
  refine nx_eq (bc' := bc + 53) (bs' := bs + 66406) (by omega) (by omega) ?_
  show nX _ _ _ _ _ _ 199 _ _ _ _ _
  refine nx_putR (f := 1324) (o := (some 0)) rfl rfl rfl (by decide) (by rw [hW]) rfl (by decide) H (fun t28 H => ?_)
  refine nx_ld rfl rfl rfl rfl ?_
  refine nx_int (x := 150) rfl rfl ?_
  refine nx_newaL 3325 0 150 rfl rfl (Nat.le_of_ble_eq_true rfl) (Nat.le_of_ble_eq_true rfl) rfl rfl (by decide) (Nat.le_of_ble_eq_true rfl) (by omega) (by omega) H (fun t29 H => ?_)
  refine nx_eq (bc' := bc + 52) (bs' := bs + 66256) (by omega) (by omega) ?_
  refine nx_putR (f := 1325) (o := (some 0)) rfl rfl rfl (by decide) (by rw [hW]) rfl (by decide) H (fun t30 H => ?_)
  refine nx_ld rfl rfl rfl rfl ?_
  refine nx_int (x := 600) rfl rfl ?_
  refine nx_newaL 3326 0 600 rfl rfl (Nat.le_of_ble_eq_true rfl) (Nat.le_of_ble_eq_true rfl) rfl rfl (by decide) (Nat.le_of_ble_eq_true rfl) (by omega) (by omega) H (fun t31 H => ?_)
  refine nx_eq (bc' := bc + 51) (bs' := bs + 65656) (by omega) (by omega) ?_
  show nX _ _ _ _ _ _ 217 _ _ _ _ _
  refine nx_putR (f := 1326) (o := (some 0)) rfl rfl rfl (by decide) (by rw [hW]) rfl (by decide) H (fun t32 H => ?_)
  refine nx_ld rfl rfl rfl rfl ?_
  refine nx_int (x := 200) rfl rfl ?_
  refine nx_newaL 3328 0 200 rfl rfl (Nat.le_of_ble_eq_true rfl) (Nat.le_of_ble_eq_true rfl) rfl rfl (by decide) (Nat.le_of_ble_eq_true rfl) (by omega) (by omega) H (fun t33 H => ?_)
  refine nx_eq (bc' := bc + 50) (bs' := bs + 65456) (by omega) (by omega) ?_
  refine nx_putR (f := 1328) (o := (some 0)) rfl rfl rfl (by decide) (by rw [hW]) rfl (by decide) H (fun t34 H => ?_)
  refine nx_ld rfl rfl rfl rfl ?_
  refine nx_int (x := 200) rfl rfl ?_
  refine nx_newaL 3329 0 200 rfl rfl (Nat.le_of_ble_eq_true rfl) (Nat.le_of_ble_eq_true rfl) rfl rfl (by decide) (Nat.le_of_ble_eq_true rfl) (by omega) (by omega) H (fun t35 H => ?_)
  refine nx_eq (bc' := bc + 49) (bs' := bs + 65256) (by omega) (by omega) ?_
  show nX _ _ _ _ _ _ 235 _ _ _ _ _
  refine nx_putR (f := 1329) (o := (some 0)) rfl rfl rfl (by decide) (by rw [hW]) rfl (by decide) H (fun t36 H => ?_)
  refine nx_eq (bc' := (bc) + 49) (bs' := (bs) + 65256) (by omega) (by omega) ?_
  exact TB_X13_init_238 hW    _ H
def B_X13_init_94 (t : TS) : Option TS := (gE (tE t 3312 0) (nxt (uN t 3312 0 150) (fun t21 => (nxt (uR t21 1312 0 (some 0)) (fun t22 => (gE (tE t22 3313 0) (nxt (uN t22 3313 0 150) (fun t23 => (nxt (uR t23 1313 0 (some 0)) (fun t24 => (gE (tE t24 3314 0) (nxt (uN t24 3314 0 150) (fun t25 => (nxt (uR t25 1314 0 (some 0)) (fun t26 => (gE (tE t26 3315 0) (nxt (uN t26 3315 0 150) (fun t27 => (nxt (uR t27 1315 0 (some 0)) (fun t28 => (gE (tE t28 3317 0) (nxt (uN t28 3317 0 600) (fun t29 => (nxt (uR t29 1317 0 (some 0)) (fun t30 => (gE (tE t30 3318 0) (nxt (uN t30 3318 0 600) (fun t31 => (nxt (uR t31 1318 0 (some 0)) (fun t32 => (gE (tE t32 3319 0) (nxt (uN t32 3319 0 600) (fun t33 => (nxt (uR t33 1319 0 (some 0)) (fun t34 => (gE (tE t34 3320 0) (nxt (uN t34 3320 0 600) (fun t35 => (nxt (uR t35 1320 0 (some 0)) (fun t36 => (B_X13_init_166  t36)))))))))))))))))))))))))))))))))))))))))
theorem TB_X13_init_94 {W : NW} {d : Nat} {Q : Option NV → TS → Prop} {a0 : Nat → Nat → Nat} {e0 : Nat → Nat → Bool} {bc bs : Nat} (hW : W.2.2.2 = (fun _ => false)) : ∀ (t : TS) , wp (B_X13_init_94 t) (fun r => Q none r) → nX W d tX13_init Q a0 e0 94 [some (eR (some (13, 0)))] [] t (bc + 65) (bs + 71806) := by
  intro t H
  unfold B_X13_init_94 at H
  refine nx_ld rfl rfl rfl rfl ?_
  refine nx_int (x := 150) rfl rfl ?_
  refine nx_newaL 3312 0 150 rfl rfl (Nat.le_of_ble_eq_true rfl) (Nat.le_of_ble_eq_true rfl) rfl rfl (by decide) (Nat.le_of_ble_eq_true rfl) (by omega) (by omega) H (fun t21 H => ?_)
  refine nx_eq (bc' := bc + 64) (bs' := bs + 71656) (by omega) (by omega) ?_
  refine nx_putR (f := 1312) (o := (some 0)) rfl rfl rfl (by decide) (by rw [hW]) rfl (by decide) H (fun t22 H => ?_)
  refine nx_ld rfl rfl rfl rfl ?_
  refine nx_int (x := 150) rfl rfl ?_
  refine nx_newaL 3313 0 150 rfl rfl (Nat.le_of_ble_eq_true rfl) (Nat.le_of_ble_eq_true rfl) rfl rfl (by decide) (Nat.le_of_ble_eq_true rfl) (by omega) (by omega) H (fun t23 H => ?_)
  refine nx_eq (bc' := bc + 63) (bs' := bs + 71506) (by omega) (by omega) ?_
  show nX _ _ _ _ _ _ 109 _ _ _ _ _
  refine nx_putR (f := 1313) (o := (some 0)) rfl rfl rfl (by decide) (by rw [hW]) rfl (by decide) H (fun t24 H => ?_)
  refine nx_ld rfl rfl rfl rfl ?_
  refine nx_int (x := 150) rfl rfl ?_
  refine nx_newaL 3314 0 150 rfl rfl (Nat.le_of_ble_eq_true rfl) (Nat.le_of_ble_eq_true rfl) rfl rfl (by decide) (Nat.le_of_ble_eq_true rfl) (by omega) (by omega) H (fun t25 H => ?_)
  refine nx_eq (bc' := bc + 62) (bs' := bs + 71356) (by omega) (by omega) ?_
  refine nx_putR (f := 1314) (o := (some 0)) rfl rfl rfl (by decide) (by rw [hW]) rfl (by decide) H (fun t26 H => ?_)
  refine nx_ld rfl rfl rfl rfl ?_
  refine nx_int (x := 150) rfl rfl ?_
  refine nx_newaL 3315 0 150 rfl rfl (Nat.le_of_ble_eq_true rfl) (Nat.le_of_ble_eq_true rfl) rfl rfl (by decide) (Nat.le_of_ble_eq_true rfl) (by omega) (by omega) H (fun t27 H => ?_)
  refine nx_eq (bc' := bc + 61) (bs' := bs + 71206) (by omega) (by omega) ?_
  show nX _ _ _ _ _ _ 127 _ _ _ _ _
  refine nx_putR (f := 1315) (o := (some 0)) rfl rfl rfl (by decide) (by rw [hW]) rfl (by decide) H (fun t28 H => ?_)
  refine nx_ld rfl rfl rfl rfl ?_
  refine nx_int (x := 600) rfl rfl ?_
  refine nx_newaL 3317 0 600 rfl rfl (Nat.le_of_ble_eq_true rfl) (Nat.le_of_ble_eq_true rfl) rfl rfl (by decide) (Nat.le_of_ble_eq_true rfl) (by omega) (by omega) H (fun t29 H => ?_)
  refine nx_eq (bc' := bc + 60) (bs' := bs + 70606) (by omega) (by omega) ?_
  refine nx_putR (f := 1317) (o := (some 0)) rfl rfl rfl (by decide) (by rw [hW]) rfl (by decide) H (fun t30 H => ?_)
  refine nx_ld rfl rfl rfl rfl ?_
  refine nx_int (x := 600) rfl rfl ?_
  refine nx_newaL 3318 0 600 rfl rfl (Nat.le_of_ble_eq_true rfl) (Nat.le_of_ble_eq_true rfl) rfl rfl (by decide) (Nat.le_of_ble_eq_true rfl) (by omega) (by omega) H (fun t31 H => ?_)
  refine nx_eq (bc' := bc + 59) (bs' := bs + 70006) (by omega) (by omega) ?_
  show nX _ _ _ _ _ _ 145 _ _ _ _ _
  refine nx_putR (f := 1318) (o := (some 0)) rfl rfl rfl (by decide) (by rw [hW]) rfl (by decide) H (fun t32 H => ?_)
  refine nx_ld rfl rfl rfl rfl ?_
  refine nx_int (x := 600) rfl rfl ?_
  refine nx_newaL 3319 0 600 rfl rfl (Nat.le_of_ble_eq_true rfl) (Nat.le_of_ble_eq_true rfl) rfl rfl (by decide) (Nat.le_of_ble_eq_true rfl) (by omega) (by omega) H (fun t33 H => ?_)
  refine nx_eq (bc' := bc + 58) (bs' := bs + 69406) (by omega) (by omega) ?_
  refine nx_putR (f := 1319) (o := (some 0)) rfl rfl rfl (by decide) (by rw [hW]) rfl (by decide) H (fun t34 H => ?_)
  refine nx_ld rfl rfl rfl rfl ?_
  refine nx_int (x := 600) rfl rfl ?_
  refine nx_newaL 3320 0 600 rfl rfl (Nat.le_of_ble_eq_true rfl) (Nat.le_of_ble_eq_true rfl) rfl rfl (by decide) (Nat.le_of_ble_eq_true rfl) (by omega) (by omega) H (fun t35 H => ?_)
  refine nx_eq (bc' := bc + 57) (bs' := bs + 68806) (by omega) (by omega) ?_
  show nX _ _ _ _ _ _ 163 _ _ _ _ _
  refine nx_putR (f := 1320) (o := (some 0)) rfl rfl rfl (by decide) (by rw [hW]) rfl (by decide) H (fun t36 H => ?_)
  refine nx_eq (bc' := (bc) + 57) (bs' := (bs) + 68806) (by omega) (by omega) ?_
  exact TB_X13_init_166 hW    _ H
def F_X13_init (t : TS) : Option TS := (gE (tE t 3303 0) (nxt (uN t 3303 0 4) (fun t21 => (nxt (uR t21 1303 0 (some 0)) (fun t22 => (gE (tE t22 3304 0) (nxt (uN t22 3304 0 24) (fun t23 => (nxt (uR t23 1304 0 (some 0)) (fun t24 => (gE (tE t24 3305 0) (nxt (uN t24 3305 0 24) (fun t25 => (nxt (uR t25 1305 0 (some 0)) (fun t26 => (gE (tE t26 3306 0) (nxt (uN t26 3306 0 4) (fun t27 => (gd (0 : Int32) (tL t27 3306 0) (nxt (uA t27 3306 0 (0 : Int32).toNatClampNeg 1439) (fun t28 => (gd (1 : Int32) (tL t28 3306 0) (nxt (uA t28 3306 0 (1 : Int32).toNatClampNeg 1439) (fun t29 => (gd (2 : Int32) (tL t29 3306 0) (nxt (uA t29 3306 0 (2 : Int32).toNatClampNeg 1439) (fun t30 => (gd (3 : Int32) (tL t30 3306 0) (nxt (uA t30 3306 0 (3 : Int32).toNatClampNeg 1439) (fun t31 => (nxt (uR t31 1306 0 (some 0)) (fun t32 => (gE (tE t32 3308 0) (nxt (uN t32 3308 0 150) (fun t33 => (nxt (uR t33 1308 0 (some 0)) (fun t34 => (gE (tE t34 3309 0) (nxt (uN t34 3309 0 150) (fun t35 => (nxt (uR t35 1309 0 (some 0)) (fun t36 => (gE (tE t36 3310 0) (nxt (uN t36 3310 0 150) (fun t37 => (nxt (uR t37 1310 0 (some 0)) (fun t38 => (gE (tE t38 3311 0) (nxt (uN t38 3311 0 1500) (fun t39 => (nxt (uR t39 1311 0 (some 0)) (fun t40 => (B_X13_init_94  t40)))))))))))))))))))))))))))))))))))))))))))))))))))))
theorem TF_X13_init {W : NW} {d : Nat} {t : TS} {Q : Option NV → TS → Prop} {bc bs : Nat} (hW : W.2.2.2 = (fun _ => false)) (H : wp (F_X13_init t) (fun r => Q none r)) : nC W (d + 1) 154 [eR (some (13, 0))] t (bc + 73) (bs + 73812) Q := by
  refine nC_in (d := d) (T := tX13_init) (ls := [some (eR (some (13, 0)))]) rfl (Nat.le_of_ble_eq_true rfl) rfl (fun a0 e0 => ?_)
  unfold F_X13_init at H
  refine nx_ld rfl rfl rfl rfl ?_
  refine nx_objI rfl rfl (Nat.le_of_ble_eq_true rfl) ?_
  refine nx_ld rfl rfl rfl rfl ?_
  refine nx_int (x := 4) rfl rfl ?_
  refine nx_newaL 3303 0 4 rfl rfl (Nat.le_of_ble_eq_true rfl) (Nat.le_of_ble_eq_true rfl) rfl rfl (by decide) (Nat.le_of_ble_eq_true rfl) (by omega) (by omega) H (fun t21 H => ?_)
  refine nx_eq (bc' := bc + 72) (bs' := bs + 73808) (by omega) (by omega) ?_
  refine nx_putR (f := 1303) (o := (some 0)) rfl rfl rfl (by decide) (by rw [hW]) rfl (by decide) H (fun t22 H => ?_)
  refine nx_ld rfl rfl rfl rfl ?_
  show nX _ _ _ _ _ _ 12 _ _ _ _ _
  refine nx_int (x := 24) rfl rfl ?_
  refine nx_newaL 3304 0 24 rfl rfl (Nat.le_of_ble_eq_true rfl) (Nat.le_of_ble_eq_true rfl) rfl rfl (by decide) (Nat.le_of_ble_eq_true rfl) (by omega) (by omega) H (fun t23 H => ?_)
  refine nx_eq (bc' := bc + 71) (bs' := bs + 73784) (by omega) (by omega) ?_
  refine nx_putR (f := 1304) (o := (some 0)) rfl rfl rfl (by decide) (by rw [hW]) rfl (by decide) H (fun t24 H => ?_)
  refine nx_ld rfl rfl rfl rfl ?_
  refine nx_int (x := 24) rfl rfl ?_
  refine nx_newaL 3305 0 24 rfl rfl (Nat.le_of_ble_eq_true rfl) (Nat.le_of_ble_eq_true rfl) rfl rfl (by decide) (Nat.le_of_ble_eq_true rfl) (by omega) (by omega) H (fun t25 H => ?_)
  refine nx_eq (bc' := bc + 70) (bs' := bs + 73760) (by omega) (by omega) ?_
  refine nx_putR (f := 1305) (o := (some 0)) rfl rfl rfl (by decide) (by rw [hW]) rfl (by decide) H (fun t26 H => ?_)
  refine nx_ld rfl rfl rfl rfl ?_
  show nX _ _ _ _ _ _ 28 _ _ _ _ _
  refine nx_int (x := 4) rfl rfl ?_
  refine nx_newaL 3306 0 4 rfl rfl (Nat.le_of_ble_eq_true rfl) (Nat.le_of_ble_eq_true rfl) rfl rfl (by decide) (Nat.le_of_ble_eq_true rfl) (by omega) (by omega) H (fun t27 H => ?_)
  refine nx_eq (bc' := bc + 69) (bs' := bs + 73756) (by omega) (by omega) ?_
  refine nx_dup rfl rfl (Nat.ne_of_beq_eq_false rfl) ?_
  refine nx_int (x := 0) rfl rfl ?_
  refine nx_int (x := 1439) rfl rfl ?_
  refine nx_iast (p := (3306, 0)) rfl rfl (Nat.le_of_ble_eq_true rfl) (Nat.le_of_ble_eq_true rfl) rfl H (fun t28 H => ?_)
  refine nx_dup rfl rfl (Nat.ne_of_beq_eq_false rfl) ?_
  refine nx_int (x := 1) rfl rfl ?_
  show nX _ _ _ _ _ _ 39 _ _ _ _ _
  refine nx_int (x := 1439) rfl rfl ?_
  refine nx_iast (p := (3306, 0)) rfl rfl (Nat.le_of_ble_eq_true rfl) (Nat.le_of_ble_eq_true rfl) rfl H (fun t29 H => ?_)
  refine nx_dup rfl rfl (Nat.ne_of_beq_eq_false rfl) ?_
  refine nx_int (x := 2) rfl rfl ?_
  refine nx_int (x := 1439) rfl rfl ?_
  refine nx_iast (p := (3306, 0)) rfl rfl (Nat.le_of_ble_eq_true rfl) (Nat.le_of_ble_eq_true rfl) rfl H (fun t30 H => ?_)
  refine nx_dup rfl rfl (Nat.ne_of_beq_eq_false rfl) ?_
  refine nx_int (x := 3) rfl rfl ?_
  show nX _ _ _ _ _ _ 51 _ _ _ _ _
  refine nx_int (x := 1439) rfl rfl ?_
  refine nx_iast (p := (3306, 0)) rfl rfl (Nat.le_of_ble_eq_true rfl) (Nat.le_of_ble_eq_true rfl) rfl H (fun t31 H => ?_)
  refine nx_putR (f := 1306) (o := (some 0)) rfl rfl rfl (by decide) (by rw [hW]) rfl (by decide) H (fun t32 H => ?_)
  refine nx_ld rfl rfl rfl rfl ?_
  refine nx_int (x := 150) rfl rfl ?_
  refine nx_newaL 3308 0 150 rfl rfl (Nat.le_of_ble_eq_true rfl) (Nat.le_of_ble_eq_true rfl) rfl rfl (by decide) (Nat.le_of_ble_eq_true rfl) (by omega) (by omega) H (fun t33 H => ?_)
  refine nx_eq (bc' := bc + 68) (bs' := bs + 73606) (by omega) (by omega) ?_
  refine nx_putR (f := 1308) (o := (some 0)) rfl rfl rfl (by decide) (by rw [hW]) rfl (by decide) H (fun t34 H => ?_)
  refine nx_ld rfl rfl rfl rfl ?_
  show nX _ _ _ _ _ _ 68 _ _ _ _ _
  refine nx_int (x := 150) rfl rfl ?_
  refine nx_newaL 3309 0 150 rfl rfl (Nat.le_of_ble_eq_true rfl) (Nat.le_of_ble_eq_true rfl) rfl rfl (by decide) (Nat.le_of_ble_eq_true rfl) (by omega) (by omega) H (fun t35 H => ?_)
  refine nx_eq (bc' := bc + 67) (bs' := bs + 73456) (by omega) (by omega) ?_
  refine nx_putR (f := 1309) (o := (some 0)) rfl rfl rfl (by decide) (by rw [hW]) rfl (by decide) H (fun t36 H => ?_)
  refine nx_ld rfl rfl rfl rfl ?_
  refine nx_int (x := 150) rfl rfl ?_
  refine nx_newaL 3310 0 150 rfl rfl (Nat.le_of_ble_eq_true rfl) (Nat.le_of_ble_eq_true rfl) rfl rfl (by decide) (Nat.le_of_ble_eq_true rfl) (by omega) (by omega) H (fun t37 H => ?_)
  refine nx_eq (bc' := bc + 66) (bs' := bs + 73306) (by omega) (by omega) ?_
  refine nx_putR (f := 1310) (o := (some 0)) rfl rfl rfl (by decide) (by rw [hW]) rfl (by decide) H (fun t38 H => ?_)
  refine nx_ld rfl rfl rfl rfl ?_
  show nX _ _ _ _ _ _ 86 _ _ _ _ _
  refine nx_int (x := 1500) rfl rfl ?_
  refine nx_newaL 3311 0 1500 rfl rfl (Nat.le_of_ble_eq_true rfl) (Nat.le_of_ble_eq_true rfl) rfl rfl (by decide) (Nat.le_of_ble_eq_true rfl) (by omega) (by omega) H (fun t39 H => ?_)
  refine nx_eq (bc' := bc + 65) (bs' := bs + 71806) (by omega) (by omega) ?_
  refine nx_putR (f := 1311) (o := (some 0)) rfl rfl rfl (by decide) (by rw [hW]) rfl (by decide) H (fun t40 H => ?_)
  refine nx_eq (bc' := (bc) + 65) (bs' := (bs) + 71806) (by omega) (by omega) ?_
  exact TB_X13_init_94 hW    _ H
def F_X13_in (t : TS) (x1 : Int32) (x2 : Int32) (x3 : Int32) : Option Int32 := (if x1 < x2 then (some (0)) else (if x3 < x1 then (some (0)) else (some (1))))
theorem TF_X13_in {W : NW} {d : Nat} {t : TS} {x1 : Int32} {x2 : Int32} {x3 : Int32} {Q : Option NV → TS → Prop} {bc bs : Nat} (hW : W.2.2.2 = mm_fx) (H : wp (F_X13_in t x1 x2 x3) (fun r => Q (some (eI r)) t)) : nC W (d + 1) 155 [eI x1, eI x2, eI x3] t bc bs Q := by
  refine nC_in (d := d) (T := tX13_in) (ls := [some (eI x1), some (eI x2), some (eI x3)]) rfl (Nat.le_of_ble_eq_true rfl) rfl (fun a0 e0 => ?_)
  unfold F_X13_in at H
  refine nx_ld rfl rfl rfl rfl ?_
  refine nx_ld rfl rfl rfl rfl ?_
  refine nx_icmp rfl rfl (by rfl) H (fun H => ?_) (fun H => ?_)
  · refine nx_int (x := 0) rfl rfl ?_
    exact nx_rzl rfl rfl (by decide) H
  refine nx_ld rfl rfl rfl rfl ?_
  refine nx_ld rfl rfl rfl rfl ?_
  refine nx_icmp rfl rfl (by rfl) H (fun H => ?_) (fun H => ?_)
  · refine nx_int (x := 0) rfl rfl ?_
    exact nx_rzl rfl rfl (by decide) H
  refine nx_int (x := 1) rfl rfl ?_
  refine nx_goto rfl rfl ?_
  exact nx_rzl rfl rfl (by decide) H
def F_X13_isDay (t : TS) (x1 : Int32) : Option Int32 := (Option.bind (F_X13_in t x1 0 2999) (fun r21 => (gb r21 (some (r21)))))
theorem TF_X13_isDay {W : NW} {d : Nat} {t : TS} {x1 : Int32} {Q : Option NV → TS → Prop} {bc bs : Nat} (hW : W.2.2.2 = mm_fx) (H : wp (F_X13_isDay t x1) (fun r => Q (some (eI r)) t)) : nC W (d + 2) 156 [eI x1] t bc bs Q := by
  refine nC_in (d := (d + 1)) (T := tX13_isDay) (ls := [some (eI x1)]) rfl (Nat.le_of_ble_eq_true rfl) rfl (fun a0 e0 => ?_)
  unfold F_X13_isDay at H
  refine nx_ld rfl rfl rfl rfl ?_
  refine nx_int (x := 0) rfl rfl ?_
  refine nx_int (x := 2999) rfl rfl ?_
  refine nx_cSI (as := [eI x1, eI 0, eI 2999]) (st' := []) rfl rfl (Nat.le_of_ble_eq_true rfl) rfl rfl (Nat.le_of_ble_eq_true rfl) H (fun Q H => TF_X13_in hW  H) (fun r21 H => ?_)
  exact nx_rz rfl rfl H
def F_X13_days (t : TS) (x1 : Int32) : Option (Int32 × TS) := (Option.bind (F_X13_in t x1 1 300) (fun r21 => (if r21 = 0 then (some ((-1), t)) else (if ((tI t 1301 0) + x1) ≤ 2999 then (nxt (uI t 1301 0 ((tI t 1301 0) + x1)) (fun t22 => (nxt (uI t22 1302 0 0) (fun t23 => (some ((tI t23 1301 0), t23)))))) else (some ((-1), t))))))
theorem TF_X13_days {W : NW} {d : Nat} {t : TS} {x1 : Int32} {Q : Option NV → TS → Prop} {bc bs : Nat} (hW : W.2.2.2 = mm_fx) (H : wp (F_X13_days t x1) (fun r => Q (some (eI r.1)) r.2)) : nC W (d + 2) 157 [eR (some (13, 0)), eI x1] t bc bs Q := by
  refine nC_in (d := (d + 1)) (T := tX13_days) (ls := [some (eR (some (13, 0))), some (eI x1)]) rfl (Nat.le_of_ble_eq_true rfl) rfl (fun a0 e0 => ?_)
  unfold F_X13_days at H
  refine nx_ld rfl rfl rfl rfl ?_
  refine nx_int (x := 1) rfl rfl ?_
  refine nx_int (x := 300) rfl rfl ?_
  refine nx_cSI (as := [eI x1, eI 1, eI 300]) (st' := []) rfl rfl (Nat.le_of_ble_eq_true rfl) rfl rfl (Nat.le_of_ble_eq_true rfl) H (fun Q H => TF_X13_in hW  H) (fun r21 H => ?_)
  refine nx_if rfl rfl (by rfl) H (fun H => ?_) (fun H => ?_)
  · refine nx_int (x := (-1)) rfl rfl ?_
    exact nx_rit rfl rfl H
  refine nx_ld rfl rfl rfl rfl ?_
  refine nx_getI rfl rfl rfl (by decide) ?_
  refine nx_ld rfl rfl rfl rfl ?_
  refine nx_ii rfl rfl ?_
  refine nx_int (x := 2999) rfl rfl ?_
  refine nx_icmp rfl rfl (by rfl) H (fun H => ?_) (fun H => ?_)
  · refine nx_ld rfl rfl rfl rfl ?_
    refine nx_dup rfl rfl (Nat.ne_of_beq_eq_false rfl) ?_
    refine nx_getI rfl rfl rfl (by decide) ?_
    refine nx_ld rfl rfl rfl rfl ?_
    refine nx_ii rfl rfl ?_
    refine nx_putI rfl rfl rfl (by decide) H (fun t22 H => ?_)
    refine nx_ld rfl rfl rfl rfl ?_
    show nX _ _ _ _ _ _ 36 _ _ _ _ _
    refine nx_int (x := 0) rfl rfl ?_
    refine nx_putI rfl rfl rfl (by decide) H (fun t23 H => ?_)
    refine nx_ld rfl rfl rfl rfl ?_
    refine nx_getI rfl rfl rfl (by decide) ?_
    exact nx_rit rfl rfl H
  refine nx_int (x := (-1)) rfl rfl ?_
  exact nx_rit rfl rfl H
def F_X13_minute (t : TS) (x1 : Int32) : Option (Int32 × TS) := (Option.bind (F_X13_in t x1 (tI t 1302 0) 1439) (fun r21 => (if ¬ r21 = 0 then (nxt (uI t 1302 0 x1) (fun t22 => (some ((tI t 1302 0), t22)))) else (some ((-1), t)))))
theorem TF_X13_minute {W : NW} {d : Nat} {t : TS} {x1 : Int32} {Q : Option NV → TS → Prop} {bc bs : Nat} (hW : W.2.2.2 = mm_fx) (H : wp (F_X13_minute t x1) (fun r => Q (some (eI r.1)) r.2)) : nC W (d + 2) 158 [eR (some (13, 0)), eI x1] t bc bs Q := by
  refine nC_in (d := (d + 1)) (T := tX13_minute) (ls := [some (eR (some (13, 0))), some (eI x1), none]) rfl (Nat.le_of_ble_eq_true rfl) rfl (fun a0 e0 => ?_)
  unfold F_X13_minute at H
  refine nx_ld rfl rfl rfl rfl ?_
  refine nx_ld rfl rfl rfl rfl ?_
  refine nx_getI rfl rfl rfl (by decide) ?_
  refine nx_int (x := 1439) rfl rfl ?_
  refine nx_cSI (as := [eI x1, eI (tI t 1302 0), eI 1439]) (st' := []) rfl rfl (Nat.le_of_ble_eq_true rfl) rfl rfl (Nat.le_of_ble_eq_true rfl) H (fun Q H => TF_X13_in hW  H) (fun r21 H => ?_)
  refine nx_if rfl rfl (by rfl) H (fun H => ?_) (fun H => ?_)
  · refine nx_ld rfl rfl rfl rfl ?_
    refine nx_getI rfl rfl rfl (by decide) ?_
    refine nx_st (ls' := [some (eR (some (13, 0))), some (eI x1), some (eI (tI t 1302 0))]) rfl rfl rfl (Nat.le_of_ble_eq_true rfl) rfl ?_
    refine nx_ld rfl rfl rfl rfl ?_
    refine nx_ld rfl rfl rfl rfl ?_
    refine nx_putI rfl rfl rfl (by decide) H (fun t22 H => ?_)
    refine nx_ld rfl rfl rfl rfl ?_
    show nX _ _ _ _ _ _ 27 _ _ _ _ _
    exact nx_rit rfl rfl H
  refine nx_int (x := (-1)) rfl rfl ?_
  exact nx_rit rfl rfl H
def F_X13_isLeague (t : TS) (x1 : Int32) : Option Int32 := (Option.bind (F_X13_in t x1 0 3) (fun r21 => (gb r21 (some (r21)))))
theorem TF_X13_isLeague {W : NW} {d : Nat} {t : TS} {x1 : Int32} {Q : Option NV → TS → Prop} {bc bs : Nat} (hW : W.2.2.2 = mm_fx) (H : wp (F_X13_isLeague t x1) (fun r => Q (some (eI r)) t)) : nC W (d + 2) 159 [eI x1] t bc bs Q := by
  refine nC_in (d := (d + 1)) (T := tX13_isLeague) (ls := [some (eI x1)]) rfl (Nat.le_of_ble_eq_true rfl) rfl (fun a0 e0 => ?_)
  unfold F_X13_isLeague at H
  refine nx_ld rfl rfl rfl rfl ?_
  refine nx_int (x := 0) rfl rfl ?_
  refine nx_int (x := 3) rfl rfl ?_
  refine nx_cSI (as := [eI x1, eI 0, eI 3]) (st' := []) rfl rfl (Nat.le_of_ble_eq_true rfl) rfl rfl (Nat.le_of_ble_eq_true rfl) H (fun Q H => TF_X13_in hW  H) (fun r21 H => ?_)
  exact nx_rz rfl rfl H
def F_X13_window (t : TS) (x1 : Int32) (x2 : Int32) (x3 : Int32) : Option (Int32 × TS) := (Option.bind (F_X13_isLeague t x1) (fun r21 => (if r21 = 0 then (some ((-1), t)) else (Option.bind (F_X13_isDay t x2) (fun r22 => (if r22 = 0 then (some ((-1), t)) else (Option.bind (F_X13_in t x3 x2 2999) (fun r23 => (if ¬ r23 = 0 then (gd x1 (tL t 3303 0) (if ¬ (tA t 3303 0 x1.toNatClampNeg) = 6 then (gd x1 (tL t 3303 0) (gd ((6 * x1) + (tA t 3303 0 x1.toNatClampNeg)) (tL t 3304 0) (nxt (uA t 3304 0 ((6 * x1) + (tA t 3303 0 x1.toNatClampNeg)).toNatClampNeg x2) (fun t24 => (gd x1 (tL t24 3303 0) (gd ((6 * x1) + (tA t24 3303 0 x1.toNatClampNeg)) (tL t24 3305 0) (nxt (uA t24 3305 0 ((6 * x1) + (tA t24 3303 0 x1.toNatClampNeg)).toNatClampNeg x3) (fun t25 => (gd x1 (tL t25 3303 0) (gd x1 (tL t25 3303 0) (nxt (uA t25 3303 0 x1.toNatClampNeg ((tA t25 3303 0 x1.toNatClampNeg) + 1)) (fun t26 => (gd x1 (tL t26 3303 0) (some ((tA t26 3303 0 x1.toNatClampNeg), t26))))))))))))))) else (some ((-3), t)))) else (some ((-1), t)))))))))))
theorem TF_X13_window {W : NW} {d : Nat} {t : TS} {x1 : Int32} {x2 : Int32} {x3 : Int32} {Q : Option NV → TS → Prop} {bc bs : Nat} (hW : W.2.2.2 = mm_fx) (H : wp (F_X13_window t x1 x2 x3) (fun r => Q (some (eI r.1)) r.2)) : nC W (d + 3) 160 [eR (some (13, 0)), eI x1, eI x2, eI x3] t bc bs Q := by
  refine nC_in (d := (d + 2)) (T := tX13_window) (ls := [some (eR (some (13, 0))), some (eI x1), some (eI x2), some (eI x3)]) rfl (Nat.le_of_ble_eq_true rfl) rfl (fun a0 e0 => ?_)
  unfold F_X13_window at H
  refine nx_ld rfl rfl rfl rfl ?_
  refine nx_cSI (as := [eI x1]) (st' := []) rfl rfl (Nat.le_of_ble_eq_true rfl) rfl rfl (Nat.le_of_ble_eq_true rfl) H (fun Q H => TF_X13_isLeague hW  H) (fun r21 H => ?_)
  refine nx_if rfl rfl (by rfl) H (fun H => ?_) (fun H => ?_)
  · refine nx_int (x := (-1)) rfl rfl ?_
    exact nx_rit rfl rfl H
  refine nx_ld rfl rfl rfl rfl ?_
  refine nx_cSI (as := [eI x2]) (st' := []) rfl rfl (Nat.le_of_ble_eq_true rfl) rfl rfl (Nat.le_of_ble_eq_true rfl) H (fun Q H => TF_X13_isDay hW  H) (fun r22 H => ?_)
  refine nx_if rfl rfl (by rfl) H (fun H => ?_) (fun H => ?_)
  · refine nx_int (x := (-1)) rfl rfl ?_
    exact nx_rit rfl rfl H
  refine nx_ld rfl rfl rfl rfl ?_
  refine nx_ld rfl rfl rfl rfl ?_
  refine nx_int (x := 2999) rfl rfl ?_
  refine nx_cSI (as := [eI x3, eI x2, eI 2999]) (st' := []) rfl rfl (Nat.le_of_ble_eq_true rfl) rfl rfl (Nat.le_of_ble_eq_true rfl) H (fun Q H => TF_X13_in hW  H) (fun r23 H => ?_)
  refine nx_if rfl rfl (by rfl) H (fun H => ?_) (fun H => ?_)
  · refine nx_ld rfl rfl rfl rfl ?_
    refine nx_getFix rfl rfl rfl (by decide) (by rw [hW]; rfl) rfl ?_
    refine nx_ld rfl rfl rfl rfl ?_
    refine nx_iald (p := (3303, 0)) rfl rfl (Nat.le_of_ble_eq_true rfl) (Nat.le_of_ble_eq_true rfl) rfl H (fun H => ?_)
    refine nx_int (x := 6) rfl rfl ?_
    refine nx_icmp rfl rfl (by rfl) H (fun H => ?_) (fun H => ?_)
    · refine nx_ld rfl rfl rfl rfl ?_
      refine nx_getFix rfl rfl rfl (by decide) (by rw [hW]; rfl) rfl ?_
      refine nx_int (x := 6) rfl rfl ?_
      refine nx_ld rfl rfl rfl rfl ?_
      refine nx_ii rfl rfl ?_
      refine nx_ld rfl rfl rfl rfl ?_
      refine nx_getFix rfl rfl rfl (by decide) (by rw [hW]; rfl) rfl ?_
      show nX _ _ _ _ _ _ 53 _ _ _ _ _
      refine nx_ld rfl rfl rfl rfl ?_
      refine nx_iald (p := (3303, 0)) rfl rfl (Nat.le_of_ble_eq_true rfl) (Nat.le_of_ble_eq_true rfl) rfl H (fun H => ?_)
      refine nx_ii rfl rfl ?_
      refine nx_ld rfl rfl rfl rfl ?_
      refine nx_iast (p := (3304, 0)) rfl rfl (Nat.le_of_ble_eq_true rfl) (Nat.le_of_ble_eq_true rfl) rfl H (fun t24 H => ?_)
      refine nx_ld rfl rfl rfl rfl ?_
      refine nx_getFix rfl rfl rfl (by decide) (by rw [hW]; rfl) rfl ?_
      refine nx_int (x := 6) rfl rfl ?_
      show nX _ _ _ _ _ _ 64 _ _ _ _ _
      refine nx_ld rfl rfl rfl rfl ?_
      refine nx_ii rfl rfl ?_
      refine nx_ld rfl rfl rfl rfl ?_
      refine nx_getFix rfl rfl rfl (by decide) (by rw [hW]; rfl) rfl ?_
      refine nx_ld rfl rfl rfl rfl ?_
      refine nx_iald (p := (3303, 0)) rfl rfl (Nat.le_of_ble_eq_true rfl) (Nat.le_of_ble_eq_true rfl) rfl H (fun H => ?_)
      refine nx_ii rfl rfl ?_
      refine nx_ld rfl rfl rfl rfl ?_
      show nX _ _ _ _ _ _ 74 _ _ _ _ _
      refine nx_iast (p := (3305, 0)) rfl rfl (Nat.le_of_ble_eq_true rfl) (Nat.le_of_ble_eq_true rfl) rfl H (fun t25 H => ?_)
      refine nx_ld rfl rfl rfl rfl ?_
      refine nx_getFix rfl rfl rfl (by decide) (by rw [hW]; rfl) rfl ?_
      refine nx_ld rfl rfl rfl rfl ?_
      refine nx_dup2 rfl rfl (Nat.ne_of_beq_eq_false rfl) (Nat.ne_of_beq_eq_false rfl) ?_
      refine nx_iald (p := (3303, 0)) rfl rfl (Nat.le_of_ble_eq_true rfl) (Nat.le_of_ble_eq_true rfl) rfl H (fun H => ?_)
      refine nx_int (x := 1) rfl rfl ?_
      refine nx_ii rfl rfl ?_
      show nX _ _ _ _ _ _ 84 _ _ _ _ _
      refine nx_iast (p := (3303, 0)) rfl rfl (Nat.le_of_ble_eq_true rfl) (Nat.le_of_ble_eq_true rfl) rfl H (fun t26 H => ?_)
      refine nx_ld rfl rfl rfl rfl ?_
      refine nx_getFix rfl rfl rfl (by decide) (by rw [hW]; rfl) rfl ?_
      refine nx_ld rfl rfl rfl rfl ?_
      refine nx_iald (p := (3303, 0)) rfl rfl (Nat.le_of_ble_eq_true rfl) (Nat.le_of_ble_eq_true rfl) rfl H (fun H => ?_)
      exact nx_rit rfl rfl H
    refine nx_int (x := (-3)) rfl rfl ?_
    exact nx_rit rfl rfl H
  refine nx_int (x := (-1)) rfl rfl ?_
  exact nx_rit rfl rfl H
def BB_X13_isOpen_5 (k5 : TS → Int32 → Int32 → Int32 → Option Int32) (t : TS) (v1 : Int32) (v2 : Int32) (v3 : Int32) : Option Int32 := (gd v1 (tL t 3303 0) (if ((6 * v1) + (tA t 3303 0 v1.toNatClampNeg)) ≤ v3 then (some (0)) else (gd v3 (tL t 3304 0) (gd v3 (tL t 3305 0) (Option.bind (F_X13_in t v2 (tA t 3304 0 v3.toNatClampNeg) (tA t 3305 0 v3.toNatClampNeg)) (fun r21 => (if r21 = 0 then (k5 t v1 v2 (v3 + 1)) else (some (1)))))))))
theorem TBB_X13_isOpen_5 {W : NW} {d : Nat} {Q : Option NV → TS → Prop} {a0 : Nat → Nat → Nat} {e0 : Nat → Nat → Bool} {t : TS} {k5 : TS → Int32 → Int32 → Int32 → Option Int32} {bc bs : Nat} (hW : W.2.2.2 = mm_fx) (hk5 : ∀ (v1 : Int32) (v2 : Int32) (v3 : Int32), wp (k5 t v1 v2 v3) (fun r => Q (some (eI r)) t) → nX W (d + 1) tX13_isOpen Q a0 e0 5 [some (eR (some (13, 0))), some (eI v1), some (eI v2), some (eI v3)] [] t bc bs) : ∀ (v1 : Int32) (v2 : Int32) (v3 : Int32), wp (BB_X13_isOpen_5 k5 t v1 v2 v3) (fun r => Q (some (eI r)) t) → nX W (d + 1) tX13_isOpen Q a0 e0 5 [some (eR (some (13, 0))), some (eI v1), some (eI v2), some (eI v3)] [] t bc bs := by
  intro v1 v2 v3 H
  unfold BB_X13_isOpen_5 at H
  refine nx_ld rfl rfl rfl rfl ?_
  refine nx_int (x := 6) rfl rfl ?_
  refine nx_ld rfl rfl rfl rfl ?_
  refine nx_ii rfl rfl ?_
  refine nx_ld rfl rfl rfl rfl ?_
  refine nx_getFix rfl rfl rfl (by decide) (by rw [hW]; rfl) rfl ?_
  refine nx_ld rfl rfl rfl rfl ?_
  show nX _ _ _ _ _ _ 15 _ _ _ _ _
  refine nx_iald (p := (3303, 0)) rfl rfl (Nat.le_of_ble_eq_true rfl) (Nat.le_of_ble_eq_true rfl) rfl H (fun H => ?_)
  refine nx_ii rfl rfl ?_
  refine nx_icmp rfl rfl (by rfl) H (fun H => ?_) (fun H => ?_)
  · refine nx_int (x := 0) rfl rfl ?_
    exact nx_rzl rfl rfl (by decide) H
  refine nx_ld rfl rfl rfl rfl ?_
  refine nx_ld rfl rfl rfl rfl ?_
  refine nx_getFix rfl rfl rfl (by decide) (by rw [hW]; rfl) rfl ?_
  refine nx_ld rfl rfl rfl rfl ?_
  refine nx_iald (p := (3304, 0)) rfl rfl (Nat.le_of_ble_eq_true rfl) (Nat.le_of_ble_eq_true rfl) rfl H (fun H => ?_)
  refine nx_ld rfl rfl rfl rfl ?_
  refine nx_getFix rfl rfl rfl (by decide) (by rw [hW]; rfl) rfl ?_
  show nX _ _ _ _ _ _ 31 _ _ _ _ _
  refine nx_ld rfl rfl rfl rfl ?_
  refine nx_iald (p := (3305, 0)) rfl rfl (Nat.le_of_ble_eq_true rfl) (Nat.le_of_ble_eq_true rfl) rfl H (fun H => ?_)
  refine nx_cSI (as := [eI v2, eI (tA t 3304 0 v3.toNatClampNeg), eI (tA t 3305 0 v3.toNatClampNeg)]) (st' := []) rfl rfl (Nat.le_of_ble_eq_true rfl) rfl rfl (Nat.le_of_ble_eq_true rfl) H (fun Q H => TF_X13_in hW  H) (fun r21 H => ?_)
  refine nx_if rfl rfl (by rfl) H (fun H => ?_) (fun H => ?_)
  · refine nx_iinc2 1 (ls' := [some (eR (some (13, 0))), some (eI v1), some (eI v2), some (eI (v3 + 1))]) rfl rfl rfl rfl rfl ?_
    refine nx_goto rfl rfl ?_
    exact hk5 _ _ _ H
  refine nx_int (x := 1) rfl rfl ?_
  exact nx_rzl rfl rfl (by decide) H
def B_X13_isOpen_5 : Nat → TS → Int32 → Int32 → Int32 → Option Int32
  | 0 => fun _ _ _ _ => none
  | n + 1 => fun t v1 v2 v3 => BB_X13_isOpen_5 (B_X13_isOpen_5 n) t v1 v2 v3
theorem TB_X13_isOpen_5 {W : NW} {d : Nat} {Q : Option NV → TS → Prop} {a0 : Nat → Nat → Nat} {e0 : Nat → Nat → Bool} {t : TS} {bc bs : Nat} (hW : W.2.2.2 = mm_fx) : ∀ (n : Nat) (v1 : Int32) (v2 : Int32) (v3 : Int32), wp (B_X13_isOpen_5 n t v1 v2 v3) (fun r => Q (some (eI r)) t) → nX W (d + 1) tX13_isOpen Q a0 e0 5 [some (eR (some (13, 0))), some (eI v1), some (eI v2), some (eI v3)] [] t bc bs := by
  intro n
  induction n with
  | zero => intro v1 v2 v3 H; exact (wp_none H).elim
  | succ n ih =>
    intro v1 v2 v3 H
    exact TBB_X13_isOpen_5 hW    ih v1 v2 v3 H
def F_X13_isOpen (t : TS) (x1 : Int32) (x2 : Int32) : Option Int32 := (B_X13_isOpen_5  10000 t x1 x2 (6 * x1))
theorem TF_X13_isOpen {W : NW} {d : Nat} {t : TS} {x1 : Int32} {x2 : Int32} {Q : Option NV → TS → Prop} {bc bs : Nat} (hW : W.2.2.2 = mm_fx) (H : wp (F_X13_isOpen t x1 x2) (fun r => Q (some (eI r)) t)) : nC W (d + 2) 161 [eR (some (13, 0)), eI x1, eI x2] t bc bs Q := by
  refine nC_in (d := (d + 1)) (T := tX13_isOpen) (ls := [some (eR (some (13, 0))), some (eI x1), some (eI x2), none]) rfl (Nat.le_of_ble_eq_true rfl) rfl (fun a0 e0 => ?_)
  unfold F_X13_isOpen at H
  refine nx_int (x := 6) rfl rfl ?_
  refine nx_ld rfl rfl rfl rfl ?_
  refine nx_ii rfl rfl ?_
  refine nx_st (ls' := [some (eR (some (13, 0))), some (eI x1), some (eI x2), some (eI (6 * x1))]) rfl rfl rfl (Nat.le_of_ble_eq_true rfl) rfl ?_
  exact TB_X13_isOpen_5 hW    10000 _ _ _ H
def B_X13_open_14 (t : TS) : Option Int32 := (some ((-1)))
theorem TB_X13_open_14 {W : NW} {d : Nat} {Q : Option NV → TS → Prop} {a0 : Nat → Nat → Nat} {e0 : Nat → Nat → Bool} {t : TS} {bc bs : Nat} (hW : W.2.2.2 = mm_fx) : ∀ (v1 : Int32) (v2 : Int32), wp (B_X13_open_14 t) (fun r => Q (some (eI r)) t) → nX W (d + 2) tX13_open Q a0 e0 14 [some (eR (some (13, 0))), some (eI v1), some (eI v2)] [] t bc bs := by
  intro v1 v2 H
  unfold B_X13_open_14 at H
  refine nx_int (x := (-1)) rfl rfl ?_
  refine nx_goto rfl rfl ?_
  exact nx_ri rfl rfl H
def F_X13_open (t : TS) (x1 : Int32) (x2 : Int32) : Option Int32 := (Option.bind (F_X13_isLeague t x1) (fun r21 => (if r21 = 0 then (B_X13_open_14  t) else (Option.bind (F_X13_isDay t x2) (fun r22 => (if ¬ r22 = 0 then (Option.bind (F_X13_isOpen t x1 x2) (fun r23 => (if r23 = 0 then (some (0)) else (some (1))))) else (B_X13_open_14  t)))))))
theorem TF_X13_open {W : NW} {d : Nat} {t : TS} {x1 : Int32} {x2 : Int32} {Q : Option NV → TS → Prop} {bc bs : Nat} (hW : W.2.2.2 = mm_fx) (H : wp (F_X13_open t x1 x2) (fun r => Q (some (eI r)) t)) : nC W (d + 3) 162 [eR (some (13, 0)), eI x1, eI x2] t bc bs Q := by
  refine nC_in (d := (d + 2)) (T := tX13_open) (ls := [some (eR (some (13, 0))), some (eI x1), some (eI x2)]) rfl (Nat.le_of_ble_eq_true rfl) rfl (fun a0 e0 => ?_)
  unfold F_X13_open at H
  refine nx_ld rfl rfl rfl rfl ?_
  refine nx_cSI (as := [eI x1]) (st' := []) rfl rfl (Nat.le_of_ble_eq_true rfl) rfl rfl (Nat.le_of_ble_eq_true rfl) H (fun Q H => TF_X13_isLeague hW  H) (fun r21 H => ?_)
  refine nx_if rfl rfl (by rfl) H (fun H => ?_) (fun H => ?_)
  · exact TB_X13_open_14 hW    _ _ H
  refine nx_ld rfl rfl rfl rfl ?_
  refine nx_cSI (as := [eI x2]) (st' := []) rfl rfl (Nat.le_of_ble_eq_true rfl) rfl rfl (Nat.le_of_ble_eq_true rfl) H (fun Q H => TF_X13_isDay hW  H) (fun r22 H => ?_)
  refine nx_if rfl rfl (by rfl) H (fun H => ?_) (fun H => ?_)
  · refine nx_ld rfl rfl rfl rfl ?_
    refine nx_ld rfl rfl rfl rfl ?_
    refine nx_ld rfl rfl rfl rfl ?_
    refine nx_cVI (as := [eI x1, eI x2]) (st' := []) rfl rfl (Nat.le_of_ble_eq_true rfl) rfl rfl (Nat.le_of_ble_eq_true rfl) (c0 := 13) rfl (by decide) H (fun Q H => TF_X13_isOpen hW  H) (fun r23 H => ?_)
    refine nx_if rfl rfl (by rfl) H (fun H => ?_) (fun H => ?_)
    · refine nx_int (x := 0) rfl rfl ?_
      exact nx_ri rfl rfl H
    refine nx_int (x := 1) rfl rfl ?_
    refine nx_goto rfl rfl ?_
    exact nx_ri rfl rfl H
  exact TB_X13_open_14 hW    _ _ H
def F_X13_papers (t : TS) (x1 : Int32) (x2 : Int32) : Option (Int32 × TS) := (Option.bind (F_X13_isLeague t x1) (fun r21 => (if r21 = 0 then (some ((-1), t)) else (Option.bind (F_X13_in t x2 0 1439) (fun r22 => (if ¬ r22 = 0 then (gd x1 (tL t 3306 0) (gd x1 (tL t 3306 0) (nxt (uA t 3306 0 x1.toNatClampNeg x2) (fun t23 => (some ((tA t 3306 0 x1.toNatClampNeg), t23)))))) else (some ((-1), t))))))))
theorem TF_X13_papers {W : NW} {d : Nat} {t : TS} {x1 : Int32} {x2 : Int32} {Q : Option NV → TS → Prop} {bc bs : Nat} (hW : W.2.2.2 = mm_fx) (H : wp (F_X13_papers t x1 x2) (fun r => Q (some (eI r.1)) r.2)) : nC W (d + 3) 163 [eR (some (13, 0)), eI x1, eI x2] t bc bs Q := by
  refine nC_in (d := (d + 2)) (T := tX13_papers) (ls := [some (eR (some (13, 0))), some (eI x1), some (eI x2), none]) rfl (Nat.le_of_ble_eq_true rfl) rfl (fun a0 e0 => ?_)
  unfold F_X13_papers at H
  refine nx_ld rfl rfl rfl rfl ?_
  refine nx_cSI (as := [eI x1]) (st' := []) rfl rfl (Nat.le_of_ble_eq_true rfl) rfl rfl (Nat.le_of_ble_eq_true rfl) H (fun Q H => TF_X13_isLeague hW  H) (fun r21 H => ?_)
  refine nx_if rfl rfl (by rfl) H (fun H => ?_) (fun H => ?_)
  · refine nx_int (x := (-1)) rfl rfl ?_
    exact nx_rit rfl rfl H
  refine nx_ld rfl rfl rfl rfl ?_
  refine nx_int (x := 0) rfl rfl ?_
  refine nx_int (x := 1439) rfl rfl ?_
  refine nx_cSI (as := [eI x2, eI 0, eI 1439]) (st' := []) rfl rfl (Nat.le_of_ble_eq_true rfl) rfl rfl (Nat.le_of_ble_eq_true rfl) H (fun Q H => TF_X13_in hW  H) (fun r22 H => ?_)
  refine nx_if rfl rfl (by rfl) H (fun H => ?_) (fun H => ?_)
  · refine nx_ld rfl rfl rfl rfl ?_
    refine nx_getFix rfl rfl rfl (by decide) (by rw [hW]; rfl) rfl ?_
    refine nx_ld rfl rfl rfl rfl ?_
    refine nx_iald (p := (3306, 0)) rfl rfl (Nat.le_of_ble_eq_true rfl) (Nat.le_of_ble_eq_true rfl) rfl H (fun H => ?_)
    refine nx_st (ls' := [some (eR (some (13, 0))), some (eI x1), some (eI x2), some (eI (tA t 3306 0 x1.toNatClampNeg))]) rfl rfl rfl (Nat.le_of_ble_eq_true rfl) rfl ?_
    refine nx_ld rfl rfl rfl rfl ?_
    refine nx_getFix rfl rfl rfl (by decide) (by rw [hW]; rfl) rfl ?_
    show nX _ _ _ _ _ _ 31 _ _ _ _ _
    refine nx_ld rfl rfl rfl rfl ?_
    refine nx_ld rfl rfl rfl rfl ?_
    refine nx_iast (p := (3306, 0)) rfl rfl (Nat.le_of_ble_eq_true rfl) (Nat.le_of_ble_eq_true rfl) rfl H (fun t23 H => ?_)
    refine nx_ld rfl rfl rfl rfl ?_
    exact nx_rit rfl rfl H
  refine nx_int (x := (-1)) rfl rfl ?_
  exact nx_rit rfl rfl H
def F_X13_isBody (t : TS) (x1 : Int32) : Option Int32 := (Option.bind (F_X13_in t x1 0 ((tI t 1307 0) - 1)) (fun r21 => (gb r21 (some (r21)))))
theorem TF_X13_isBody {W : NW} {d : Nat} {t : TS} {x1 : Int32} {Q : Option NV → TS → Prop} {bc bs : Nat} (hW : W.2.2.2 = mm_fx) (H : wp (F_X13_isBody t x1) (fun r => Q (some (eI r)) t)) : nC W (d + 2) 164 [eR (some (13, 0)), eI x1] t bc bs Q := by
  refine nC_in (d := (d + 1)) (T := tX13_isBody) (ls := [some (eR (some (13, 0))), some (eI x1)]) rfl (Nat.le_of_ble_eq_true rfl) rfl (fun a0 e0 => ?_)
  unfold F_X13_isBody at H
  refine nx_ld rfl rfl rfl rfl ?_
  refine nx_int (x := 0) rfl rfl ?_
  refine nx_ld rfl rfl rfl rfl ?_
  refine nx_getI rfl rfl rfl (by decide) ?_
  refine nx_int (x := 1) rfl rfl ?_
  refine nx_ii rfl rfl ?_
  refine nx_cSI (as := [eI x1, eI 0, eI ((tI t 1307 0) - 1)]) (st' := []) rfl rfl (Nat.le_of_ble_eq_true rfl) rfl rfl (Nat.le_of_ble_eq_true rfl) H (fun Q H => TF_X13_in hW  H) (fun r21 H => ?_)
  show nX _ _ _ _ _ _ 11 _ _ _ _ _
  exact nx_rz rfl rfl H
def B_X13_isUnder_58 (t : TS) : Option Int32 := (some (1))
theorem TB_X13_isUnder_58 {W : NW} {d : Nat} {Q : Option NV → TS → Prop} {a0 : Nat → Nat → Nat} {e0 : Nat → Nat → Bool} {t : TS} {bc bs : Nat} (hW : W.2.2.2 = mm_fx) : ∀ (v0 : Int32) (v1 : Int32), wp (B_X13_isUnder_58 t) (fun r => Q (some (eI r)) t) → nX W d tX13_isUnder Q a0 e0 58 [some (eI v0), some (eI v1)] [] t bc bs := by
  intro v0 v1 H
  unfold B_X13_isUnder_58 at H
  refine nx_int (x := 1) rfl rfl ?_
  refine nx_goto rfl rfl ?_
  exact nx_rzl rfl rfl (by decide) H
def B_X13_isUnder_37 (t : TS) : Option Int32 := (some (1))
theorem TB_X13_isUnder_37 {W : NW} {d : Nat} {Q : Option NV → TS → Prop} {a0 : Nat → Nat → Nat} {e0 : Nat → Nat → Bool} {t : TS} {bc bs : Nat} (hW : W.2.2.2 = mm_fx) : ∀ (v0 : Int32) (v1 : Int32), wp (B_X13_isUnder_37 t) (fun r => Q (some (eI r)) t) → nX W d tX13_isUnder Q a0 e0 37 [some (eI v0), some (eI v1)] [] t bc bs := by
  intro v0 v1 H
  unfold B_X13_isUnder_37 at H
  refine nx_int (x := 1) rfl rfl ?_
  refine nx_goto rfl rfl ?_
  exact nx_rzl rfl rfl (by decide) H
def F_X13_isUnder (t : TS) (x1 : Int32) (x2 : Int32) : Option Int32 := (if x2 = 0 then (some (1)) else (if ¬ x1 = x2 then (if ¬ x2 = 1 then (if ¬ x2 = 2 then (if ¬ x2 = 5 then (some (0)) else (if ¬ x1 = 7 then (some (0)) else (some (1)))) else (if x1 = 3 then (B_X13_isUnder_58  t) else (if ¬ x1 = 4 then (some (0)) else (B_X13_isUnder_58  t)))) else (if x1 = 2 then (B_X13_isUnder_37  t) else (if x1 = 3 then (B_X13_isUnder_37  t) else (if x1 = 4 then (B_X13_isUnder_37  t) else (if ¬ x1 = 6 then (some (0)) else (B_X13_isUnder_37  t)))))) else (some (1))))
theorem TF_X13_isUnder {W : NW} {d : Nat} {t : TS} {x1 : Int32} {x2 : Int32} {Q : Option NV → TS → Prop} {bc bs : Nat} (hW : W.2.2.2 = mm_fx) (H : wp (F_X13_isUnder t x1 x2) (fun r => Q (some (eI r)) t)) : nC W (d + 1) 165 [eI x1, eI x2] t bc bs Q := by
  refine nC_in (d := d) (T := tX13_isUnder) (ls := [some (eI x1), some (eI x2)]) rfl (Nat.le_of_ble_eq_true rfl) rfl (fun a0 e0 => ?_)
  unfold F_X13_isUnder at H
  refine nx_ld rfl rfl rfl rfl ?_
  refine nx_if rfl rfl (by rfl) H (fun H => ?_) (fun H => ?_)
  · refine nx_int (x := 1) rfl rfl ?_
    exact nx_rzl rfl rfl (by decide) H
  refine nx_ld rfl rfl rfl rfl ?_
  refine nx_ld rfl rfl rfl rfl ?_
  refine nx_icmp rfl rfl (by rfl) H (fun H => ?_) (fun H => ?_)
  · refine nx_ld rfl rfl rfl rfl ?_
    refine nx_int (x := 1) rfl rfl ?_
    refine nx_icmp rfl rfl (by rfl) H (fun H => ?_) (fun H => ?_)
    · refine nx_ld rfl rfl rfl rfl ?_
      refine nx_int (x := 2) rfl rfl ?_
      refine nx_icmp rfl rfl (by rfl) H (fun H => ?_) (fun H => ?_)
      · refine nx_ld rfl rfl rfl rfl ?_
        refine nx_int (x := 5) rfl rfl ?_
        refine nx_icmp rfl rfl (by rfl) H (fun H => ?_) (fun H => ?_)
        · refine nx_int (x := 0) rfl rfl ?_
          exact nx_rzl rfl rfl (by decide) H
        refine nx_ld rfl rfl rfl rfl ?_
        refine nx_int (x := 7) rfl rfl ?_
        refine nx_icmp rfl rfl (by rfl) H (fun H => ?_) (fun H => ?_)
        · refine nx_int (x := 0) rfl rfl ?_
          exact nx_rzl rfl rfl (by decide) H
        refine nx_int (x := 1) rfl rfl ?_
        refine nx_goto rfl rfl ?_
        exact nx_rzl rfl rfl (by decide) H
      refine nx_ld rfl rfl rfl rfl ?_
      refine nx_int (x := 3) rfl rfl ?_
      refine nx_icmp rfl rfl (by rfl) H (fun H => ?_) (fun H => ?_)
      · exact TB_X13_isUnder_58 hW    _ _ H
      refine nx_ld rfl rfl rfl rfl ?_
      refine nx_int (x := 4) rfl rfl ?_
      refine nx_icmp rfl rfl (by rfl) H (fun H => ?_) (fun H => ?_)
      · refine nx_int (x := 0) rfl rfl ?_
        exact nx_rzl rfl rfl (by decide) H
      exact TB_X13_isUnder_58 hW    _ _ H
    refine nx_ld rfl rfl rfl rfl ?_
    refine nx_int (x := 2) rfl rfl ?_
    refine nx_icmp rfl rfl (by rfl) H (fun H => ?_) (fun H => ?_)
    · exact TB_X13_isUnder_37 hW    _ _ H
    refine nx_ld rfl rfl rfl rfl ?_
    refine nx_int (x := 3) rfl rfl ?_
    refine nx_icmp rfl rfl (by rfl) H (fun H => ?_) (fun H => ?_)
    · exact TB_X13_isUnder_37 hW    _ _ H
    refine nx_ld rfl rfl rfl rfl ?_
    refine nx_int (x := 4) rfl rfl ?_
    refine nx_icmp rfl rfl (by rfl) H (fun H => ?_) (fun H => ?_)
    · exact TB_X13_isUnder_37 hW    _ _ H
    refine nx_ld rfl rfl rfl rfl ?_
    refine nx_int (x := 6) rfl rfl ?_
    refine nx_icmp rfl rfl (by rfl) H (fun H => ?_) (fun H => ?_)
    · refine nx_int (x := 0) rfl rfl ?_
      exact nx_rzl rfl rfl (by decide) H
    exact TB_X13_isUnder_37 hW    _ _ H
  refine nx_int (x := 1) rfl rfl ?_
  exact nx_rzl rfl rfl (by decide) H
def F_X13_isClub (t : TS) (x1 : Int32) : Option Int32 := (Option.bind (F_X13_isBody t x1) (fun r21 => (if r21 = 0 then (some (0)) else (gd x1 (tL t 3308 0) (Option.bind (F_X13_isUnder t (tA t 3308 0 x1.toNatClampNeg) 5) (fun r22 => (if r22 = 0 then (some (0)) else (some (1)))))))))
theorem TF_X13_isClub {W : NW} {d : Nat} {t : TS} {x1 : Int32} {Q : Option NV → TS → Prop} {bc bs : Nat} (hW : W.2.2.2 = mm_fx) (H : wp (F_X13_isClub t x1) (fun r => Q (some (eI r)) t)) : nC W (d + 3) 166 [eR (some (13, 0)), eI x1] t bc bs Q := by
  refine nC_in (d := (d + 2)) (T := tX13_isClub) (ls := [some (eR (some (13, 0))), some (eI x1)]) rfl (Nat.le_of_ble_eq_true rfl) rfl (fun a0 e0 => ?_)
  unfold F_X13_isClub at H
  refine nx_ld rfl rfl rfl rfl ?_
  refine nx_ld rfl rfl rfl rfl ?_
  refine nx_cVI (as := [eI x1]) (st' := []) rfl rfl (Nat.le_of_ble_eq_true rfl) rfl rfl (Nat.le_of_ble_eq_true rfl) (c0 := 13) rfl (by decide) H (fun Q H => TF_X13_isBody hW  H) (fun r21 H => ?_)
  refine nx_if rfl rfl (by rfl) H (fun H => ?_) (fun H => ?_)
  · refine nx_int (x := 0) rfl rfl ?_
    exact nx_rzl rfl rfl (by decide) H
  refine nx_ld rfl rfl rfl rfl ?_
  refine nx_getFix rfl rfl rfl (by decide) (by rw [hW]; rfl) rfl ?_
  refine nx_ld rfl rfl rfl rfl ?_
  refine nx_iald (p := (3308, 0)) rfl rfl (Nat.le_of_ble_eq_true rfl) (Nat.le_of_ble_eq_true rfl) rfl H (fun H => ?_)
  refine nx_int (x := 5) rfl rfl ?_
  refine nx_cSI (as := [eI (tA t 3308 0 x1.toNatClampNeg), eI 5]) (st' := []) rfl rfl (Nat.le_of_ble_eq_true rfl) rfl rfl (Nat.le_of_ble_eq_true rfl) H (fun Q H => TF_X13_isUnder hW  H) (fun r22 H => ?_)
  refine nx_if rfl rfl (by rfl) H (fun H => ?_) (fun H => ?_)
  · refine nx_int (x := 0) rfl rfl ?_
    exact nx_rzl rfl rfl (by decide) H
  refine nx_int (x := 1) rfl rfl ?_
  refine nx_goto rfl rfl ?_
  exact nx_rzl rfl rfl (by decide) H
def F_X13_isPlayer (t : TS) (x1 : Int32) : Option Int32 := (Option.bind (F_X13_isBody t x1) (fun r21 => (if r21 = 0 then (some (0)) else (gd x1 (tL t 3308 0) (Option.bind (F_X13_isUnder t (tA t 3308 0 x1.toNatClampNeg) 2) (fun r22 => (if r22 = 0 then (some (0)) else (some (1)))))))))
theorem TF_X13_isPlayer {W : NW} {d : Nat} {t : TS} {x1 : Int32} {Q : Option NV → TS → Prop} {bc bs : Nat} (hW : W.2.2.2 = mm_fx) (H : wp (F_X13_isPlayer t x1) (fun r => Q (some (eI r)) t)) : nC W (d + 3) 167 [eR (some (13, 0)), eI x1] t bc bs Q := by
  refine nC_in (d := (d + 2)) (T := tX13_isPlayer) (ls := [some (eR (some (13, 0))), some (eI x1)]) rfl (Nat.le_of_ble_eq_true rfl) rfl (fun a0 e0 => ?_)
  unfold F_X13_isPlayer at H
  refine nx_ld rfl rfl rfl rfl ?_
  refine nx_ld rfl rfl rfl rfl ?_
  refine nx_cVI (as := [eI x1]) (st' := []) rfl rfl (Nat.le_of_ble_eq_true rfl) rfl rfl (Nat.le_of_ble_eq_true rfl) (c0 := 13) rfl (by decide) H (fun Q H => TF_X13_isBody hW  H) (fun r21 H => ?_)
  refine nx_if rfl rfl (by rfl) H (fun H => ?_) (fun H => ?_)
  · refine nx_int (x := 0) rfl rfl ?_
    exact nx_rzl rfl rfl (by decide) H
  refine nx_ld rfl rfl rfl rfl ?_
  refine nx_getFix rfl rfl rfl (by decide) (by rw [hW]; rfl) rfl ?_
  refine nx_ld rfl rfl rfl rfl ?_
  refine nx_iald (p := (3308, 0)) rfl rfl (Nat.le_of_ble_eq_true rfl) (Nat.le_of_ble_eq_true rfl) rfl H (fun H => ?_)
  refine nx_int (x := 2) rfl rfl ?_
  refine nx_cSI (as := [eI (tA t 3308 0 x1.toNatClampNeg), eI 2]) (st' := []) rfl rfl (Nat.le_of_ble_eq_true rfl) rfl rfl (Nat.le_of_ble_eq_true rfl) H (fun Q H => TF_X13_isUnder hW  H) (fun r22 H => ?_)
  refine nx_if rfl rfl (by rfl) H (fun H => ?_) (fun H => ?_)
  · refine nx_int (x := 0) rfl rfl ?_
    exact nx_rzl rfl rfl (by decide) H
  refine nx_int (x := 1) rfl rfl ?_
  refine nx_goto rfl rfl ?_
  exact nx_rzl rfl rfl (by decide) H
def F_X13_add (t : TS) (x1 : Int32) : Option (Int32 × TS) := (gd (tI t 1307 0) (tL t 3308 0) (nxt (uA t 3308 0 (tI t 1307 0).toNatClampNeg x1) (fun t21 => (gd (tI t21 1307 0) (tL t21 3314 0) (nxt (uA t21 3314 0 (tI t21 1307 0).toNatClampNeg (-1)) (fun t22 => (nxt (uI t22 1307 0 ((tI t22 1307 0) + 1)) (fun t23 => (some (((tI t23 1307 0) - 1), t23))))))))))
theorem TF_X13_add {W : NW} {d : Nat} {t : TS} {x1 : Int32} {Q : Option NV → TS → Prop} {bc bs : Nat} (hW : W.2.2.2 = mm_fx) (H : wp (F_X13_add t x1) (fun r => Q (some (eI r.1)) r.2)) : nC W (d + 1) 168 [eR (some (13, 0)), eI x1] t bc bs Q := by
  refine nC_in (d := d) (T := tX13_add) (ls := [some (eR (some (13, 0))), some (eI x1)]) rfl (Nat.le_of_ble_eq_true rfl) rfl (fun a0 e0 => ?_)
  unfold F_X13_add at H
  refine nx_ld rfl rfl rfl rfl ?_
  refine nx_getFix rfl rfl rfl (by decide) (by rw [hW]; rfl) rfl ?_
  refine nx_ld rfl rfl rfl rfl ?_
  refine nx_getI rfl rfl rfl (by decide) ?_
  refine nx_ld rfl rfl rfl rfl ?_
  refine nx_iast (p := (3308, 0)) rfl rfl (Nat.le_of_ble_eq_true rfl) (Nat.le_of_ble_eq_true rfl) rfl H (fun t21 H => ?_)
  refine nx_ld rfl rfl rfl rfl ?_
  show nX _ _ _ _ _ _ 11 _ _ _ _ _
  refine nx_getFix rfl rfl rfl (by decide) (by rw [hW]; rfl) rfl ?_
  refine nx_ld rfl rfl rfl rfl ?_
  refine nx_getI rfl rfl rfl (by decide) ?_
  refine nx_int (x := (-1)) rfl rfl ?_
  refine nx_iast (p := (3314, 0)) rfl rfl (Nat.le_of_ble_eq_true rfl) (Nat.le_of_ble_eq_true rfl) rfl H (fun t22 H => ?_)
  refine nx_ld rfl rfl rfl rfl ?_
  refine nx_dup rfl rfl (Nat.ne_of_beq_eq_false rfl) ?_
  refine nx_getI rfl rfl rfl (by decide) ?_
  show nX _ _ _ _ _ _ 25 _ _ _ _ _
  refine nx_int (x := 1) rfl rfl ?_
  refine nx_ii rfl rfl ?_
  refine nx_putI rfl rfl rfl (by decide) H (fun t23 H => ?_)
  refine nx_ld rfl rfl rfl rfl ?_
  refine nx_getI rfl rfl rfl (by decide) ?_
  refine nx_int (x := 1) rfl rfl ?_
  refine nx_ii rfl rfl ?_
  exact nx_rit rfl rfl H
def B_X13_body_17 (t : TS) (v1 : Int32) : Option (Int32 × TS) := (if ¬ (tI t 1307 0) = 150 then (ob2 (F_X13_add t v1) (fun x22 t23 => (some (x22, t23)))) else (some ((-3), t)))
theorem TB_X13_body_17 {W : NW} {d : Nat} {Q : Option NV → TS → Prop} {a0 : Nat → Nat → Nat} {e0 : Nat → Nat → Bool} {bc bs : Nat} (hW : W.2.2.2 = mm_fx) : ∀ (t : TS) (v1 : Int32), wp (B_X13_body_17 t v1) (fun r => Q (some (eI r.1)) r.2) → nX W (d + 1) tX13_body Q a0 e0 17 [some (eR (some (13, 0))), some (eI v1)] [] t bc bs := by
  intro t v1 H
  unfold B_X13_body_17 at H
  refine nx_ld rfl rfl rfl rfl ?_
  refine nx_getI rfl rfl rfl (by decide) ?_
  refine nx_int (x := 150) rfl rfl ?_
  refine nx_icmp rfl rfl (by rfl) H (fun H => ?_) (fun H => ?_)
  · refine nx_ld rfl rfl rfl rfl ?_
    refine nx_ld rfl rfl rfl rfl ?_
    refine nx_cVI2 (as := [eI v1]) (st' := []) rfl rfl (Nat.le_of_ble_eq_true rfl) rfl rfl (Nat.le_of_ble_eq_true rfl) (c0 := 13) rfl (by decide) H (fun Q H => TF_X13_add hW  H) (fun x22 t23 H => ?_)
    exact nx_rit rfl rfl H
  refine nx_int (x := (-3)) rfl rfl ?_
  refine nx_goto rfl rfl ?_
  exact nx_rit rfl rfl H
def F_X13_body (t : TS) (x1 : Int32) : Option (Int32 × TS) := (if x1 = 0 then (B_X13_body_17  t x1) else (if x1 = 1 then (B_X13_body_17  t x1) else (if x1 = 6 then (B_X13_body_17  t x1) else (some ((-1), t)))))
theorem TF_X13_body {W : NW} {d : Nat} {t : TS} {x1 : Int32} {Q : Option NV → TS → Prop} {bc bs : Nat} (hW : W.2.2.2 = mm_fx) (H : wp (F_X13_body t x1) (fun r => Q (some (eI r.1)) r.2)) : nC W (d + 2) 169 [eR (some (13, 0)), eI x1] t bc bs Q := by
  refine nC_in (d := (d + 1)) (T := tX13_body) (ls := [some (eR (some (13, 0))), some (eI x1)]) rfl (Nat.le_of_ble_eq_true rfl) rfl (fun a0 e0 => ?_)
  unfold F_X13_body at H
  refine nx_ld rfl rfl rfl rfl ?_
  refine nx_if rfl rfl (by rfl) H (fun H => ?_) (fun H => ?_)
  · exact TB_X13_body_17 hW    _ _ H
  refine nx_ld rfl rfl rfl rfl ?_
  refine nx_int (x := 1) rfl rfl ?_
  refine nx_icmp rfl rfl (by rfl) H (fun H => ?_) (fun H => ?_)
  · exact TB_X13_body_17 hW    _ _ H
  refine nx_ld rfl rfl rfl rfl ?_
  refine nx_int (x := 6) rfl rfl ?_
  refine nx_icmp rfl rfl (by rfl) H (fun H => ?_) (fun H => ?_)
  · exact TB_X13_body_17 hW    _ _ H
  refine nx_int (x := (-1)) rfl rfl ?_
  exact nx_rit rfl rfl H
def B_X13_club_11 (t : TS) (v1 : Int32) (v2 : Int32) (v3 : Int32) : Option (Int32 × TS) := (Option.bind (F_X13_isLeague t v2) (fun r21 => (if r21 = 0 then (some ((-1), t)) else (Option.bind (F_X13_in t v3 0 9999999) (fun r22 => (if ¬ r22 = 0 then (if ¬ (tI t 1307 0) = 150 then (ob2 (F_X13_add t v1) (fun x24 t25 => (gd x24 (tL t25 3309 0) (nxt (uA t25 3309 0 x24.toNatClampNeg v2) (fun t26 => (gd x24 (tL t26 3310 0) (nxt (uA t26 3310 0 x24.toNatClampNeg v3) (fun t27 => (some (x24, t27)))))))))) else (some ((-3), t))) else (some ((-1), t))))))))
theorem TB_X13_club_11 {W : NW} {d : Nat} {Q : Option NV → TS → Prop} {a0 : Nat → Nat → Nat} {e0 : Nat → Nat → Bool} {bc bs : Nat} (hW : W.2.2.2 = mm_fx) : ∀ (t : TS) (v1 : Int32) (v2 : Int32) (v3 : Int32), wp (B_X13_club_11 t v1 v2 v3) (fun r => Q (some (eI r.1)) r.2) → nX W (d + 2) tX13_club Q a0 e0 11 [some (eR (some (13, 0))), some (eI v1), some (eI v2), some (eI v3), none] [] t bc bs := by
  intro t v1 v2 v3 H
  unfold B_X13_club_11 at H
  refine nx_ld rfl rfl rfl rfl ?_
  refine nx_cSI (as := [eI v2]) (st' := []) rfl rfl (Nat.le_of_ble_eq_true rfl) rfl rfl (Nat.le_of_ble_eq_true rfl) H (fun Q H => TF_X13_isLeague hW  H) (fun r21 H => ?_)
  refine nx_if rfl rfl (by rfl) H (fun H => ?_) (fun H => ?_)
  · refine nx_int (x := (-1)) rfl rfl ?_
    exact nx_rit rfl rfl H
  refine nx_ld rfl rfl rfl rfl ?_
  refine nx_int (x := 0) rfl rfl ?_
  refine nx_int (x := 9999999) rfl rfl ?_
  refine nx_cSI (as := [eI v3, eI 0, eI 9999999]) (st' := []) rfl rfl (Nat.le_of_ble_eq_true rfl) rfl rfl (Nat.le_of_ble_eq_true rfl) H (fun Q H => TF_X13_in hW  H) (fun r22 H => ?_)
  refine nx_if rfl rfl (by rfl) H (fun H => ?_) (fun H => ?_)
  · refine nx_ld rfl rfl rfl rfl ?_
    refine nx_getI rfl rfl rfl (by decide) ?_
    refine nx_int (x := 150) rfl rfl ?_
    refine nx_icmp rfl rfl (by rfl) H (fun H => ?_) (fun H => ?_)
    · refine nx_ld rfl rfl rfl rfl ?_
      refine nx_ld rfl rfl rfl rfl ?_
      refine nx_cVI2 (as := [eI v1]) (st' := []) rfl rfl (Nat.le_of_ble_eq_true rfl) rfl rfl (Nat.le_of_ble_eq_true rfl) (c0 := 13) rfl (by decide) H (fun Q H => TF_X13_add hW  H) (fun x24 t25 H => ?_)
      refine nx_st (ls' := [some (eR (some (13, 0))), some (eI v1), some (eI v2), some (eI v3), some (eI x24)]) rfl rfl rfl (Nat.le_of_ble_eq_true rfl) rfl ?_
      refine nx_ld rfl rfl rfl rfl ?_
      refine nx_getFix rfl rfl rfl (by decide) (by rw [hW]; rfl) rfl ?_
      refine nx_ld rfl rfl rfl rfl ?_
      show nX _ _ _ _ _ _ 57 _ _ _ _ _
      refine nx_ld rfl rfl rfl rfl ?_
      refine nx_iast (p := (3309, 0)) rfl rfl (Nat.le_of_ble_eq_true rfl) (Nat.le_of_ble_eq_true rfl) rfl H (fun t26 H => ?_)
      refine nx_ld rfl rfl rfl rfl ?_
      refine nx_getFix rfl rfl rfl (by decide) (by rw [hW]; rfl) rfl ?_
      refine nx_ld rfl rfl rfl rfl ?_
      refine nx_ld rfl rfl rfl rfl ?_
      refine nx_iast (p := (3310, 0)) rfl rfl (Nat.le_of_ble_eq_true rfl) (Nat.le_of_ble_eq_true rfl) rfl H (fun t27 H => ?_)
      refine nx_ld rfl rfl rfl rfl ?_
      show nX _ _ _ _ _ _ 69 _ _ _ _ _
      exact nx_rit rfl rfl H
    refine nx_int (x := (-3)) rfl rfl ?_
    exact nx_rit rfl rfl H
  refine nx_int (x := (-1)) rfl rfl ?_
  exact nx_rit rfl rfl H
def F_X13_club (t : TS) (x1 : Int32) (x2 : Int32) (x3 : Int32) : Option (Int32 × TS) := (if x1 = 5 then (B_X13_club_11  t x1 x2 x3) else (if ¬ x1 = 7 then (some ((-1), t)) else (B_X13_club_11  t x1 x2 x3)))
theorem TF_X13_club {W : NW} {d : Nat} {t : TS} {x1 : Int32} {x2 : Int32} {x3 : Int32} {Q : Option NV → TS → Prop} {bc bs : Nat} (hW : W.2.2.2 = mm_fx) (H : wp (F_X13_club t x1 x2 x3) (fun r => Q (some (eI r.1)) r.2)) : nC W (d + 3) 170 [eR (some (13, 0)), eI x1, eI x2, eI x3] t bc bs Q := by
  refine nC_in (d := (d + 2)) (T := tX13_club) (ls := [some (eR (some (13, 0))), some (eI x1), some (eI x2), some (eI x3), none]) rfl (Nat.le_of_ble_eq_true rfl) rfl (fun a0 e0 => ?_)
  unfold F_X13_club at H
  refine nx_ld rfl rfl rfl rfl ?_
  refine nx_int (x := 5) rfl rfl ?_
  refine nx_icmp rfl rfl (by rfl) H (fun H => ?_) (fun H => ?_)
  · exact TB_X13_club_11 hW    _ _ _ _ H
  refine nx_ld rfl rfl rfl rfl ?_
  refine nx_int (x := 7) rfl rfl ?_
  refine nx_icmp rfl rfl (by rfl) H (fun H => ?_) (fun H => ?_)
  · refine nx_int (x := (-1)) rfl rfl ?_
    exact nx_rit rfl rfl H
  exact TB_X13_club_11 hW    _ _ _ _ H
def B_X13_player_60 (t : TS) (v1 : Int32) (v2 : Int32) (v3 : Int32) (v4 : Int32) : Option (Int32 × TS) := (if ¬ (tI t 1307 0) = 150 then (ob2 (F_X13_add t v1) (fun x22 t23 => (gd x22 (tL t23 3312 0) (nxt (uA t23 3312 0 x22.toNatClampNeg v2) (fun t24 => (gd x22 (tL t24 3313 0) (nxt (uA t24 3313 0 x22.toNatClampNeg v3) (fun t25 => (gd x22 (tL t25 3314 0) (nxt (uA t25 3314 0 x22.toNatClampNeg v4) (fun t26 => (some (x22, t26))))))))))))) else (some ((-3), t)))
theorem TB_X13_player_60 {W : NW} {d : Nat} {Q : Option NV → TS → Prop} {a0 : Nat → Nat → Nat} {e0 : Nat → Nat → Bool} {bc bs : Nat} (hW : W.2.2.2 = mm_fx) : ∀ (t : TS) (v1 : Int32) (v2 : Int32) (v3 : Int32) (v4 : Int32), wp (B_X13_player_60 t v1 v2 v3 v4) (fun r => Q (some (eI r.1)) r.2) → nX W (d + 2) tX13_player Q a0 e0 60 [some (eR (some (13, 0))), some (eI v1), some (eI v2), some (eI v3), some (eI v4), none] [] t bc bs := by
  intro t v1 v2 v3 v4 H
  unfold B_X13_player_60 at H
  refine nx_ld rfl rfl rfl rfl ?_
  refine nx_getI rfl rfl rfl (by decide) ?_
  refine nx_int (x := 150) rfl rfl ?_
  refine nx_icmp rfl rfl (by rfl) H (fun H => ?_) (fun H => ?_)
  · refine nx_ld rfl rfl rfl rfl ?_
    refine nx_ld rfl rfl rfl rfl ?_
    refine nx_cVI2 (as := [eI v1]) (st' := []) rfl rfl (Nat.le_of_ble_eq_true rfl) rfl rfl (Nat.le_of_ble_eq_true rfl) (c0 := 13) rfl (by decide) H (fun Q H => TF_X13_add hW  H) (fun x22 t23 H => ?_)
    refine nx_st (ls' := [some (eR (some (13, 0))), some (eI v1), some (eI v2), some (eI v3), some (eI v4), some (eI x22)]) rfl rfl rfl (Nat.le_of_ble_eq_true rfl) rfl ?_
    refine nx_ld rfl rfl rfl rfl ?_
    refine nx_getFix rfl rfl rfl (by decide) (by rw [hW]; rfl) rfl ?_
    refine nx_ld rfl rfl rfl rfl ?_
    show nX _ _ _ _ _ _ 86 _ _ _ _ _
    refine nx_ld rfl rfl rfl rfl ?_
    refine nx_iast (p := (3312, 0)) rfl rfl (Nat.le_of_ble_eq_true rfl) (Nat.le_of_ble_eq_true rfl) rfl H (fun t24 H => ?_)
    refine nx_ld rfl rfl rfl rfl ?_
    refine nx_getFix rfl rfl rfl (by decide) (by rw [hW]; rfl) rfl ?_
    refine nx_ld rfl rfl rfl rfl ?_
    refine nx_ld rfl rfl rfl rfl ?_
    refine nx_iast (p := (3313, 0)) rfl rfl (Nat.le_of_ble_eq_true rfl) (Nat.le_of_ble_eq_true rfl) rfl H (fun t25 H => ?_)
    refine nx_ld rfl rfl rfl rfl ?_
    show nX _ _ _ _ _ _ 97 _ _ _ _ _
    refine nx_getFix rfl rfl rfl (by decide) (by rw [hW]; rfl) rfl ?_
    refine nx_ld rfl rfl rfl rfl ?_
    refine nx_ld rfl rfl rfl rfl ?_
    refine nx_iast (p := (3314, 0)) rfl rfl (Nat.le_of_ble_eq_true rfl) (Nat.le_of_ble_eq_true rfl) rfl H (fun t26 H => ?_)
    refine nx_ld rfl rfl rfl rfl ?_
    exact nx_rit rfl rfl H
  refine nx_int (x := (-3)) rfl rfl ?_
  exact nx_rit rfl rfl H
def F_X13_player (t : TS) (x1 : Int32) (x2 : Int32) (x3 : Int32) (x4 : Int32) : Option (Int32 × TS) := (Option.bind (F_X13_in t x1 2 4) (fun r21 => (if r21 = 0 then (some ((-1), t)) else (Option.bind (F_X13_in t x2 (-9000) 0) (fun r22 => (if r22 = 0 then (some ((-1), t)) else (Option.bind (F_X13_in t x3 0 99999) (fun r23 => (if r23 = 0 then (some ((-1), t)) else (if x4 = (-1) then (B_X13_player_60  t x1 x2 x3 x4) else (Option.bind (F_X13_isBody t x4) (fun r24 => (if r24 = 0 then (some ((-1), t)) else (gd x4 (tL t 3308 0) (if (tA t 3308 0 x4.toNatClampNeg) = 6 then (B_X13_player_60  t x1 x2 x3 x4) else (some ((-1), t)))))))))))))))))
theorem TF_X13_player {W : NW} {d : Nat} {t : TS} {x1 : Int32} {x2 : Int32} {x3 : Int32} {x4 : Int32} {Q : Option NV → TS → Prop} {bc bs : Nat} (hW : W.2.2.2 = mm_fx) (H : wp (F_X13_player t x1 x2 x3 x4) (fun r => Q (some (eI r.1)) r.2)) : nC W (d + 3) 171 [eR (some (13, 0)), eI x1, eI x2, eI x3, eI x4] t bc bs Q := by
  refine nC_in (d := (d + 2)) (T := tX13_player) (ls := [some (eR (some (13, 0))), some (eI x1), some (eI x2), some (eI x3), some (eI x4), none]) rfl (Nat.le_of_ble_eq_true rfl) rfl (fun a0 e0 => ?_)
  unfold F_X13_player at H
  refine nx_ld rfl rfl rfl rfl ?_
  refine nx_int (x := 2) rfl rfl ?_
  refine nx_int (x := 4) rfl rfl ?_
  refine nx_cSI (as := [eI x1, eI 2, eI 4]) (st' := []) rfl rfl (Nat.le_of_ble_eq_true rfl) rfl rfl (Nat.le_of_ble_eq_true rfl) H (fun Q H => TF_X13_in hW  H) (fun r21 H => ?_)
  refine nx_if rfl rfl (by rfl) H (fun H => ?_) (fun H => ?_)
  · refine nx_int (x := (-1)) rfl rfl ?_
    exact nx_rit rfl rfl H
  refine nx_ld rfl rfl rfl rfl ?_
  refine nx_int (x := (-9000)) rfl rfl ?_
  refine nx_int (x := 0) rfl rfl ?_
  refine nx_cSI (as := [eI x2, eI (-9000), eI 0]) (st' := []) rfl rfl (Nat.le_of_ble_eq_true rfl) rfl rfl (Nat.le_of_ble_eq_true rfl) H (fun Q H => TF_X13_in hW  H) (fun r22 H => ?_)
  refine nx_if rfl rfl (by rfl) H (fun H => ?_) (fun H => ?_)
  · refine nx_int (x := (-1)) rfl rfl ?_
    exact nx_rit rfl rfl H
  refine nx_ld rfl rfl rfl rfl ?_
  refine nx_int (x := 0) rfl rfl ?_
  refine nx_int (x := 99999) rfl rfl ?_
  refine nx_cSI (as := [eI x3, eI 0, eI 99999]) (st' := []) rfl rfl (Nat.le_of_ble_eq_true rfl) rfl rfl (Nat.le_of_ble_eq_true rfl) H (fun Q H => TF_X13_in hW  H) (fun r23 H => ?_)
  refine nx_if rfl rfl (by rfl) H (fun H => ?_) (fun H => ?_)
  · refine nx_int (x := (-1)) rfl rfl ?_
    exact nx_rit rfl rfl H
  refine nx_ld rfl rfl rfl rfl ?_
  refine nx_int (x := (-1)) rfl rfl ?_
  refine nx_icmp rfl rfl (by rfl) H (fun H => ?_) (fun H => ?_)
  · exact TB_X13_player_60 hW    _ _ _ _ _ H
  refine nx_ld rfl rfl rfl rfl ?_
  refine nx_ld rfl rfl rfl rfl ?_
  refine nx_cVI (as := [eI x4]) (st' := []) rfl rfl (Nat.le_of_ble_eq_true rfl) rfl rfl (Nat.le_of_ble_eq_true rfl) (c0 := 13) rfl (by decide) H (fun Q H => TF_X13_isBody hW  H) (fun r24 H => ?_)
  refine nx_if rfl rfl (by rfl) H (fun H => ?_) (fun H => ?_)
  · refine nx_int (x := (-1)) rfl rfl ?_
    exact nx_rit rfl rfl H
  refine nx_ld rfl rfl rfl rfl ?_
  refine nx_getFix rfl rfl rfl (by decide) (by rw [hW]; rfl) rfl ?_
  refine nx_ld rfl rfl rfl rfl ?_
  refine nx_iald (p := (3308, 0)) rfl rfl (Nat.le_of_ble_eq_true rfl) (Nat.le_of_ble_eq_true rfl) rfl H (fun H => ?_)
  refine nx_int (x := 6) rfl rfl ?_
  refine nx_icmp rfl rfl (by rfl) H (fun H => ?_) (fun H => ?_)
  · exact TB_X13_player_60 hW    _ _ _ _ _ H
  refine nx_int (x := (-1)) rfl rfl ?_
  exact nx_rit rfl rfl H
def F_X13_income (t : TS) (x1 : Int32) (x2 : Int32) (x3 : Int32) : Option (Int32 × TS) := (Option.bind (F_X13_isClub t x1) (fun r21 => (if r21 = 0 then (some ((-1), t)) else (Option.bind (F_X13_in t x2 0 9) (fun r22 => (if r22 = 0 then (some ((-1), t)) else (Option.bind (F_X13_in t x3 0 9999999) (fun r23 => (if ¬ r23 = 0 then (gd ((10 * x1) + x2) (tL t 3311 0) (gd ((10 * x1) + x2) (tL t 3311 0) (nxt (uA t 3311 0 ((10 * x1) + x2).toNatClampNeg x3) (fun t24 => (some ((tA t 3311 0 ((10 * x1) + x2).toNatClampNeg), t24)))))) else (some ((-1), t)))))))))))
theorem TF_X13_income {W : NW} {d : Nat} {t : TS} {x1 : Int32} {x2 : Int32} {x3 : Int32} {Q : Option NV → TS → Prop} {bc bs : Nat} (hW : W.2.2.2 = mm_fx) (H : wp (F_X13_income t x1 x2 x3) (fun r => Q (some (eI r.1)) r.2)) : nC W (d + 4) 172 [eR (some (13, 0)), eI x1, eI x2, eI x3] t bc bs Q := by
  refine nC_in (d := (d + 3)) (T := tX13_income) (ls := [some (eR (some (13, 0))), some (eI x1), some (eI x2), some (eI x3), none]) rfl (Nat.le_of_ble_eq_true rfl) rfl (fun a0 e0 => ?_)
  unfold F_X13_income at H
  refine nx_ld rfl rfl rfl rfl ?_
  refine nx_ld rfl rfl rfl rfl ?_
  refine nx_cVI (as := [eI x1]) (st' := []) rfl rfl (Nat.le_of_ble_eq_true rfl) rfl rfl (Nat.le_of_ble_eq_true rfl) (c0 := 13) rfl (by decide) H (fun Q H => TF_X13_isClub hW  H) (fun r21 H => ?_)
  refine nx_if rfl rfl (by rfl) H (fun H => ?_) (fun H => ?_)
  · refine nx_int (x := (-1)) rfl rfl ?_
    exact nx_rit rfl rfl H
  refine nx_ld rfl rfl rfl rfl ?_
  refine nx_int (x := 0) rfl rfl ?_
  refine nx_int (x := 9) rfl rfl ?_
  refine nx_cSI (as := [eI x2, eI 0, eI 9]) (st' := []) rfl rfl (Nat.le_of_ble_eq_true rfl) rfl rfl (Nat.le_of_ble_eq_true rfl) H (fun Q H => TF_X13_in hW  H) (fun r22 H => ?_)
  refine nx_if rfl rfl (by rfl) H (fun H => ?_) (fun H => ?_)
  · refine nx_int (x := (-1)) rfl rfl ?_
    exact nx_rit rfl rfl H
  refine nx_ld rfl rfl rfl rfl ?_
  refine nx_int (x := 0) rfl rfl ?_
  refine nx_int (x := 9999999) rfl rfl ?_
  refine nx_cSI (as := [eI x3, eI 0, eI 9999999]) (st' := []) rfl rfl (Nat.le_of_ble_eq_true rfl) rfl rfl (Nat.le_of_ble_eq_true rfl) H (fun Q H => TF_X13_in hW  H) (fun r23 H => ?_)
  refine nx_if rfl rfl (by rfl) H (fun H => ?_) (fun H => ?_)
  · refine nx_ld rfl rfl rfl rfl ?_
    refine nx_getFix rfl rfl rfl (by decide) (by rw [hW]; rfl) rfl ?_
    refine nx_int (x := 10) rfl rfl ?_
    refine nx_ld rfl rfl rfl rfl ?_
    refine nx_ii rfl rfl ?_
    refine nx_ld rfl rfl rfl rfl ?_
    refine nx_ii rfl rfl ?_
    show nX _ _ _ _ _ _ 41 _ _ _ _ _
    refine nx_iald (p := (3311, 0)) rfl rfl (Nat.le_of_ble_eq_true rfl) (Nat.le_of_ble_eq_true rfl) rfl H (fun H => ?_)
    refine nx_st (ls' := [some (eR (some (13, 0))), some (eI x1), some (eI x2), some (eI x3), some (eI (tA t 3311 0 ((10 * x1) + x2).toNatClampNeg))]) rfl rfl rfl (Nat.le_of_ble_eq_true rfl) rfl ?_
    refine nx_ld rfl rfl rfl rfl ?_
    refine nx_getFix rfl rfl rfl (by decide) (by rw [hW]; rfl) rfl ?_
    refine nx_int (x := 10) rfl rfl ?_
    refine nx_ld rfl rfl rfl rfl ?_
    refine nx_ii rfl rfl ?_
    refine nx_ld rfl rfl rfl rfl ?_
    show nX _ _ _ _ _ _ 53 _ _ _ _ _
    refine nx_ii rfl rfl ?_
    refine nx_ld rfl rfl rfl rfl ?_
    refine nx_iast (p := (3311, 0)) rfl rfl (Nat.le_of_ble_eq_true rfl) (Nat.le_of_ble_eq_true rfl) rfl H (fun t24 H => ?_)
    refine nx_ld rfl rfl rfl rfl ?_
    exact nx_rit rfl rfl H
  refine nx_int (x := (-1)) rfl rfl ?_
  exact nx_rit rfl rfl H
def F_X13_ageOn (t : TS) (x1 : Int32) (x2 : Int32) : Option Int32 := (gd x1 (tL t 3312 0) (some (((x2 - (tA t 3312 0 x1.toNatClampNeg)) / 300))))
theorem TF_X13_ageOn {W : NW} {d : Nat} {t : TS} {x1 : Int32} {x2 : Int32} {Q : Option NV → TS → Prop} {bc bs : Nat} (hW : W.2.2.2 = mm_fx) (H : wp (F_X13_ageOn t x1 x2) (fun r => Q (some (eI r)) t)) : nC W (d + 1) 173 [eR (some (13, 0)), eI x1, eI x2] t bc bs Q := by
  refine nC_in (d := d) (T := tX13_ageOn) (ls := [some (eR (some (13, 0))), some (eI x1), some (eI x2)]) rfl (Nat.le_of_ble_eq_true rfl) rfl (fun a0 e0 => ?_)
  unfold F_X13_ageOn at H
  refine nx_ld rfl rfl rfl rfl ?_
  refine nx_ld rfl rfl rfl rfl ?_
  refine nx_getFix rfl rfl rfl (by decide) (by rw [hW]; rfl) rfl ?_
  refine nx_ld rfl rfl rfl rfl ?_
  refine nx_iald (p := (3312, 0)) rfl rfl (Nat.le_of_ble_eq_true rfl) (Nat.le_of_ble_eq_true rfl) rfl H (fun H => ?_)
  refine nx_ii rfl rfl ?_
  refine nx_int (x := 300) rfl rfl ?_
  show nX _ _ _ _ _ _ 11 _ _ _ _ _
  refine nx_idivL rfl rfl (by decide) ?_
  exact nx_ri rfl rfl H
