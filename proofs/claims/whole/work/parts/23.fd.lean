/-! functions of methods over the typed heap, and that the runs follow them (by program: wip/whole/walk.py) -/
def F_X12_bodyAt (t : TS) (x1 : Int32) : Option (Option Nat) := (Option.bind (F_X12_within t x1 0 ((tI t 1204 0) - 1)) (fun r21 => (if r21 = 0 then (some none) else (gd x1 (tL t 3203 0) (nxt (tQ t 3203 0 x1.toNatClampNeg) (fun o22 => (some o22)))))))
theorem TF_X12_bodyAt {W : NW} {d : Nat} {t : TS} {x1 : Int32} {Q : Option NV → TS → Prop} {bc bs : Nat} (hW : W.2.2.2 = mm_fx) (H : wp (F_X12_bodyAt t x1) (fun r => Q (some (eO 1 r)) t)) : nC W (d + 2) 116 [eR (some (12, 0)), eI x1] t bc bs Q := by
  refine nC_in (d := (d + 1)) (T := tX12_bodyAt) (ls := [some (eR (some (12, 0))), some (eI x1)]) rfl (Nat.le_of_ble_eq_true rfl) rfl (fun a0 e0 => ?_)
  unfold F_X12_bodyAt at H
  refine nx_ld rfl rfl rfl rfl ?_
  refine nx_int (x := 0) rfl rfl ?_
  refine nx_ld rfl rfl rfl rfl ?_
  refine nx_getI rfl rfl rfl (by decide) ?_
  refine nx_int (x := 1) rfl rfl ?_
  refine nx_ii rfl rfl ?_
  refine nx_cSI (as := [eI x1, eI 0, eI ((tI t 1204 0) - 1)]) (st' := []) rfl rfl (Nat.le_of_ble_eq_true rfl) rfl rfl (Nat.le_of_ble_eq_true rfl) H (fun Q H => TF_X12_within hW  H) (fun r21 H => ?_)
  show nX _ _ _ _ _ _ 11 _ _ _ _ _
  refine nx_if rfl rfl (by rfl) H (fun H => ?_) (fun H => ?_)
  · refine nx_nul 1 rfl rfl ?_
    exact nx_ro 1 none rfl rfl H
  refine nx_ld rfl rfl rfl rfl ?_
  refine nx_getFix rfl rfl rfl (by decide) (by rw [hW]; rfl) rfl ?_
  refine nx_ld rfl rfl rfl rfl ?_
  refine nx_aald (c := 3203) (i := 0) rfl rfl (Nat.le_of_ble_eq_true rfl) (Nat.le_of_ble_eq_true rfl) (Nat.le_of_ble_eq_true rfl) rfl H (fun o22 H => ?_)
  refine nx_goto rfl rfl ?_
  exact nx_ro 1 o22 rfl rfl H
def B_X12_player_34 (t : TS) (v1 : Int32) (v2 : Int32) (v3 : Int32) (v5 : Option Nat) (s0 : Int32) : Option (Int32 × TS) := (Option.bind (F_X12_within t v1 2 4) (fun r21 => (if r21 = 0 then (some ((-1), t)) else (Option.bind (F_X12_within t v2 (-9000) 0) (fun r22 => (if r22 = 0 then (some ((-1), t)) else (Option.bind (F_X12_within t v3 0 99999) (fun r23 => (if r23 = 0 then (some ((-1), t)) else (if ¬ s0 = 0 then (ob2 (F_X12_addBody t v1) (fun o25 t26 => (oc o25 (some ((-3), t26)) (fun j27 => (nxt (uI t26 105 j27 v2) (fun t28 => (nxt (uI t28 106 j27 v3) (fun t29 => (nxt (uR t29 107 j27 v5) (fun t30 => (some ((tI t30 100 j27), t30)))))))))))) else (some ((-1), t))))))))))))
theorem TB_X12_player_34 {W : NW} {d : Nat} {Q : Option NV → TS → Prop} {a0 : Nat → Nat → Nat} {e0 : Nat → Nat → Bool} {bc bs : Nat} (hW : W.2.2.2 = mm_fx) : ∀ (t : TS) (v1 : Int32) (v2 : Int32) (v3 : Int32) (v4 : Int32) (v5 : Option Nat) (s0 : Int32), wp (B_X12_player_34 t v1 v2 v3 v5 s0) (fun r => Q (some (eI r.1)) r.2) → nX W (d + 2) tX12_player Q a0 e0 34 [some (eR (some (12, 0))), some (eI v1), some (eI v2), some (eI v3), some (eI v4), some (eO 1 v5), none, none] [eI s0] t (bc + 2) (bs + 23) := by
  intro t v1 v2 v3 v4 v5 s0 H
  unfold B_X12_player_34 at H
  refine nx_st (ls' := [some (eR (some (12, 0))), some (eI v1), some (eI v2), some (eI v3), some (eI v4), some (eO 1 v5), some (eI s0), none]) rfl rfl rfl (Nat.le_of_ble_eq_true rfl) rfl ?_
  refine nx_ld rfl rfl rfl rfl ?_
  refine nx_int (x := 2) rfl rfl ?_
  refine nx_int (x := 4) rfl rfl ?_
  refine nx_cSI (as := [eI v1, eI 2, eI 4]) (st' := []) rfl rfl (Nat.le_of_ble_eq_true rfl) rfl rfl (Nat.le_of_ble_eq_true rfl) H (fun Q H => TF_X12_within hW  H) (fun r21 H => ?_)
  refine nx_if rfl rfl (by rfl) H (fun H => ?_) (fun H => ?_)
  · refine nx_int (x := (-1)) rfl rfl ?_
    exact nx_rit rfl rfl H
  refine nx_ld rfl rfl rfl rfl ?_
  refine nx_int (x := (-9000)) rfl rfl ?_
  refine nx_int (x := 0) rfl rfl ?_
  refine nx_cSI (as := [eI v2, eI (-9000), eI 0]) (st' := []) rfl rfl (Nat.le_of_ble_eq_true rfl) rfl rfl (Nat.le_of_ble_eq_true rfl) H (fun Q H => TF_X12_within hW  H) (fun r22 H => ?_)
  refine nx_if rfl rfl (by rfl) H (fun H => ?_) (fun H => ?_)
  · refine nx_int (x := (-1)) rfl rfl ?_
    exact nx_rit rfl rfl H
  refine nx_ld rfl rfl rfl rfl ?_
  refine nx_int (x := 0) rfl rfl ?_
  refine nx_int (x := 99999) rfl rfl ?_
  refine nx_cSI (as := [eI v3, eI 0, eI 99999]) (st' := []) rfl rfl (Nat.le_of_ble_eq_true rfl) rfl rfl (Nat.le_of_ble_eq_true rfl) H (fun Q H => TF_X12_within hW  H) (fun r23 H => ?_)
  refine nx_if rfl rfl (by rfl) H (fun H => ?_) (fun H => ?_)
  · refine nx_int (x := (-1)) rfl rfl ?_
    exact nx_rit rfl rfl H
  refine nx_ld rfl rfl rfl rfl ?_
  refine nx_if rfl rfl (by rfl) H (fun H => ?_) (fun H => ?_)
  · refine nx_ld rfl rfl rfl rfl ?_
    refine nx_ld rfl rfl rfl rfl ?_
    refine nx_aVO2 1 2 23 (as := [eI v1]) (st' := []) rfl rfl (Nat.le_of_ble_eq_true rfl) rfl rfl (Nat.le_of_ble_eq_true rfl) (c0 := 12) rfl (by decide) (by omega) (by omega) H (fun Q H => TF_X12_addBody hW  H) (fun o25 t26 H => ?_)
    refine nx_eq (bc' := bc) (bs' := bs) (by omega) (by omega) ?_
    refine nx_st (ls' := [some (eR (some (12, 0))), some (eI v1), some (eI v2), some (eI v3), some (eI v4), some (eO 1 v5), some (eI s0), some (eO 1 o25)]) rfl rfl rfl (Nat.le_of_ble_eq_true rfl) rfl ?_
    refine nx_ld rfl rfl rfl rfl ?_
    rcases o25 with _ | j27
    · replace H := oc_no H
      refine nx_non0 (c := 1) rfl rfl ?_
      refine nx_int (x := (-3)) rfl rfl ?_
      exact nx_rit rfl rfl H
    replace H := oc_so H
    refine nx_non1 rfl rfl ?_
    refine nx_ld rfl rfl rfl rfl ?_
    refine nx_ld rfl rfl rfl rfl ?_
    refine nx_putI rfl rfl rfl (by decide) H (fun t28 H => ?_)
    refine nx_ld rfl rfl rfl rfl ?_
    refine nx_ld rfl rfl rfl rfl ?_
    refine nx_putI rfl rfl rfl (by decide) H (fun t29 H => ?_)
    refine nx_ld rfl rfl rfl rfl ?_
    show nX _ _ _ _ _ _ 102 _ _ _ _ _
    refine nx_ld rfl rfl rfl rfl ?_
    refine nx_putR (f := 107) (o := v5) rfl rfl rfl (by decide) (by rw [hW]; rfl) rfl (by decide) H (fun t30 H => ?_)
    refine nx_ld rfl rfl rfl rfl ?_
    refine nx_getI rfl rfl rfl (by decide) ?_
    exact nx_rit rfl rfl H
  refine nx_int (x := (-1)) rfl rfl ?_
  exact nx_rit rfl rfl H
def B_X12_player_29 (t : TS) (v1 : Int32) (v2 : Int32) (v3 : Int32) (v5 : Option Nat) : Option (Int32 × TS) := (B_X12_player_34  t v1 v2 v3 v5 1)
theorem TB_X12_player_29 {W : NW} {d : Nat} {Q : Option NV → TS → Prop} {a0 : Nat → Nat → Nat} {e0 : Nat → Nat → Bool} {bc bs : Nat} (hW : W.2.2.2 = mm_fx) : ∀ (t : TS) (v1 : Int32) (v2 : Int32) (v3 : Int32) (v4 : Int32) (v5 : Option Nat), wp (B_X12_player_29 t v1 v2 v3 v5) (fun r => Q (some (eI r.1)) r.2) → nX W (d + 2) tX12_player Q a0 e0 29 [some (eR (some (12, 0))), some (eI v1), some (eI v2), some (eI v3), some (eI v4), some (eO 1 v5), none, none] [] t (bc + 2) (bs + 23) := by
  intro t v1 v2 v3 v4 v5 H
  unfold B_X12_player_29 at H
  refine nx_int (x := 1) rfl rfl ?_
  refine nx_goto rfl rfl ?_
  refine nx_eq (bc' := (bc) + 2) (bs' := (bs) + 23) (by omega) (by omega) ?_
  exact TB_X12_player_34 hW    _ _ _ _ _ _ _ H
def B_X12_player_33 (t : TS) (v1 : Int32) (v2 : Int32) (v3 : Int32) (v5 : Option Nat) : Option (Int32 × TS) := (B_X12_player_34  t v1 v2 v3 v5 0)
theorem TB_X12_player_33 {W : NW} {d : Nat} {Q : Option NV → TS → Prop} {a0 : Nat → Nat → Nat} {e0 : Nat → Nat → Bool} {bc bs : Nat} (hW : W.2.2.2 = mm_fx) : ∀ (t : TS) (v1 : Int32) (v2 : Int32) (v3 : Int32) (v4 : Int32) (v5 : Option Nat), wp (B_X12_player_33 t v1 v2 v3 v5) (fun r => Q (some (eI r.1)) r.2) → nX W (d + 2) tX12_player Q a0 e0 33 [some (eR (some (12, 0))), some (eI v1), some (eI v2), some (eI v3), some (eI v4), some (eO 1 v5), none, none] [] t (bc + 2) (bs + 23) := by
  intro t v1 v2 v3 v4 v5 H
  unfold B_X12_player_33 at H
  refine nx_int (x := 0) rfl rfl ?_
  refine nx_eq (bc' := (bc) + 2) (bs' := (bs) + 23) (by omega) (by omega) ?_
  exact TB_X12_player_34 hW    _ _ _ _ _ _ _ H
def F_X12_player (t : TS) (x1 : Int32) (x2 : Int32) (x3 : Int32) (x4 : Int32) : Option (Int32 × TS) := (Option.bind (F_X12_bodyAt t x4) (fun r21 => (if x4 = (-1) then (B_X12_player_29  t x1 x2 x3 r21) else (oc r21 (B_X12_player_33  t x1 x2 x3 none) (fun j22 => (if ¬ (tI t 101 j22) = 6 then (B_X12_player_33  t x1 x2 x3 (some j22)) else (B_X12_player_29  t x1 x2 x3 (some j22))))))))
theorem TF_X12_player {W : NW} {d : Nat} {t : TS} {x1 : Int32} {x2 : Int32} {x3 : Int32} {x4 : Int32} {Q : Option NV → TS → Prop} {bc bs : Nat} (hW : W.2.2.2 = mm_fx) (H : wp (F_X12_player t x1 x2 x3 x4) (fun r => Q (some (eI r.1)) r.2)) : nC W (d + 3) 71 [eR (some (12, 0)), eI x1, eI x2, eI x3, eI x4] t (bc + 2) (bs + 23) Q := by
  refine nC_in (d := (d + 2)) (T := tX12_player) (ls := [some (eR (some (12, 0))), some (eI x1), some (eI x2), some (eI x3), some (eI x4), none, none, none]) rfl (Nat.le_of_ble_eq_true rfl) rfl (fun a0 e0 => ?_)
  unfold F_X12_player at H
  refine nx_ld rfl rfl rfl rfl ?_
  refine nx_ld rfl rfl rfl rfl ?_
  refine nx_cVO 1 (as := [eI x4]) (st' := []) rfl rfl (Nat.le_of_ble_eq_true rfl) rfl rfl (Nat.le_of_ble_eq_true rfl) (c0 := 12) rfl (by decide) H (fun Q H => TF_X12_bodyAt hW  H) (fun r21 H => ?_)
  refine nx_st (ls' := [some (eR (some (12, 0))), some (eI x1), some (eI x2), some (eI x3), some (eI x4), some (eO 1 r21), none, none]) rfl rfl rfl (Nat.le_of_ble_eq_true rfl) rfl ?_
  refine nx_ld rfl rfl rfl rfl ?_
  refine nx_int (x := (-1)) rfl rfl ?_
  refine nx_icmp rfl rfl (by rfl) H (fun H => ?_) (fun H => ?_)
  · refine nx_eq (bc' := (bc) + 2) (bs' := (bs) + 23) (by omega) (by omega) ?_
    exact TB_X12_player_29 hW    _ _ _ _ _ _ H
  refine nx_ld rfl rfl rfl rfl ?_
  rcases r21 with _ | j22
  · replace H := oc_no H
    refine nx_null0 (c := 1) rfl rfl ?_
    refine nx_eq (bc' := (bc) + 2) (bs' := (bs) + 23) (by omega) (by omega) ?_
    exact TB_X12_player_33 hW    _ _ _ _ _ _ H
  replace H := oc_so H
  refine nx_null1 rfl rfl ?_
  refine nx_ld rfl rfl rfl rfl ?_
  refine nx_getI rfl rfl rfl (by decide) ?_
  refine nx_int (x := 6) rfl rfl ?_
  refine nx_icmp rfl rfl (by rfl) H (fun H => ?_) (fun H => ?_)
  · refine nx_eq (bc' := (bc) + 2) (bs' := (bs) + 23) (by omega) (by omega) ?_
    exact TB_X12_player_33 hW    _ _ _ _ _ ((some j22)) H
  refine nx_eq (bc' := (bc) + 2) (bs' := (bs) + 23) (by omega) (by omega) ?_
  exact TB_X12_player_29 hW    _ _ _ _ _ ((some j22)) H
def F_X12_clubAt (t : TS) (x1 : Int32) : Option (Option Nat) := (Option.bind (F_X12_bodyAt t x1) (fun r21 => (oc r21 (some none) (fun j22 => (Option.bind (F_X1_isClub t j22) (fun r23 => (if r23 = 0 then (some none) else (some (some j22)))))))))
theorem TF_X12_clubAt {W : NW} {d : Nat} {t : TS} {x1 : Int32} {Q : Option NV → TS → Prop} {bc bs : Nat} (hW : W.2.2.2 = mm_fx) (H : wp (F_X12_clubAt t x1) (fun r => Q (some (eO 1 r)) t)) : nC W (d + 3) 117 [eR (some (12, 0)), eI x1] t bc bs Q := by
  refine nC_in (d := (d + 2)) (T := tX12_clubAt) (ls := [some (eR (some (12, 0))), some (eI x1), none]) rfl (Nat.le_of_ble_eq_true rfl) rfl (fun a0 e0 => ?_)
  unfold F_X12_clubAt at H
  refine nx_ld rfl rfl rfl rfl ?_
  refine nx_ld rfl rfl rfl rfl ?_
  refine nx_cVO 1 (as := [eI x1]) (st' := []) rfl rfl (Nat.le_of_ble_eq_true rfl) rfl rfl (Nat.le_of_ble_eq_true rfl) (c0 := 12) rfl (by decide) H (fun Q H => TF_X12_bodyAt hW  H) (fun r21 H => ?_)
  refine nx_st (ls' := [some (eR (some (12, 0))), some (eI x1), some (eO 1 r21)]) rfl rfl rfl (Nat.le_of_ble_eq_true rfl) rfl ?_
  refine nx_ld rfl rfl rfl rfl ?_
  rcases r21 with _ | j22
  · replace H := oc_no H
    refine nx_null0 (c := 1) rfl rfl ?_
    refine nx_nul 1 rfl rfl ?_
    exact nx_ro 1 none rfl rfl H
  replace H := oc_so H
  refine nx_null1 rfl rfl ?_
  refine nx_ld rfl rfl rfl rfl ?_
  refine nx_cVI (as := []) (st' := []) rfl rfl (Nat.le_of_ble_eq_true rfl) rfl rfl (Nat.le_of_ble_eq_true rfl) (c0 := 1) rfl (by decide) H (fun Q H => TF_X1_isClub hW  H) (fun r23 H => ?_)
  refine nx_if rfl rfl (by rfl) H (fun H => ?_) (fun H => ?_)
  · refine nx_nul 1 rfl rfl ?_
    exact nx_ro 1 none rfl rfl H
  refine nx_ld rfl rfl rfl rfl ?_
  refine nx_goto rfl rfl ?_
  exact nx_ro 1 (some j22) rfl rfl H
def F_X12_income (t : TS) (x1 : Int32) (x2 : Int32) (x3 : Int32) : Option (Int32 × TS) := (Option.bind (F_X12_clubAt t x1) (fun r21 => (oc r21 (some ((-1), t)) (fun j22 => (Option.bind (F_X12_within t x2 0 9) (fun r23 => (if r23 = 0 then (some ((-1), t)) else (Option.bind (F_X12_within t x3 0 9999999) (fun r24 => (if ¬ r24 = 0 then (nxt (tR t 104 j22) (fun o25 => (oc o25 none (fun j26 => (gd x2 (tL t 2104 j26) (nxt (tR t 104 j22) (fun o27 => (oc o27 none (fun j28 => (gd x2 (tL t 2104 j28) (nxt (uA t 2104 j28 x2.toNatClampNeg x3) (fun t29 => (some ((tA t 2104 j26 x2.toNatClampNeg), t29)))))))))))))) else (some ((-1), t))))))))))))
theorem TF_X12_income {W : NW} {d : Nat} {t : TS} {x1 : Int32} {x2 : Int32} {x3 : Int32} {Q : Option NV → TS → Prop} {bc bs : Nat} (hW : W.2.2.2 = mm_fx) (H : wp (F_X12_income t x1 x2 x3) (fun r => Q (some (eI r.1)) r.2)) : nC W (d + 4) 72 [eR (some (12, 0)), eI x1, eI x2, eI x3] t bc bs Q := by
  refine nC_in (d := (d + 3)) (T := tX12_income) (ls := [some (eR (some (12, 0))), some (eI x1), some (eI x2), some (eI x3), none, none]) rfl (Nat.le_of_ble_eq_true rfl) rfl (fun a0 e0 => ?_)
  unfold F_X12_income at H
  refine nx_ld rfl rfl rfl rfl ?_
  refine nx_ld rfl rfl rfl rfl ?_
  refine nx_cVO 1 (as := [eI x1]) (st' := []) rfl rfl (Nat.le_of_ble_eq_true rfl) rfl rfl (Nat.le_of_ble_eq_true rfl) (c0 := 12) rfl (by decide) H (fun Q H => TF_X12_clubAt hW  H) (fun r21 H => ?_)
  refine nx_st (ls' := [some (eR (some (12, 0))), some (eI x1), some (eI x2), some (eI x3), some (eO 1 r21), none]) rfl rfl rfl (Nat.le_of_ble_eq_true rfl) rfl ?_
  refine nx_ld rfl rfl rfl rfl ?_
  rcases r21 with _ | j22
  · replace H := oc_no H
    refine nx_null0 (c := 1) rfl rfl ?_
    refine nx_int (x := (-1)) rfl rfl ?_
    exact nx_rit rfl rfl H
  replace H := oc_so H
  refine nx_null1 rfl rfl ?_
  refine nx_ld rfl rfl rfl rfl ?_
  refine nx_int (x := 0) rfl rfl ?_
  refine nx_int (x := 9) rfl rfl ?_
  refine nx_cSI (as := [eI x2, eI 0, eI 9]) (st' := []) rfl rfl (Nat.le_of_ble_eq_true rfl) rfl rfl (Nat.le_of_ble_eq_true rfl) H (fun Q H => TF_X12_within hW  H) (fun r23 H => ?_)
  refine nx_if rfl rfl (by rfl) H (fun H => ?_) (fun H => ?_)
  · refine nx_int (x := (-1)) rfl rfl ?_
    exact nx_rit rfl rfl H
  refine nx_ld rfl rfl rfl rfl ?_
  refine nx_int (x := 0) rfl rfl ?_
  refine nx_int (x := 9999999) rfl rfl ?_
  refine nx_cSI (as := [eI x3, eI 0, eI 9999999]) (st' := []) rfl rfl (Nat.le_of_ble_eq_true rfl) rfl rfl (Nat.le_of_ble_eq_true rfl) H (fun Q H => TF_X12_within hW  H) (fun r24 H => ?_)
  refine nx_if rfl rfl (by rfl) H (fun H => ?_) (fun H => ?_)
  · refine nx_ld rfl rfl rfl rfl ?_
    refine nx_getR rfl rfl rfl (by decide) rfl H (fun o25 H => ?_)
    refine nx_ld rfl rfl rfl rfl ?_
    rcases o25 with _ | j26
    · exact (wp_none (oc_no H)).elim
    replace H := oc_so H
    refine nx_iald (p := (2104, j26)) rfl rfl (Nat.le_of_ble_eq_true rfl) (Nat.le_of_ble_eq_true rfl) rfl H (fun H => ?_)
    refine nx_st (ls' := [some (eR (some (12, 0))), some (eI x1), some (eI x2), some (eI x3), some (eR (some (1, j22))), some (eI (tA t 2104 j26 x2.toNatClampNeg))]) rfl rfl rfl (Nat.le_of_ble_eq_true rfl) rfl ?_
    refine nx_ld rfl rfl rfl rfl ?_
    refine nx_getR rfl rfl rfl (by decide) rfl H (fun o27 H => ?_)
    show nX _ _ _ _ _ _ 48 _ _ _ _ _
    refine nx_ld rfl rfl rfl rfl ?_
    refine nx_ld rfl rfl rfl rfl ?_
    rcases o27 with _ | j28
    · exact (wp_none (oc_no H)).elim
    replace H := oc_so H
    refine nx_iast (p := (2104, j28)) rfl rfl (Nat.le_of_ble_eq_true rfl) (Nat.le_of_ble_eq_true rfl) rfl H (fun t29 H => ?_)
    refine nx_ld rfl rfl rfl rfl ?_
    exact nx_rit rfl rfl H
  refine nx_int (x := (-1)) rfl rfl ?_
  exact nx_rit rfl rfl H
def F_X12_ofPlayer (t : TS) (o1 : Option Nat) (x2 : Int32) : Option Int32 := (oc o1 none (fun j21 => (Option.bind (F_X1_holding t j21 (tI t 1200 0)) (fun r22 => (Option.bind (F_X1_owning t j21 (tI t 1200 0)) (fun r23 => (swi x2 1 [(Option.bind (F_X1_ageOn t j21 (tI t 1200 0)) (fun r24 => (some (r24)))), (some ((tI t 106 j21))), (nxt (tR t 107 j21) (fun o25 => (oc o25 (some ((-1))) (fun j26 => (nxt (tR t 107 j21) (fun o27 => (oc o27 none (fun j28 => (some ((tI t 100 j28))))))))))), (oc r22 (some ((-1))) (fun j29 => (nxt (tR t 1101 j29) (fun o30 => (oc o30 none (fun j31 => (some ((tI t 100 j31))))))))), (oc r23 (some ((-1))) (fun j32 => (nxt (tR t 1101 j32) (fun o33 => (oc o33 none (fun j34 => (some ((tI t 100 j34))))))))), (some ((tI t 111 j21))), (oc r23 (some ((-1))) (fun j35 => (some ((tI t 1104 j35))))), (oc r23 (some (0)) (fun j36 => (some ((tI t 1105 j36))))), (Option.bind (F_X12_bit t (tI t 108 j21)) (fun r37 => (some (r37))))] (some ((-2000000000))))))))))
theorem TF_X12_ofPlayer {W : NW} {d : Nat} {t : TS} {o1 : Option Nat} {x2 : Int32} {Q : Option NV → TS → Prop} {bc bs : Nat} (hW : W.2.2.2 = mm_fx) (H : wp (F_X12_ofPlayer t o1 x2) (fun r => Q (some (eI r)) t)) : nC W (d + 2) 122 [eR (some (12, 0)), eO 1 o1, eI x2] t bc bs Q := by
  refine nC_in (d := (d + 1)) (T := tX12_ofPlayer) (ls := [some (eR (some (12, 0))), some (eO 1 o1), some (eI x2), none, none]) rfl (Nat.le_of_ble_eq_true rfl) rfl (fun a0 e0 => ?_)
  unfold F_X12_ofPlayer at H
  refine nx_ld rfl rfl rfl rfl ?_
  refine nx_ld rfl rfl rfl rfl ?_
  refine nx_getI rfl rfl rfl (by decide) ?_
  rcases o1 with _ | j21
  · exact (wp_none (oc_no H)).elim
  replace H := oc_so H
  refine nx_cVO 11 (as := [eI (tI t 1200 0)]) (st' := []) rfl rfl (Nat.le_of_ble_eq_true rfl) rfl rfl (Nat.le_of_ble_eq_true rfl) (c0 := 1) rfl (by decide) H (fun Q H => TF_X1_holding hW  H) (fun r22 H => ?_)
  refine nx_st (ls' := [some (eR (some (12, 0))), some (eR (some (1, j21))), some (eI x2), some (eO 11 r22), none]) rfl rfl rfl (Nat.le_of_ble_eq_true rfl) rfl ?_
  refine nx_ld rfl rfl rfl rfl ?_
  refine nx_ld rfl rfl rfl rfl ?_
  show nX _ _ _ _ _ _ 11 _ _ _ _ _
  refine nx_getI rfl rfl rfl (by decide) ?_
  refine nx_cVO 11 (as := [eI (tI t 1200 0)]) (st' := []) rfl rfl (Nat.le_of_ble_eq_true rfl) rfl rfl (Nat.le_of_ble_eq_true rfl) (c0 := 1) rfl (by decide) H (fun Q H => TF_X1_owning hW  H) (fun r23 H => ?_)
  refine nx_st (ls' := [some (eR (some (12, 0))), some (eR (some (1, j21))), some (eI x2), some (eO 11 r22), some (eO 11 r23)]) rfl rfl rfl (Nat.le_of_ble_eq_true rfl) rfl ?_
  refine nx_ld rfl rfl rfl rfl ?_
  refine nx_tsw rfl rfl (by decide) (by decide) (by decide) H (fun H => ?_) ?_
  · show nX _ _ _ _ _ _ 182 _ _ _ _ _
    refine nx_int (x := (-2000000000)) rfl rfl ?_
    exact nx_ri rfl rfl H
  refine ⟨fun H => ?_, fun H => ?_, fun H => ?_, fun H => ?_, fun H => ?_, fun H => ?_, fun H => ?_, fun H => ?_, fun H => ?_, trivial⟩
  · show nX _ _ _ _ _ _ 72 _ _ _ _ _
    refine nx_ld rfl rfl rfl rfl ?_
    refine nx_ld rfl rfl rfl rfl ?_
    refine nx_getI rfl rfl rfl (by decide) ?_
    refine nx_cVI (as := [eI (tI t 1200 0)]) (st' := []) rfl rfl (Nat.le_of_ble_eq_true rfl) rfl rfl (Nat.le_of_ble_eq_true rfl) (c0 := 1) rfl (by decide) H (fun Q H => TF_X1_ageOn hW  H) (fun r24 H => ?_)
    exact nx_ri rfl rfl H
  · show nX _ _ _ _ _ _ 81 _ _ _ _ _
    refine nx_ld rfl rfl rfl rfl ?_
    refine nx_getI rfl rfl rfl (by decide) ?_
    exact nx_ri rfl rfl H
  · show nX _ _ _ _ _ _ 86 _ _ _ _ _
    refine nx_ld rfl rfl rfl rfl ?_
    refine nx_getR rfl rfl rfl (by decide) rfl H (fun o25 H => ?_)
    rcases o25 with _ | j26
    · replace H := oc_no H
      refine nx_non0 (c := 1) rfl rfl ?_
      refine nx_int (x := (-1)) rfl rfl ?_
      refine nx_goto rfl rfl ?_
      exact nx_ri rfl rfl H
    replace H := oc_so H
    refine nx_non1 rfl rfl ?_
    refine nx_ld rfl rfl rfl rfl ?_
    refine nx_getR rfl rfl rfl (by decide) rfl H (fun o27 H => ?_)
    rcases o27 with _ | j28
    · exact (wp_none (oc_no H)).elim
    replace H := oc_so H
    refine nx_getI rfl rfl rfl (by decide) ?_
    exact nx_ri rfl rfl H
  · show nX _ _ _ _ _ _ 105 _ _ _ _ _
    refine nx_ld rfl rfl rfl rfl ?_
    rcases r22 with _ | j29
    · replace H := oc_no H
      refine nx_non0 (c := 11) rfl rfl ?_
      refine nx_int (x := (-1)) rfl rfl ?_
      refine nx_goto rfl rfl ?_
      exact nx_ri rfl rfl H
    replace H := oc_so H
    refine nx_non1 rfl rfl ?_
    refine nx_ld rfl rfl rfl rfl ?_
    refine nx_getR rfl rfl rfl (by decide) rfl H (fun o30 H => ?_)
    rcases o30 with _ | j31
    · exact (wp_none (oc_no H)).elim
    replace H := oc_so H
    refine nx_getI rfl rfl rfl (by decide) ?_
    exact nx_ri rfl rfl H
  · show nX _ _ _ _ _ _ 121 _ _ _ _ _
    refine nx_ld rfl rfl rfl rfl ?_
    rcases r23 with _ | j32
    · replace H := oc_no H
      refine nx_non0 (c := 11) rfl rfl ?_
      refine nx_int (x := (-1)) rfl rfl ?_
      refine nx_goto rfl rfl ?_
      exact nx_ri rfl rfl H
    replace H := oc_so H
    refine nx_non1 rfl rfl ?_
    refine nx_ld rfl rfl rfl rfl ?_
    refine nx_getR rfl rfl rfl (by decide) rfl H (fun o33 H => ?_)
    rcases o33 with _ | j34
    · exact (wp_none (oc_no H)).elim
    replace H := oc_so H
    refine nx_getI rfl rfl rfl (by decide) ?_
    exact nx_ri rfl rfl H
  · show nX _ _ _ _ _ _ 139 _ _ _ _ _
    refine nx_ld rfl rfl rfl rfl ?_
    refine nx_getI rfl rfl rfl (by decide) ?_
    exact nx_ri rfl rfl H
  · show nX _ _ _ _ _ _ 144 _ _ _ _ _
    refine nx_ld rfl rfl rfl rfl ?_
    rcases r23 with _ | j35
    · replace H := oc_no H
      refine nx_non0 (c := 11) rfl rfl ?_
      refine nx_int (x := (-1)) rfl rfl ?_
      refine nx_goto rfl rfl ?_
      exact nx_ri rfl rfl H
    replace H := oc_so H
    refine nx_non1 rfl rfl ?_
    refine nx_ld rfl rfl rfl rfl ?_
    refine nx_getI rfl rfl rfl (by decide) ?_
    exact nx_ri rfl rfl H
  · show nX _ _ _ _ _ _ 159 _ _ _ _ _
    refine nx_ld rfl rfl rfl rfl ?_
    rcases r23 with _ | j36
    · replace H := oc_no H
      refine nx_non0 (c := 11) rfl rfl ?_
      refine nx_int (x := 0) rfl rfl ?_
      refine nx_goto rfl rfl ?_
      exact nx_ri rfl rfl H
    replace H := oc_so H
    refine nx_non1 rfl rfl ?_
    refine nx_ld rfl rfl rfl rfl ?_
    refine nx_getI rfl rfl rfl (by decide) ?_
    exact nx_ri rfl rfl H
  · show nX _ _ _ _ _ _ 174 _ _ _ _ _
    refine nx_ld rfl rfl rfl rfl ?_
    refine nx_getI rfl rfl rfl (by decide) ?_
    refine nx_cSI (as := [eI (tI t 108 j21)]) (st' := []) rfl rfl (Nat.le_of_ble_eq_true rfl) rfl rfl (Nat.le_of_ble_eq_true rfl) H (fun Q H => TF_X12_bit hW  H) (fun r37 H => ?_)
    exact nx_ri rfl rfl H
def B_X12_ofBody_53 (t : TS) (v2 : Int32) (v3 : Nat) : Option Int32 := (Option.bind (F_X1_isClub t v3) (fun r21 => (if r21 = 0 then (some ((-2000000000))) else (if ¬ v2 = 2 then (some ((-2000000000))) else (some ((tI t 103 v3)))))))
theorem TB_X12_ofBody_53 {W : NW} {d : Nat} {Q : Option NV → TS → Prop} {a0 : Nat → Nat → Nat} {e0 : Nat → Nat → Bool} {t : TS} {bc bs : Nat} (hW : W.2.2.2 = mm_fx) : ∀ (v1 : Int32) (v2 : Int32) (v3 : Nat), wp (B_X12_ofBody_53 t v2 v3) (fun r => Q (some (eI r)) t) → nX W (d + 2) tX12_ofBody Q a0 e0 53 [some (eR (some (12, 0))), some (eI v1), some (eI v2), some (eR (some (1, v3)))] [] t bc bs := by
  intro v1 v2 v3 H
  unfold B_X12_ofBody_53 at H
  refine nx_ld rfl rfl rfl rfl ?_
  refine nx_cVI (as := []) (st' := []) rfl rfl (Nat.le_of_ble_eq_true rfl) rfl rfl (Nat.le_of_ble_eq_true rfl) (c0 := 1) rfl (by decide) H (fun Q H => TF_X1_isClub hW  H) (fun r21 H => ?_)
  refine nx_if rfl rfl (by rfl) H (fun H => ?_) (fun H => ?_)
  · refine nx_int (x := (-2000000000)) rfl rfl ?_
    exact nx_ri rfl rfl H
  refine nx_ld rfl rfl rfl rfl ?_
  refine nx_int (x := 2) rfl rfl ?_
  refine nx_icmp rfl rfl (by rfl) H (fun H => ?_) (fun H => ?_)
  · refine nx_int (x := (-2000000000)) rfl rfl ?_
    exact nx_ri rfl rfl H
  refine nx_ld rfl rfl rfl rfl ?_
  refine nx_getI rfl rfl rfl (by decide) ?_
  refine nx_goto rfl rfl ?_
  exact nx_ri rfl rfl H
def F_X12_ofBody (t : TS) (x1 : Int32) (x2 : Int32) : Option Int32 := (Option.bind (F_X12_bodyAt t x1) (fun r21 => (oc r21 (some ((-2000000000))) (fun j22 => (if ¬ x2 = 0 then (Option.bind (F_X1_isPlayer t j22) (fun r23 => (if r23 = 0 then (Option.bind (F_X1_isClub t j22) (fun r24 => (if r24 = 0 then (B_X12_ofBody_53  t x2 j22) else (if ¬ x2 = 1 then (B_X12_ofBody_53  t x2 j22) else (some ((tI t 102 j22))))))) else (Option.bind (F_X12_ofPlayer t (some j22) x2) (fun r25 => (some (r25))))))) else (some ((tI t 101 j22))))))))
theorem TF_X12_ofBody {W : NW} {d : Nat} {t : TS} {x1 : Int32} {x2 : Int32} {Q : Option NV → TS → Prop} {bc bs : Nat} (hW : W.2.2.2 = mm_fx) (H : wp (F_X12_ofBody t x1 x2) (fun r => Q (some (eI r)) t)) : nC W (d + 3) 73 [eR (some (12, 0)), eI x1, eI x2] t bc bs Q := by
  refine nC_in (d := (d + 2)) (T := tX12_ofBody) (ls := [some (eR (some (12, 0))), some (eI x1), some (eI x2), none]) rfl (Nat.le_of_ble_eq_true rfl) rfl (fun a0 e0 => ?_)
  unfold F_X12_ofBody at H
  refine nx_ld rfl rfl rfl rfl ?_
  refine nx_ld rfl rfl rfl rfl ?_
  refine nx_cVO 1 (as := [eI x1]) (st' := []) rfl rfl (Nat.le_of_ble_eq_true rfl) rfl rfl (Nat.le_of_ble_eq_true rfl) (c0 := 12) rfl (by decide) H (fun Q H => TF_X12_bodyAt hW  H) (fun r21 H => ?_)
  refine nx_st (ls' := [some (eR (some (12, 0))), some (eI x1), some (eI x2), some (eO 1 r21)]) rfl rfl rfl (Nat.le_of_ble_eq_true rfl) rfl ?_
  refine nx_ld rfl rfl rfl rfl ?_
  rcases r21 with _ | j22
  · replace H := oc_no H
    refine nx_non0 (c := 1) rfl rfl ?_
    refine nx_int (x := (-2000000000)) rfl rfl ?_
    exact nx_ri rfl rfl H
  replace H := oc_so H
  refine nx_non1 rfl rfl ?_
  refine nx_ld rfl rfl rfl rfl ?_
  refine nx_if rfl rfl (by rfl) H (fun H => ?_) (fun H => ?_)
  · refine nx_ld rfl rfl rfl rfl ?_
    refine nx_cVI (as := []) (st' := []) rfl rfl (Nat.le_of_ble_eq_true rfl) rfl rfl (Nat.le_of_ble_eq_true rfl) (c0 := 1) rfl (by decide) H (fun Q H => TF_X1_isPlayer hW  H) (fun r23 H => ?_)
    refine nx_if rfl rfl (by rfl) H (fun H => ?_) (fun H => ?_)
    · refine nx_ld rfl rfl rfl rfl ?_
      refine nx_cVI (as := []) (st' := []) rfl rfl (Nat.le_of_ble_eq_true rfl) rfl rfl (Nat.le_of_ble_eq_true rfl) (c0 := 1) rfl (by decide) H (fun Q H => TF_X1_isClub hW  H) (fun r24 H => ?_)
      refine nx_if rfl rfl (by rfl) H (fun H => ?_) (fun H => ?_)
      · exact TB_X12_ofBody_53 hW    _ _ _ H
      refine nx_ld rfl rfl rfl rfl ?_
      refine nx_int (x := 1) rfl rfl ?_
      refine nx_icmp rfl rfl (by rfl) H (fun H => ?_) (fun H => ?_)
      · exact TB_X12_ofBody_53 hW    _ _ _ H
      refine nx_ld rfl rfl rfl rfl ?_
      refine nx_getI rfl rfl rfl (by decide) ?_
      exact nx_ri rfl rfl H
    refine nx_ld rfl rfl rfl rfl ?_
    refine nx_ld rfl rfl rfl rfl ?_
    refine nx_ld rfl rfl rfl rfl ?_
    refine nx_cVI (as := [eO 1 (some j22), eI x2]) (st' := []) rfl rfl (Nat.le_of_ble_eq_true rfl) rfl rfl (Nat.le_of_ble_eq_true rfl) (c0 := 12) rfl (by decide) H (fun Q H => TF_X12_ofPlayer hW  H) (fun r25 H => ?_)
    exact nx_ri rfl rfl H
  refine nx_ld rfl rfl rfl rfl ?_
  refine nx_getI rfl rfl rfl (by decide) ?_
  exact nx_ri rfl rfl H
def F_X12_playerAt (t : TS) (x1 : Int32) : Option (Option Nat) := (Option.bind (F_X12_bodyAt t x1) (fun r21 => (oc r21 (some none) (fun j22 => (Option.bind (F_X1_isPlayer t j22) (fun r23 => (if r23 = 0 then (some none) else (some (some j22)))))))))
theorem TF_X12_playerAt {W : NW} {d : Nat} {t : TS} {x1 : Int32} {Q : Option NV → TS → Prop} {bc bs : Nat} (hW : W.2.2.2 = mm_fx) (H : wp (F_X12_playerAt t x1) (fun r => Q (some (eO 1 r)) t)) : nC W (d + 3) 118 [eR (some (12, 0)), eI x1] t bc bs Q := by
  refine nC_in (d := (d + 2)) (T := tX12_playerAt) (ls := [some (eR (some (12, 0))), some (eI x1), none]) rfl (Nat.le_of_ble_eq_true rfl) rfl (fun a0 e0 => ?_)
  unfold F_X12_playerAt at H
  refine nx_ld rfl rfl rfl rfl ?_
  refine nx_ld rfl rfl rfl rfl ?_
  refine nx_cVO 1 (as := [eI x1]) (st' := []) rfl rfl (Nat.le_of_ble_eq_true rfl) rfl rfl (Nat.le_of_ble_eq_true rfl) (c0 := 12) rfl (by decide) H (fun Q H => TF_X12_bodyAt hW  H) (fun r21 H => ?_)
  refine nx_st (ls' := [some (eR (some (12, 0))), some (eI x1), some (eO 1 r21)]) rfl rfl rfl (Nat.le_of_ble_eq_true rfl) rfl ?_
  refine nx_ld rfl rfl rfl rfl ?_
  rcases r21 with _ | j22
  · replace H := oc_no H
    refine nx_null0 (c := 1) rfl rfl ?_
    refine nx_nul 1 rfl rfl ?_
    exact nx_ro 1 none rfl rfl H
  replace H := oc_so H
  refine nx_null1 rfl rfl ?_
  refine nx_ld rfl rfl rfl rfl ?_
  refine nx_cVI (as := []) (st' := []) rfl rfl (Nat.le_of_ble_eq_true rfl) rfl rfl (Nat.le_of_ble_eq_true rfl) (c0 := 1) rfl (by decide) H (fun Q H => TF_X1_isPlayer hW  H) (fun r23 H => ?_)
  refine nx_if rfl rfl (by rfl) H (fun H => ?_) (fun H => ?_)
  · refine nx_nul 1 rfl rfl ?_
    exact nx_ro 1 none rfl rfl H
  refine nx_ld rfl rfl rfl rfl ?_
  refine nx_goto rfl rfl ?_
  exact nx_ro 1 (some j22) rfl rfl H
def F_X12_arePastDays (t : TS) (x1 : Int32) (x2 : Int32) : Option Int32 := (Option.bind (F_X12_within t x1 (-9999) 0) (fun r21 => (if r21 = 0 then (some (0)) else (Option.bind (F_X12_within t x2 x1 0) (fun r22 => (if r22 = 0 then (some (0)) else (some (1))))))))
theorem TF_X12_arePastDays {W : NW} {d : Nat} {t : TS} {x1 : Int32} {x2 : Int32} {Q : Option NV → TS → Prop} {bc bs : Nat} (hW : W.2.2.2 = mm_fx) (H : wp (F_X12_arePastDays t x1 x2) (fun r => Q (some (eI r)) t)) : nC W (d + 2) 128 [eI x1, eI x2] t bc bs Q := by
  refine nC_in (d := (d + 1)) (T := tX12_arePastDays) (ls := [some (eI x1), some (eI x2)]) rfl (Nat.le_of_ble_eq_true rfl) rfl (fun a0 e0 => ?_)
  unfold F_X12_arePastDays at H
  refine nx_ld rfl rfl rfl rfl ?_
  refine nx_int (x := (-9999)) rfl rfl ?_
  refine nx_int (x := 0) rfl rfl ?_
  refine nx_cSI (as := [eI x1, eI (-9999), eI 0]) (st' := []) rfl rfl (Nat.le_of_ble_eq_true rfl) rfl rfl (Nat.le_of_ble_eq_true rfl) H (fun Q H => TF_X12_within hW  H) (fun r21 H => ?_)
  refine nx_if rfl rfl (by rfl) H (fun H => ?_) (fun H => ?_)
  · refine nx_int (x := 0) rfl rfl ?_
    exact nx_rzl rfl rfl (by decide) H
  refine nx_ld rfl rfl rfl rfl ?_
  refine nx_ld rfl rfl rfl rfl ?_
  refine nx_int (x := 0) rfl rfl ?_
  refine nx_cSI (as := [eI x2, eI x1, eI 0]) (st' := []) rfl rfl (Nat.le_of_ble_eq_true rfl) rfl rfl (Nat.le_of_ble_eq_true rfl) H (fun Q H => TF_X12_within hW  H) (fun r22 H => ?_)
  refine nx_if rfl rfl (by rfl) H (fun H => ?_) (fun H => ?_)
  · refine nx_int (x := 0) rfl rfl ?_
    exact nx_rzl rfl rfl (by decide) H
  refine nx_int (x := 1) rfl rfl ?_
  refine nx_goto rfl rfl ?_
  exact nx_rzl rfl rfl (by decide) H
def F_X12_addSpan (t : TS) (o1 : Option Nat) (o2 : Option Nat) (x3 : Int32) (x4 : Int32) (x5 : Int32) : Option (Option Nat × TS) := (gE (tE t 11 ((tI t 1205 0).toNatClampNeg)) (nxt (uO t 11 ((tI t 1205 0).toNatClampNeg)) (fun t21 => (Option.bind (F_X11_init t21 ((tI t 1205 0).toNatClampNeg) (tI t21 1205 0) o2 x3 x4 x5) (fun r22 => (nxt (uI r22 1205 0 ((tI r22 1205 0) + 1)) (fun t23 => (oc o1 none (fun j24 => (Option.bind (F_X1_append t23 j24 (some ((tI t 1205 0).toNatClampNeg))) (fun r25 => (some ((some ((tI t 1205 0).toNatClampNeg)), r25)))))))))))))
theorem TF_X12_addSpan {W : NW} {d : Nat} {t : TS} {o1 : Option Nat} {o2 : Option Nat} {x3 : Int32} {x4 : Int32} {x5 : Int32} {Q : Option NV → TS → Prop} {bc bs : Nat} (hW : W.2.2.2 = mm_fx) (H : wp (F_X12_addSpan t o1 o2 x3 x4 x5) (fun r => Q (some (eO 11 r.1)) r.2)) : nC W (d + 2) 127 [eR (some (12, 0)), eO 1 o1, eO 1 o2, eI x3, eI x4, eI x5] t (bc + 1) (bs + 9) Q := by
  refine nC_in (d := (d + 1)) (T := tX12_addSpan) (ls := [some (eR (some (12, 0))), some (eO 1 o1), some (eO 1 o2), some (eI x3), some (eI x4), some (eI x5), none]) rfl (Nat.le_of_ble_eq_true rfl) rfl (fun a0 e0 => ?_)
  unfold F_X12_addSpan at H
  refine nx_new ((tI t 1205 0).toNatClampNeg) (n := 9) rfl rfl (by decide) (by rw [hW]; exact mm_fx_no (by decide)) (by omega) (by omega) H (fun t21 H => ?_)
  refine nx_eq (bc' := bc) (bs' := bs) (by omega) (by omega) ?_
  refine nx_dup rfl rfl (Nat.ne_of_beq_eq_false rfl) ?_
  refine nx_ld rfl rfl rfl rfl ?_
  refine nx_getI rfl rfl rfl (by decide) ?_
  refine nx_ld rfl rfl rfl rfl ?_
  refine nx_ld rfl rfl rfl rfl ?_
  refine nx_ld rfl rfl rfl rfl ?_
  show nX _ _ _ _ _ _ 12 _ _ _ _ _
  refine nx_ld rfl rfl rfl rfl ?_
  refine nx_cVVt (as := [eI (tI t21 1205 0), eO 1 o2, eI x3, eI x4, eI x5]) (st' := [eR (some (11, ((tI t 1205 0).toNatClampNeg)))]) rfl rfl (Nat.le_of_ble_eq_true rfl) rfl rfl (Nat.le_of_ble_eq_true rfl) (c0 := 11) rfl (by decide) H (fun Q H => TF_X11_init hW  H) (fun r22 H => ?_)
  refine nx_st (ls' := [some (eR (some (12, 0))), some (eO 1 o1), some (eO 1 o2), some (eI x3), some (eI x4), some (eI x5), some (eR (some (11, ((tI t 1205 0).toNatClampNeg))))]) rfl rfl rfl (Nat.le_of_ble_eq_true rfl) rfl ?_
  refine nx_ld rfl rfl rfl rfl ?_
  refine nx_dup rfl rfl (Nat.ne_of_beq_eq_false rfl) ?_
  refine nx_getI rfl rfl rfl (by decide) ?_
  refine nx_int (x := 1) rfl rfl ?_
  refine nx_ii rfl rfl ?_
  show nX _ _ _ _ _ _ 26 _ _ _ _ _
  refine nx_putI rfl rfl rfl (by decide) H (fun t23 H => ?_)
  refine nx_ld rfl rfl rfl rfl ?_
  refine nx_ld rfl rfl rfl rfl ?_
  rcases o1 with _ | j24
  · exact (wp_none (oc_no H)).elim
  replace H := oc_so H
  refine nx_cVVt (as := [eO 11 (some ((tI t 1205 0).toNatClampNeg))]) (st' := []) rfl rfl (Nat.le_of_ble_eq_true rfl) rfl rfl (Nat.le_of_ble_eq_true rfl) (c0 := 1) rfl (by decide) H (fun Q H => TF_X1_append hW  H) (fun r25 H => ?_)
  refine nx_ld rfl rfl rfl rfl ?_
  exact nx_rot 11 (some ((tI t 1205 0).toNatClampNeg)) rfl rfl H
def F_X12_past (t : TS) (x1 : Int32) (x2 : Int32) (x3 : Int32) (x4 : Int32) : Option (Int32 × TS) := (Option.bind (F_X12_playerAt t x1) (fun r21 => (Option.bind (F_X12_clubAt t x2) (fun r22 => (oc r21 (some ((-1), t)) (fun j23 => (oc r22 (some ((-1), t)) (fun j24 => (Option.bind (F_X12_arePastDays t x3 x4) (fun r25 => (if ¬ r25 = 0 then (if (tI t 1205 0) < 600 then (ob2 (F_X12_addSpan t (some j23) (some j24) 0 x3 x4) (fun o27 t28 => (some ((tI t28 111 j23), t28)))) else (some ((-3), t))) else (some ((-1), t)))))))))))))
theorem TF_X12_past {W : NW} {d : Nat} {t : TS} {x1 : Int32} {x2 : Int32} {x3 : Int32} {x4 : Int32} {Q : Option NV → TS → Prop} {bc bs : Nat} (hW : W.2.2.2 = mm_fx) (H : wp (F_X12_past t x1 x2 x3 x4) (fun r => Q (some (eI r.1)) r.2)) : nC W (d + 4) 74 [eR (some (12, 0)), eI x1, eI x2, eI x3, eI x4] t (bc + 1) (bs + 9) Q := by
  refine nC_in (d := (d + 3)) (T := tX12_past) (ls := [some (eR (some (12, 0))), some (eI x1), some (eI x2), some (eI x3), some (eI x4), none, none]) rfl (Nat.le_of_ble_eq_true rfl) rfl (fun a0 e0 => ?_)
  unfold F_X12_past at H
  refine nx_ld rfl rfl rfl rfl ?_
  refine nx_ld rfl rfl rfl rfl ?_
  refine nx_cVO 1 (as := [eI x1]) (st' := []) rfl rfl (Nat.le_of_ble_eq_true rfl) rfl rfl (Nat.le_of_ble_eq_true rfl) (c0 := 12) rfl (by decide) H (fun Q H => TF_X12_playerAt hW  H) (fun r21 H => ?_)
  refine nx_st (ls' := [some (eR (some (12, 0))), some (eI x1), some (eI x2), some (eI x3), some (eI x4), some (eO 1 r21), none]) rfl rfl rfl (Nat.le_of_ble_eq_true rfl) rfl ?_
  refine nx_ld rfl rfl rfl rfl ?_
  refine nx_ld rfl rfl rfl rfl ?_
  refine nx_cVO 1 (as := [eI x2]) (st' := []) rfl rfl (Nat.le_of_ble_eq_true rfl) rfl rfl (Nat.le_of_ble_eq_true rfl) (c0 := 12) rfl (by decide) H (fun Q H => TF_X12_clubAt hW  H) (fun r22 H => ?_)
  show nX _ _ _ _ _ _ 12 _ _ _ _ _
  refine nx_st (ls' := [some (eR (some (12, 0))), some (eI x1), some (eI x2), some (eI x3), some (eI x4), some (eO 1 r21), some (eO 1 r22)]) rfl rfl rfl (Nat.le_of_ble_eq_true rfl) rfl ?_
  refine nx_ld rfl rfl rfl rfl ?_
  rcases r21 with _ | j23
  · replace H := oc_no H
    refine nx_null0 (c := 1) rfl rfl ?_
    refine nx_int (x := (-1)) rfl rfl ?_
    exact nx_rit rfl rfl H
  replace H := oc_so H
  refine nx_null1 rfl rfl ?_
  refine nx_ld rfl rfl rfl rfl ?_
  rcases r22 with _ | j24
  · replace H := oc_no H
    refine nx_null0 (c := 1) rfl rfl ?_
    refine nx_int (x := (-1)) rfl rfl ?_
    exact nx_rit rfl rfl H
  replace H := oc_so H
  refine nx_null1 rfl rfl ?_
  refine nx_ld rfl rfl rfl rfl ?_
  refine nx_ld rfl rfl rfl rfl ?_
  refine nx_cSI (as := [eI x3, eI x4]) (st' := []) rfl rfl (Nat.le_of_ble_eq_true rfl) rfl rfl (Nat.le_of_ble_eq_true rfl) H (fun Q H => TF_X12_arePastDays hW  H) (fun r25 H => ?_)
  refine nx_if rfl rfl (by rfl) H (fun H => ?_) (fun H => ?_)
  · refine nx_ld rfl rfl rfl rfl ?_
    refine nx_getI rfl rfl rfl (by decide) ?_
    refine nx_int (x := 600) rfl rfl ?_
    refine nx_icmp rfl rfl (by rfl) H (fun H => ?_) (fun H => ?_)
    · refine nx_ld rfl rfl rfl rfl ?_
      refine nx_ld rfl rfl rfl rfl ?_
      refine nx_ld rfl rfl rfl rfl ?_
      refine nx_int (x := 0) rfl rfl ?_
      refine nx_ld rfl rfl rfl rfl ?_
      refine nx_ld rfl rfl rfl rfl ?_
      refine nx_aVO2 11 1 9 (as := [eO 1 (some j23), eO 1 (some j24), eI 0, eI x3, eI x4]) (st' := []) rfl rfl (Nat.le_of_ble_eq_true rfl) rfl rfl (Nat.le_of_ble_eq_true rfl) (c0 := 12) rfl (by decide) (by omega) (by omega) H (fun Q H => TF_X12_addSpan hW  H) (fun o27 t28 H => ?_)
      refine nx_eq (bc' := bc) (bs' := bs) (by omega) (by omega) ?_
      show nX _ _ _ _ _ _ 60 _ _ _ _ _
      refine nx_pop rfl rfl (Nat.ne_of_beq_eq_false rfl) ?_
      refine nx_ld rfl rfl rfl rfl ?_
      refine nx_getI rfl rfl rfl (by decide) ?_
      exact nx_rit rfl rfl H
    refine nx_int (x := (-3)) rfl rfl ?_
    exact nx_rit rfl rfl H
  refine nx_int (x := (-1)) rfl rfl ?_
  exact nx_rit rfl rfl H
def F_X12_shelfAt (t : TS) (x1 : Int32) : Option (Option Nat) := (Option.bind (F_X12_within t x1 0 ((Int32.ofNat (tL t 3219 0)) - 1)) (fun r21 => (if r21 = 0 then (some none) else (gd x1 (tL t 3219 0) (nxt (tQ t 3219 0 x1.toNatClampNeg) (fun o22 => (some o22)))))))
theorem TF_X12_shelfAt {W : NW} {d : Nat} {t : TS} {x1 : Int32} {Q : Option NV → TS → Prop} {bc bs : Nat} (hW : W.2.2.2 = mm_fx) (H : wp (F_X12_shelfAt t x1) (fun r => Q (some (eO 10 r)) t)) : nC W (d + 2) 120 [eR (some (12, 0)), eI x1] t bc bs Q := by
  refine nC_in (d := (d + 1)) (T := tX12_shelfAt) (ls := [some (eR (some (12, 0))), some (eI x1)]) rfl (Nat.le_of_ble_eq_true rfl) rfl (fun a0 e0 => ?_)
  unfold F_X12_shelfAt at H
  refine nx_ld rfl rfl rfl rfl ?_
  refine nx_int (x := 0) rfl rfl ?_
  refine nx_ld rfl rfl rfl rfl ?_
  refine nx_getFix rfl rfl rfl (by decide) (by rw [hW]; rfl) rfl ?_
  refine nx_alen (p := (3219, 0)) rfl rfl (Nat.le_of_ble_eq_true rfl) (Nat.le_of_ble_eq_true rfl) (Nat.le_of_ble_eq_true rfl) ?_
  refine nx_int (x := 1) rfl rfl ?_
  refine nx_ii rfl rfl ?_
  show nX _ _ _ _ _ _ 9 _ _ _ _ _
  refine nx_cSI (as := [eI x1, eI 0, eI ((Int32.ofNat (tL t 3219 0)) - 1)]) (st' := []) rfl rfl (Nat.le_of_ble_eq_true rfl) rfl rfl (Nat.le_of_ble_eq_true rfl) H (fun Q H => TF_X12_within hW  H) (fun r21 H => ?_)
  refine nx_if rfl rfl (by rfl) H (fun H => ?_) (fun H => ?_)
  · refine nx_nul 10 rfl rfl ?_
    exact nx_ro 10 none rfl rfl H
  refine nx_ld rfl rfl rfl rfl ?_
  refine nx_getFix rfl rfl rfl (by decide) (by rw [hW]; rfl) rfl ?_
  refine nx_ld rfl rfl rfl rfl ?_
  refine nx_aald (c := 3219) (i := 0) rfl rfl (Nat.le_of_ble_eq_true rfl) (Nat.le_of_ble_eq_true rfl) (Nat.le_of_ble_eq_true rfl) rfl H (fun o22 H => ?_)
  refine nx_goto rfl rfl ?_
  exact nx_ro 10 o22 rfl rfl H
def F_X12_addSpanFrom (t : TS) (o1 : Option Nat) (o2 : Option Nat) (x3 : Int32) (x4 : Int32) : Option (Int32 × TS) := (Option.bind (F_X12_within t x3 0 60) (fun r21 => (if r21 = 0 then (some (0, t)) else (oc o2 none (fun j22 => (Option.bind (F_X10_has t j22 (x3 + (3 * x4)) 3) (fun r23 => (if ¬ r23 = 0 then (gd (x3 + (3 * x4)) (tL t 3004 j22) (Option.bind (F_X12_clubAt t ((tJ t 3004 j22 (x3 + (3 * x4)).toNatClampNeg).toInt32)) (fun r24 => (gd ((x3 + (3 * x4)) + 1) (tL t 3004 j22) (gd ((x3 + (3 * x4)) + 2) (tL t 3004 j22) (oc r24 (some (0, t)) (fun j25 => (Option.bind (F_X12_arePastDays t ((tJ t 3004 j22 ((x3 + (3 * x4)) + 1).toNatClampNeg).toInt32) ((tJ t 3004 j22 ((x3 + (3 * x4)) + 2).toNatClampNeg).toInt32)) (fun r26 => (if ¬ r26 = 0 then (ob2 (F_X12_addSpan t o1 (some j25) 0 ((tJ t 3004 j22 ((x3 + (3 * x4)) + 1).toNatClampNeg).toInt32) ((tJ t 3004 j22 ((x3 + (3 * x4)) + 2).toNatClampNeg).toInt32)) (fun o28 t29 => (some (1, t29)))) else (some (0, t)))))))))))) else (some (0, t))))))))))
theorem TF_X12_addSpanFrom {W : NW} {d : Nat} {t : TS} {o1 : Option Nat} {o2 : Option Nat} {x3 : Int32} {x4 : Int32} {Q : Option NV → TS → Prop} {bc bs : Nat} (hW : W.2.2.2 = mm_fx) (H : wp (F_X12_addSpanFrom t o1 o2 x3 x4) (fun r => Q (some (eI r.1)) r.2)) : nC W (d + 4) 129 [eR (some (12, 0)), eO 1 o1, eO 10 o2, eI x3, eI x4] t (bc + 1) (bs + 9) Q := by
  refine nC_in (d := (d + 3)) (T := tX12_addSpanFrom) (ls := [some (eR (some (12, 0))), some (eO 1 o1), some (eO 10 o2), some (eI x3), some (eI x4), none, none, none, none]) rfl (Nat.le_of_ble_eq_true rfl) rfl (fun a0 e0 => ?_)
  unfold F_X12_addSpanFrom at H
  refine nx_ld rfl rfl rfl rfl ?_
  refine nx_int (x := 0) rfl rfl ?_
  refine nx_int (x := 60) rfl rfl ?_
  refine nx_cSI (as := [eI x3, eI 0, eI 60]) (st' := []) rfl rfl (Nat.le_of_ble_eq_true rfl) rfl rfl (Nat.le_of_ble_eq_true rfl) H (fun Q H => TF_X12_within hW  H) (fun r21 H => ?_)
  refine nx_if rfl rfl (by rfl) H (fun H => ?_) (fun H => ?_)
  · refine nx_int (x := 0) rfl rfl ?_
    exact nx_rzlt rfl rfl (by decide) H
  refine nx_ld rfl rfl rfl rfl ?_
  refine nx_ld rfl rfl rfl rfl ?_
  refine nx_int (x := 3) rfl rfl ?_
  refine nx_ld rfl rfl rfl rfl ?_
  refine nx_ii rfl rfl ?_
  refine nx_ii rfl rfl ?_
  refine nx_int (x := 3) rfl rfl ?_
  show nX _ _ _ _ _ _ 18 _ _ _ _ _
  rcases o2 with _ | j22
  · exact (wp_none (oc_no H)).elim
  replace H := oc_so H
  refine nx_cVI (as := [eI (x3 + (3 * x4)), eI 3]) (st' := []) rfl rfl (Nat.le_of_ble_eq_true rfl) rfl rfl (Nat.le_of_ble_eq_true rfl) (c0 := 10) rfl (by decide) H (fun Q H => TF_X10_has hW  H) (fun r23 H => ?_)
  refine nx_if rfl rfl (by rfl) H (fun H => ?_) (fun H => ?_)
  · refine nx_ld rfl rfl rfl rfl ?_
    refine nx_int (x := 3) rfl rfl ?_
    refine nx_ld rfl rfl rfl rfl ?_
    refine nx_ii rfl rfl ?_
    refine nx_ii rfl rfl ?_
    refine nx_st (ls' := [some (eR (some (12, 0))), some (eO 1 o1), some (eR (some (10, j22))), some (eI x3), some (eI x4), some (eI (x3 + (3 * x4))), none, none, none]) rfl rfl rfl (Nat.le_of_ble_eq_true rfl) rfl ?_
    refine nx_ld rfl rfl rfl rfl ?_
    show nX _ _ _ _ _ _ 35 _ _ _ _ _
    refine nx_ld rfl rfl rfl rfl ?_
    refine nx_getFix rfl rfl rfl (by decide) (by rw [hW]; rfl) rfl ?_
    refine nx_ld rfl rfl rfl rfl ?_
    refine nx_lald (c := 3004) (i := j22) rfl rfl (Nat.le_of_ble_eq_true rfl) (Nat.le_of_ble_eq_true rfl) rfl H (fun H => ?_)
    refine nx_l2i rfl rfl ?_
    refine nx_cVO 1 (as := [eI ((tJ t 3004 j22 (x3 + (3 * x4)).toNatClampNeg).toInt32)]) (st' := []) rfl rfl (Nat.le_of_ble_eq_true rfl) rfl rfl (Nat.le_of_ble_eq_true rfl) (c0 := 12) rfl (by decide) H (fun Q H => TF_X12_clubAt hW  H) (fun r24 H => ?_)
    refine nx_st (ls' := [some (eR (some (12, 0))), some (eO 1 o1), some (eR (some (10, j22))), some (eI x3), some (eI x4), some (eI (x3 + (3 * x4))), some (eO 1 r24), none, none]) rfl rfl rfl (Nat.le_of_ble_eq_true rfl) rfl ?_
    refine nx_ld rfl rfl rfl rfl ?_
    show nX _ _ _ _ _ _ 49 _ _ _ _ _
    refine nx_getFix rfl rfl rfl (by decide) (by rw [hW]; rfl) rfl ?_
    refine nx_ld rfl rfl rfl rfl ?_
    refine nx_int (x := 1) rfl rfl ?_
    refine nx_ii rfl rfl ?_
    refine nx_lald (c := 3004) (i := j22) rfl rfl (Nat.le_of_ble_eq_true rfl) (Nat.le_of_ble_eq_true rfl) rfl H (fun H => ?_)
    refine nx_l2i rfl rfl ?_
    refine nx_st (ls' := [some (eR (some (12, 0))), some (eO 1 o1), some (eR (some (10, j22))), some (eI x3), some (eI x4), some (eI (x3 + (3 * x4))), some (eO 1 r24), some (eI ((tJ t 3004 j22 ((x3 + (3 * x4)) + 1).toNatClampNeg).toInt32)), none]) rfl rfl rfl (Nat.le_of_ble_eq_true rfl) rfl ?_
    refine nx_ld rfl rfl rfl rfl ?_
    show nX _ _ _ _ _ _ 61 _ _ _ _ _
    refine nx_getFix rfl rfl rfl (by decide) (by rw [hW]; rfl) rfl ?_
    refine nx_ld rfl rfl rfl rfl ?_
    refine nx_int (x := 2) rfl rfl ?_
    refine nx_ii rfl rfl ?_
    refine nx_lald (c := 3004) (i := j22) rfl rfl (Nat.le_of_ble_eq_true rfl) (Nat.le_of_ble_eq_true rfl) rfl H (fun H => ?_)
    refine nx_l2i rfl rfl ?_
    refine nx_st (ls' := [some (eR (some (12, 0))), some (eO 1 o1), some (eR (some (10, j22))), some (eI x3), some (eI x4), some (eI (x3 + (3 * x4))), some (eO 1 r24), some (eI ((tJ t 3004 j22 ((x3 + (3 * x4)) + 1).toNatClampNeg).toInt32)), some (eI ((tJ t 3004 j22 ((x3 + (3 * x4)) + 2).toNatClampNeg).toInt32))]) rfl rfl rfl (Nat.le_of_ble_eq_true rfl) rfl ?_
    refine nx_ld rfl rfl rfl rfl ?_
    show nX _ _ _ _ _ _ 74 _ _ _ _ _
    rcases r24 with _ | j25
    · replace H := oc_no H
      refine nx_null0 (c := 1) rfl rfl ?_
      refine nx_int (x := 0) rfl rfl ?_
      exact nx_rzlt rfl rfl (by decide) H
    replace H := oc_so H
    refine nx_null1 rfl rfl ?_
    refine nx_ld rfl rfl rfl rfl ?_
    refine nx_ld rfl rfl rfl rfl ?_
    refine nx_cSI (as := [eI ((tJ t 3004 j22 ((x3 + (3 * x4)) + 1).toNatClampNeg).toInt32), eI ((tJ t 3004 j22 ((x3 + (3 * x4)) + 2).toNatClampNeg).toInt32)]) (st' := []) rfl rfl (Nat.le_of_ble_eq_true rfl) rfl rfl (Nat.le_of_ble_eq_true rfl) H (fun Q H => TF_X12_arePastDays hW  H) (fun r26 H => ?_)
    refine nx_if rfl rfl (by rfl) H (fun H => ?_) (fun H => ?_)
    · refine nx_ld rfl rfl rfl rfl ?_
      refine nx_ld rfl rfl rfl rfl ?_
      refine nx_ld rfl rfl rfl rfl ?_
      refine nx_int (x := 0) rfl rfl ?_
      refine nx_ld rfl rfl rfl rfl ?_
      refine nx_ld rfl rfl rfl rfl ?_
      refine nx_aVO2 11 1 9 (as := [eO 1 o1, eO 1 (some j25), eI 0, eI ((tJ t 3004 j22 ((x3 + (3 * x4)) + 1).toNatClampNeg).toInt32), eI ((tJ t 3004 j22 ((x3 + (3 * x4)) + 2).toNatClampNeg).toInt32)]) (st' := []) rfl rfl (Nat.le_of_ble_eq_true rfl) rfl rfl (Nat.le_of_ble_eq_true rfl) (c0 := 12) rfl (by decide) (by omega) (by omega) H (fun Q H => TF_X12_addSpan hW  H) (fun o28 t29 H => ?_)
      refine nx_eq (bc' := bc) (bs' := bs) (by omega) (by omega) ?_
      show nX _ _ _ _ _ _ 101 _ _ _ _ _
      refine nx_pop rfl rfl (Nat.ne_of_beq_eq_false rfl) ?_
      refine nx_int (x := 1) rfl rfl ?_
      exact nx_rzlt rfl rfl (by decide) H
    refine nx_int (x := 0) rfl rfl ?_
    exact nx_rzlt rfl rfl (by decide) H
  refine nx_int (x := 0) rfl rfl ?_
  exact nx_rzlt rfl rfl (by decide) H
def B_X12_spans_109 (t : TS) (v4 : Int32) (v5 : Nat) : Option (Int32 × TS) := (nxt (uI t 108 v5 0) (fun t21 => (some (v4, t21))))
theorem TB_X12_spans_109 {W : NW} {d : Nat} {Q : Option NV → TS → Prop} {a0 : Nat → Nat → Nat} {e0 : Nat → Nat → Bool} {bc bs : Nat} (hW : W.2.2.2 = mm_fx) : ∀ (t : TS) (v1 : Int32) (v2 : Int32) (v3 : Int32) (v4 : Int32) (v5 : Nat) (v6 : Nat) (v7 : Int32), wp (B_X12_spans_109 t v4 v5) (fun r => Q (some (eI r.1)) r.2) → nX W (d + 4) tX12_spans Q a0 e0 109 [some (eR (some (12, 0))), some (eI v1), some (eI v2), some (eI v3), some (eI v4), some (eR (some (1, v5))), some (eR (some (10, v6))), some (eI v7)] [] t (bc) (bs) := by
  intro t v1 v2 v3 v4 v5 v6 v7 H
  unfold B_X12_spans_109 at H
  refine nx_ld rfl rfl rfl rfl ?_
  refine nx_int (x := 0) rfl rfl ?_
  refine nx_putZL rfl rfl rfl (by decide) (by decide) H (fun t21 H => ?_)
  refine nx_ld rfl rfl rfl rfl ?_
  exact nx_rit rfl rfl H
def B_X12_spans_94 (t : TS) (v5 : Nat) (v7 : Int32) : Option (Int32 × TS) := (nxt (uI t 108 v5 1) (fun t21 => (some (v7, t21))))
theorem TB_X12_spans_94 {W : NW} {d : Nat} {Q : Option NV → TS → Prop} {a0 : Nat → Nat → Nat} {e0 : Nat → Nat → Bool} {bc bs : Nat} (hW : W.2.2.2 = mm_fx) : ∀ (t : TS) (v1 : Int32) (v2 : Int32) (v3 : Int32) (v4 : Int32) (v5 : Nat) (v6 : Nat) (v7 : Int32), wp (B_X12_spans_94 t v5 v7) (fun r => Q (some (eI r.1)) r.2) → nX W (d + 4) tX12_spans Q a0 e0 94 [some (eR (some (12, 0))), some (eI v1), some (eI v2), some (eI v3), some (eI v4), some (eR (some (1, v5))), some (eR (some (10, v6))), some (eI v7)] [] t (bc) (bs) := by
  intro t v1 v2 v3 v4 v5 v6 v7 H
  unfold B_X12_spans_94 at H
  refine nx_ld rfl rfl rfl rfl ?_
  refine nx_int (x := 1) rfl rfl ?_
  refine nx_putZL rfl rfl rfl (by decide) (by decide) H (fun t21 H => ?_)
  refine nx_ld rfl rfl rfl rfl ?_
  exact nx_rit rfl rfl H
def BB_X12_spans_60 (k60 : TS → Int32 → Int32 → Nat → Nat → Int32 → Option (Int32 × TS)) (t : TS) (v3 : Int32) (v4 : Int32) (v5 : Nat) (v6 : Nat) (v7 : Int32) : Option (Int32 × TS) := (if v4 ≤ v7 then (B_X12_spans_109  t v4 v5) else (if (tI t 1205 0) < 600 then (ob2 (F_X12_addSpanFrom t (some v5) (some v6) v3 v7) (fun x22 t23 => (if ¬ x22 = 0 then (k60 t23 v3 v4 v5 v6 (v7 + 1)) else (B_X12_spans_94  t23 v5 v7)))) else (some (v7, t))))
theorem TBB_X12_spans_60 {W : NW} {d : Nat} {Q : Option NV → TS → Prop} {a0 : Nat → Nat → Nat} {e0 : Nat → Nat → Bool} {k60 : TS → Int32 → Int32 → Nat → Nat → Int32 → Option (Int32 × TS)} {bc bs : Nat} (hW : W.2.2.2 = mm_fx) (hk60 : ∀ (b' s' : Nat) (_ : bc ≤ b') (_ : bs ≤ s') (t : TS) (v1 : Int32) (v2 : Int32) (v3 : Int32) (v4 : Int32) (v5 : Nat) (v6 : Nat) (v7 : Int32), wp (k60 t v3 v4 v5 v6 v7) (fun r => Q (some (eI r.1)) r.2) → nX W (d + 4) tX12_spans Q a0 e0 60 [some (eR (some (12, 0))), some (eI v1), some (eI v2), some (eI v3), some (eI v4), some (eR (some (1, v5))), some (eR (some (10, v6))), some (eI v7)] [] t (b' + 1) (s' + 9)) : ∀ (t : TS) (v1 : Int32) (v2 : Int32) (v3 : Int32) (v4 : Int32) (v5 : Nat) (v6 : Nat) (v7 : Int32), wp (BB_X12_spans_60 k60 t v3 v4 v5 v6 v7) (fun r => Q (some (eI r.1)) r.2) → nX W (d + 4) tX12_spans Q a0 e0 60 [some (eR (some (12, 0))), some (eI v1), some (eI v2), some (eI v3), some (eI v4), some (eR (some (1, v5))), some (eR (some (10, v6))), some (eI v7)] [] t (bc + 2) (bs + 18) := by
  intro t v1 v2 v3 v4 v5 v6 v7 H
  unfold BB_X12_spans_60 at H
  refine nx_ld rfl rfl rfl rfl ?_
  refine nx_ld rfl rfl rfl rfl ?_
  refine nx_icmp rfl rfl (by rfl) H (fun H => ?_) (fun H => ?_)
  · refine nx_eq (bc' := (bc + 2) + 0) (bs' := (bs + 18) + 0) (by omega) (by omega) ?_
    exact TB_X12_spans_109 hW    _ _ _ _ _ _ _ _ H
  refine nx_ld rfl rfl rfl rfl ?_
  refine nx_getI rfl rfl rfl (by decide) ?_
  refine nx_int (x := 600) rfl rfl ?_
  refine nx_icmp rfl rfl (by rfl) H (fun H => ?_) (fun H => ?_)
  · refine nx_ld rfl rfl rfl rfl ?_
    refine nx_ld rfl rfl rfl rfl ?_
    refine nx_ld rfl rfl rfl rfl ?_
    refine nx_ld rfl rfl rfl rfl ?_
    refine nx_ld rfl rfl rfl rfl ?_
    refine nx_aVI2 1 9 (as := [eO 1 (some v5), eO 10 (some v6), eI v3, eI v7]) (st' := []) rfl rfl (Nat.le_of_ble_eq_true rfl) rfl rfl (Nat.le_of_ble_eq_true rfl) (c0 := 12) rfl (by decide) (by omega) (by omega) H (fun Q H => TF_X12_addSpanFrom hW  H) (fun x22 t23 H => ?_)
    refine nx_eq (bc' := bc + 1) (bs' := bs + 9) (by omega) (by omega) ?_
    refine nx_if rfl rfl (by rfl) H (fun H => ?_) (fun H => ?_)
    · refine nx_iinc2 1 (ls' := [some (eR (some (12, 0))), some (eI v1), some (eI v2), some (eI v3), some (eI v4), some (eR (some (1, v5))), some (eR (some (10, v6))), some (eI (v7 + 1))]) rfl rfl rfl rfl rfl ?_
      refine nx_goto rfl rfl ?_
      refine nx_eq (bc' := (bc) + 1) (bs' := (bs) + 9) (by omega) (by omega) ?_
      exact hk60 (bc) (bs) (by omega) (by omega) _ _ _ _ _ _ _ _ H
    refine nx_eq (bc' := (bc + 1) + 0) (bs' := (bs + 9) + 0) (by omega) (by omega) ?_
    exact TB_X12_spans_94 hW    _ _ _ _ _ _ _ _ H
  refine nx_ld rfl rfl rfl rfl ?_
  exact nx_rit rfl rfl H
def B_X12_spans_60 : Nat → TS → Int32 → Int32 → Nat → Nat → Int32 → Option (Int32 × TS)
  | 0 => fun _ _ _ _ _ _ => none
  | n + 1 => fun t v3 v4 v5 v6 v7 => BB_X12_spans_60 (B_X12_spans_60 n) t v3 v4 v5 v6 v7
theorem TB_X12_spans_60 {W : NW} {d : Nat} {Q : Option NV → TS → Prop} {a0 : Nat → Nat → Nat} {e0 : Nat → Nat → Bool} {bc bs : Nat} (hW : W.2.2.2 = mm_fx) : ∀ (n : Nat) (b0 s0 : Nat) (_ : bc ≤ b0) (_ : bs ≤ s0) (t : TS) (v1 : Int32) (v2 : Int32) (v3 : Int32) (v4 : Int32) (v5 : Nat) (v6 : Nat) (v7 : Int32), wp (B_X12_spans_60 n t v3 v4 v5 v6 v7) (fun r => Q (some (eI r.1)) r.2) → nX W (d + 4) tX12_spans Q a0 e0 60 [some (eR (some (12, 0))), some (eI v1), some (eI v2), some (eI v3), some (eI v4), some (eR (some (1, v5))), some (eR (some (10, v6))), some (eI v7)] [] t (b0 + 1 * n + 1) (s0 + 9 * n + 9) := by
  intro n
  induction n with
  | zero => intro b0 s0 g1 g2 t v1 v2 v3 v4 v5 v6 v7 H; exact (wp_none H).elim
  | succ n ih =>
    intro b0 s0 g1 g2 t v1 v2 v3 v4 v5 v6 v7 H
    refine nx_eq (bc' := (b0 + 1 * n) + 2) (bs' := (s0 + 9 * n) + 18) (by omega) (by omega) ?_
    refine TBB_X12_spans_60 (bc := b0 + 1 * n) (bs := s0 + 9 * n) hW    (fun b' s' g3 g4 => ?_) t v1 v2 v3 v4 v5 v6 v7 H
    intro t v1 v2 v3 v4 v5 v6 v7 H
    refine nx_eq (bc' := (b' - 1 * n) + 1 * n + 1) (bs' := (s' - 9 * n) + 9 * n + 9) (by omega) (by omega) ?_
    exact ih (b' - 1 * n) (s' - 9 * n) (by omega) (by omega) t v1 v2 v3 v4 v5 v6 v7 H
def B_X12_spans_57 (t : TS) (v3 : Int32) (v4 : Int32) (v5 : Nat) (v6 : Nat) : Option (Int32 × TS) := (B_X12_spans_60  22 t v3 v4 v5 v6 0)
theorem TB_X12_spans_57 {W : NW} {d : Nat} {Q : Option NV → TS → Prop} {a0 : Nat → Nat → Nat} {e0 : Nat → Nat → Bool} {bc bs : Nat} (hW : W.2.2.2 = mm_fx) : ∀ (t : TS) (v1 : Int32) (v2 : Int32) (v3 : Int32) (v4 : Int32) (v5 : Nat) (v6 : Nat), wp (B_X12_spans_57 t v3 v4 v5 v6) (fun r => Q (some (eI r.1)) r.2) → nX W (d + 4) tX12_spans Q a0 e0 57 [some (eR (some (12, 0))), some (eI v1), some (eI v2), some (eI v3), some (eI v4), some (eR (some (1, v5))), some (eR (some (10, v6))), none] [] t (bc + 23) (bs + 207) := by
  intro t v1 v2 v3 v4 v5 v6 H
  unfold B_X12_spans_57 at H
  refine nx_int (x := 0) rfl rfl ?_
  refine nx_st (ls' := [some (eR (some (12, 0))), some (eI v1), some (eI v2), some (eI v3), some (eI v4), some (eR (some (1, v5))), some (eR (some (10, v6))), some (eI 0)]) rfl rfl rfl (Nat.le_of_ble_eq_true rfl) rfl ?_
  refine nx_eq (bc' := (bc) + 1 * 22 + 1) (bs' := (bs) + 9 * 22 + 9) (by omega) (by omega) ?_
  exact TB_X12_spans_60 (bc := bc) (bs := bs) hW    22 (bc) (bs) (by omega) (by omega) _ _ _ _ _ _ _ _ H
def F_X12_spans (t : TS) (x1 : Int32) (x2 : Int32) (x3 : Int32) (x4 : Int32) : Option (Int32 × TS) := (Option.bind (F_X12_playerAt t x1) (fun r21 => (Option.bind (F_X12_shelfAt t x2) (fun r22 => (oc r21 (some ((-1), t)) (fun j23 => (oc r22 (some ((-1), t)) (fun j24 => (Option.bind (F_X12_within t x4 1 20) (fun r25 => (if ¬ r25 = 0 then (if (tI t 1000 j24) = 0 then (B_X12_spans_57  t x3 x4 j23 j24) else (Option.bind (F_X10_isRowOf t j24 1) (fun r26 => (if ¬ r26 = 0 then (B_X12_spans_57  t x3 x4 j23 j24) else (some ((-12), t)))))) else (some ((-1), t)))))))))))))
theorem TF_X12_spans {W : NW} {d : Nat} {t : TS} {x1 : Int32} {x2 : Int32} {x3 : Int32} {x4 : Int32} {Q : Option NV → TS → Prop} {bc bs : Nat} (hW : W.2.2.2 = mm_fx) (H : wp (F_X12_spans t x1 x2 x3 x4) (fun r => Q (some (eI r.1)) r.2)) : nC W (d + 5) 75 [eR (some (12, 0)), eI x1, eI x2, eI x3, eI x4] t (bc + 23) (bs + 207) Q := by
  refine nC_in (d := (d + 4)) (T := tX12_spans) (ls := [some (eR (some (12, 0))), some (eI x1), some (eI x2), some (eI x3), some (eI x4), none, none, none]) rfl (Nat.le_of_ble_eq_true rfl) rfl (fun a0 e0 => ?_)
  unfold F_X12_spans at H
  refine nx_ld rfl rfl rfl rfl ?_
  refine nx_ld rfl rfl rfl rfl ?_
  refine nx_cVO 1 (as := [eI x1]) (st' := []) rfl rfl (Nat.le_of_ble_eq_true rfl) rfl rfl (Nat.le_of_ble_eq_true rfl) (c0 := 12) rfl (by decide) H (fun Q H => TF_X12_playerAt hW  H) (fun r21 H => ?_)
  refine nx_st (ls' := [some (eR (some (12, 0))), some (eI x1), some (eI x2), some (eI x3), some (eI x4), some (eO 1 r21), none, none]) rfl rfl rfl (Nat.le_of_ble_eq_true rfl) rfl ?_
  refine nx_ld rfl rfl rfl rfl ?_
  refine nx_ld rfl rfl rfl rfl ?_
  refine nx_cVO 10 (as := [eI x2]) (st' := []) rfl rfl (Nat.le_of_ble_eq_true rfl) rfl rfl (Nat.le_of_ble_eq_true rfl) (c0 := 12) rfl (by decide) H (fun Q H => TF_X12_shelfAt hW  H) (fun r22 H => ?_)
  show nX _ _ _ _ _ _ 12 _ _ _ _ _
  refine nx_st (ls' := [some (eR (some (12, 0))), some (eI x1), some (eI x2), some (eI x3), some (eI x4), some (eO 1 r21), some (eO 10 r22), none]) rfl rfl rfl (Nat.le_of_ble_eq_true rfl) rfl ?_
  refine nx_ld rfl rfl rfl rfl ?_
  rcases r21 with _ | j23
  · replace H := oc_no H
    refine nx_null0 (c := 1) rfl rfl ?_
    refine nx_int (x := (-1)) rfl rfl ?_
    exact nx_rit rfl rfl H
  replace H := oc_so H
  refine nx_null1 rfl rfl ?_
  refine nx_ld rfl rfl rfl rfl ?_
  rcases r22 with _ | j24
  · replace H := oc_no H
    refine nx_null0 (c := 10) rfl rfl ?_
    refine nx_int (x := (-1)) rfl rfl ?_
    exact nx_rit rfl rfl H
  replace H := oc_so H
  refine nx_null1 rfl rfl ?_
  refine nx_ld rfl rfl rfl rfl ?_
  refine nx_int (x := 1) rfl rfl ?_
  refine nx_int (x := 20) rfl rfl ?_
  refine nx_cSI (as := [eI x4, eI 1, eI 20]) (st' := []) rfl rfl (Nat.le_of_ble_eq_true rfl) rfl rfl (Nat.le_of_ble_eq_true rfl) H (fun Q H => TF_X12_within hW  H) (fun r25 H => ?_)
  refine nx_if rfl rfl (by rfl) H (fun H => ?_) (fun H => ?_)
  · refine nx_ld rfl rfl rfl rfl ?_
    refine nx_getI rfl rfl rfl (by decide) ?_
    refine nx_if rfl rfl (by rfl) H (fun H => ?_) (fun H => ?_)
    · refine nx_eq (bc' := (bc) + 23) (bs' := (bs) + 207) (by omega) (by omega) ?_
      exact TB_X12_spans_57 hW    _ _ _ _ _ _ _ H
    refine nx_ld rfl rfl rfl rfl ?_
    refine nx_int (x := 1) rfl rfl ?_
    refine nx_cVI (as := [eI 1]) (st' := []) rfl rfl (Nat.le_of_ble_eq_true rfl) rfl rfl (Nat.le_of_ble_eq_true rfl) (c0 := 10) rfl (by decide) H (fun Q H => TF_X10_isRowOf hW  H) (fun r26 H => ?_)
    refine nx_if rfl rfl (by rfl) H (fun H => ?_) (fun H => ?_)
    · refine nx_eq (bc' := (bc) + 23) (bs' := (bs) + 207) (by omega) (by omega) ?_
      exact TB_X12_spans_57 hW    _ _ _ _ _ _ _ H
    refine nx_int (x := (-12)) rfl rfl ?_
    exact nx_rit rfl rfl H
  refine nx_int (x := (-1)) rfl rfl ?_
  exact nx_rit rfl rfl H
def F_X12_sign (t : TS) (x1 : Int32) (x2 : Int32) (x3 : Int32) (x4 : Int32) : Option (Int32 × TS) := (Option.bind (F_X12_playerAt t x1) (fun r21 => (Option.bind (F_X12_clubAt t x2) (fun r22 => (oc r21 (some ((-1), t)) (fun j23 => (oc r22 (some ((-1), t)) (fun j24 => (Option.bind (F_X12_within t x3 (tI t 1200 0) 2999) (fun r25 => (if r25 = 0 then (some ((-1), t)) else (Option.bind (F_X12_within t x4 0 99999) (fun r26 => (if ¬ r26 = 0 then (Option.bind (F_X1_owning t j23 (tI t 1200 0)) (fun r27 => (oc r27 (if (tI t 1205 0) < 600 then (ob2 (F_X12_addSpan t (some j23) (some j24) 1 (tI t 1200 0) x3) (fun o30 t31 => (oc o30 none (fun j32 => (nxt (uI t31 1105 j32 x4) (fun t33 => (some (1, t33)))))))) else (some ((-3), t))) (fun j28 => (some ((-2), t)))))) else (some ((-1), t))))))))))))))))
theorem TF_X12_sign {W : NW} {d : Nat} {t : TS} {x1 : Int32} {x2 : Int32} {x3 : Int32} {x4 : Int32} {Q : Option NV → TS → Prop} {bc bs : Nat} (hW : W.2.2.2 = mm_fx) (H : wp (F_X12_sign t x1 x2 x3 x4) (fun r => Q (some (eI r.1)) r.2)) : nC W (d + 4) 76 [eR (some (12, 0)), eI x1, eI x2, eI x3, eI x4] t (bc + 1) (bs + 9) Q := by
  refine nC_in (d := (d + 3)) (T := tX12_sign) (ls := [some (eR (some (12, 0))), some (eI x1), some (eI x2), some (eI x3), some (eI x4), none, none]) rfl (Nat.le_of_ble_eq_true rfl) rfl (fun a0 e0 => ?_)
  unfold F_X12_sign at H
  refine nx_ld rfl rfl rfl rfl ?_
  refine nx_ld rfl rfl rfl rfl ?_
  refine nx_cVO 1 (as := [eI x1]) (st' := []) rfl rfl (Nat.le_of_ble_eq_true rfl) rfl rfl (Nat.le_of_ble_eq_true rfl) (c0 := 12) rfl (by decide) H (fun Q H => TF_X12_playerAt hW  H) (fun r21 H => ?_)
  refine nx_st (ls' := [some (eR (some (12, 0))), some (eI x1), some (eI x2), some (eI x3), some (eI x4), some (eO 1 r21), none]) rfl rfl rfl (Nat.le_of_ble_eq_true rfl) rfl ?_
  refine nx_ld rfl rfl rfl rfl ?_
  refine nx_ld rfl rfl rfl rfl ?_
  refine nx_cVO 1 (as := [eI x2]) (st' := []) rfl rfl (Nat.le_of_ble_eq_true rfl) rfl rfl (Nat.le_of_ble_eq_true rfl) (c0 := 12) rfl (by decide) H (fun Q H => TF_X12_clubAt hW  H) (fun r22 H => ?_)
  show nX _ _ _ _ _ _ 12 _ _ _ _ _
  refine nx_st (ls' := [some (eR (some (12, 0))), some (eI x1), some (eI x2), some (eI x3), some (eI x4), some (eO 1 r21), some (eO 1 r22)]) rfl rfl rfl (Nat.le_of_ble_eq_true rfl) rfl ?_
  refine nx_ld rfl rfl rfl rfl ?_
  rcases r21 with _ | j23
  · replace H := oc_no H
    refine nx_null0 (c := 1) rfl rfl ?_
    refine nx_int (x := (-1)) rfl rfl ?_
    exact nx_rit rfl rfl H
  replace H := oc_so H
  refine nx_null1 rfl rfl ?_
  refine nx_ld rfl rfl rfl rfl ?_
  rcases r22 with _ | j24
  · replace H := oc_no H
    refine nx_null0 (c := 1) rfl rfl ?_
    refine nx_int (x := (-1)) rfl rfl ?_
    exact nx_rit rfl rfl H
  replace H := oc_so H
  refine nx_null1 rfl rfl ?_
  refine nx_ld rfl rfl rfl rfl ?_
  refine nx_ld rfl rfl rfl rfl ?_
  refine nx_getI rfl rfl rfl (by decide) ?_
  refine nx_int (x := 2999) rfl rfl ?_
  refine nx_cSI (as := [eI x3, eI (tI t 1200 0), eI 2999]) (st' := []) rfl rfl (Nat.le_of_ble_eq_true rfl) rfl rfl (Nat.le_of_ble_eq_true rfl) H (fun Q H => TF_X12_within hW  H) (fun r25 H => ?_)
  refine nx_if rfl rfl (by rfl) H (fun H => ?_) (fun H => ?_)
  · refine nx_int (x := (-1)) rfl rfl ?_
    exact nx_rit rfl rfl H
  refine nx_ld rfl rfl rfl rfl ?_
  refine nx_int (x := 0) rfl rfl ?_
  refine nx_int (x := 99999) rfl rfl ?_
  refine nx_cSI (as := [eI x4, eI 0, eI 99999]) (st' := []) rfl rfl (Nat.le_of_ble_eq_true rfl) rfl rfl (Nat.le_of_ble_eq_true rfl) H (fun Q H => TF_X12_within hW  H) (fun r26 H => ?_)
  refine nx_if rfl rfl (by rfl) H (fun H => ?_) (fun H => ?_)
  · refine nx_ld rfl rfl rfl rfl ?_
    refine nx_ld rfl rfl rfl rfl ?_
    refine nx_getI rfl rfl rfl (by decide) ?_
    refine nx_cVO 11 (as := [eI (tI t 1200 0)]) (st' := []) rfl rfl (Nat.le_of_ble_eq_true rfl) rfl rfl (Nat.le_of_ble_eq_true rfl) (c0 := 1) rfl (by decide) H (fun Q H => TF_X1_owning hW  H) (fun r27 H => ?_)
    rcases r27 with _ | j28
    · replace H := oc_no H
      refine nx_null0 (c := 11) rfl rfl ?_
      refine nx_ld rfl rfl rfl rfl ?_
      refine nx_getI rfl rfl rfl (by decide) ?_
      refine nx_int (x := 600) rfl rfl ?_
      refine nx_icmp rfl rfl (by rfl) H (fun H => ?_) (fun H => ?_)
      · refine nx_ld rfl rfl rfl rfl ?_
        refine nx_ld rfl rfl rfl rfl ?_
        refine nx_ld rfl rfl rfl rfl ?_
        refine nx_int (x := 1) rfl rfl ?_
        refine nx_ld rfl rfl rfl rfl ?_
        refine nx_getI rfl rfl rfl (by decide) ?_
        refine nx_ld rfl rfl rfl rfl ?_
        show nX _ _ _ _ _ _ 90 _ _ _ _ _
        refine nx_aVO2 11 1 9 (as := [eO 1 (some j23), eO 1 (some j24), eI 1, eI (tI t 1200 0), eI x3]) (st' := []) rfl rfl (Nat.le_of_ble_eq_true rfl) rfl rfl (Nat.le_of_ble_eq_true rfl) (c0 := 12) rfl (by decide) (by omega) (by omega) H (fun Q H => TF_X12_addSpan hW  H) (fun o30 t31 H => ?_)
        refine nx_eq (bc' := bc) (bs' := bs) (by omega) (by omega) ?_
        refine nx_ld rfl rfl rfl rfl ?_
        rcases o30 with _ | j32
        · exact (wp_none (oc_no H)).elim
        replace H := oc_so H
        refine nx_putI rfl rfl rfl (by decide) H (fun t33 H => ?_)
        refine nx_int (x := 1) rfl rfl ?_
        exact nx_rit rfl rfl H
      refine nx_int (x := (-3)) rfl rfl ?_
      exact nx_rit rfl rfl H
    replace H := oc_so H
    refine nx_null1 rfl rfl ?_
    refine nx_int (x := (-2)) rfl rfl ?_
    exact nx_rit rfl rfl H
  refine nx_int (x := (-1)) rfl rfl ?_
  exact nx_rit rfl rfl H
def B_X12_at_55 (t : TS) (s0 : Option Nat) : Option Int32 := (oc s0 (some ((-2))) (fun j21 => (nxt (tR t 1101 j21) (fun o22 => (oc o22 none (fun j23 => (some ((tI t 100 j23)))))))))
theorem TB_X12_at_55 {W : NW} {d : Nat} {Q : Option NV → TS → Prop} {a0 : Nat → Nat → Nat} {e0 : Nat → Nat → Bool} {t : TS} {bc bs : Nat} (hW : W.2.2.2 = mm_fx) : ∀ (v1 : Int32) (v2 : Int32) (v3 : Int32) (v4 : Nat) (s0 : Option Nat), wp (B_X12_at_55 t s0) (fun r => Q (some (eI r)) t) → nX W (d + 3) tX12_at Q a0 e0 55 [some (eR (some (12, 0))), some (eI v1), some (eI v2), some (eI v3), some (eR (some (1, v4))), none] [eO 11 s0] t bc bs := by
  intro v1 v2 v3 v4 s0 H
  unfold B_X12_at_55 at H
  refine nx_st (ls' := [some (eR (some (12, 0))), some (eI v1), some (eI v2), some (eI v3), some (eR (some (1, v4))), some (eO 11 s0)]) rfl rfl rfl (Nat.le_of_ble_eq_true rfl) rfl ?_
  refine nx_ld rfl rfl rfl rfl ?_
  rcases s0 with _ | j21
  · replace H := oc_no H
    refine nx_non0 (c := 11) rfl rfl ?_
    refine nx_int (x := (-2)) rfl rfl ?_
    refine nx_goto rfl rfl ?_
    exact nx_ri rfl rfl H
  replace H := oc_so H
  refine nx_non1 rfl rfl ?_
  refine nx_ld rfl rfl rfl rfl ?_
  refine nx_getR rfl rfl rfl (by decide) rfl H (fun o22 H => ?_)
  rcases o22 with _ | j23
  · exact (wp_none (oc_no H)).elim
  replace H := oc_so H
  refine nx_getI rfl rfl rfl (by decide) ?_
  exact nx_ri rfl rfl H
def F_X12_at (t : TS) (x1 : Int32) (x2 : Int32) (x3 : Int32) : Option Int32 := (Option.bind (F_X12_playerAt t x1) (fun r21 => (oc r21 (some ((-1))) (fun j22 => (Option.bind (F_X12_within t x2 (-9999) 2999) (fun r23 => (if r23 = 0 then (some ((-1))) else (Option.bind (F_X12_within t x3 0 1) (fun r24 => (if ¬ r24 = 0 then (if ¬ x3 = 0 then (Option.bind (F_X1_owning t j22 x2) (fun r25 => (B_X12_at_55  t r25))) else (Option.bind (F_X1_holding t j22 x2) (fun r26 => (B_X12_at_55  t r26)))) else (some ((-1)))))))))))))
theorem TF_X12_at {W : NW} {d : Nat} {t : TS} {x1 : Int32} {x2 : Int32} {x3 : Int32} {Q : Option NV → TS → Prop} {bc bs : Nat} (hW : W.2.2.2 = mm_fx) (H : wp (F_X12_at t x1 x2 x3) (fun r => Q (some (eI r)) t)) : nC W (d + 4) 77 [eR (some (12, 0)), eI x1, eI x2, eI x3] t bc bs Q := by
  refine nC_in (d := (d + 3)) (T := tX12_at) (ls := [some (eR (some (12, 0))), some (eI x1), some (eI x2), some (eI x3), none, none]) rfl (Nat.le_of_ble_eq_true rfl) rfl (fun a0 e0 => ?_)
  unfold F_X12_at at H
  refine nx_ld rfl rfl rfl rfl ?_
  refine nx_ld rfl rfl rfl rfl ?_
  refine nx_cVO 1 (as := [eI x1]) (st' := []) rfl rfl (Nat.le_of_ble_eq_true rfl) rfl rfl (Nat.le_of_ble_eq_true rfl) (c0 := 12) rfl (by decide) H (fun Q H => TF_X12_playerAt hW  H) (fun r21 H => ?_)
  refine nx_st (ls' := [some (eR (some (12, 0))), some (eI x1), some (eI x2), some (eI x3), some (eO 1 r21), none]) rfl rfl rfl (Nat.le_of_ble_eq_true rfl) rfl ?_
  refine nx_ld rfl rfl rfl rfl ?_
  rcases r21 with _ | j22
  · replace H := oc_no H
    refine nx_null0 (c := 1) rfl rfl ?_
    refine nx_int (x := (-1)) rfl rfl ?_
    exact nx_ri rfl rfl H
  replace H := oc_so H
  refine nx_null1 rfl rfl ?_
  refine nx_ld rfl rfl rfl rfl ?_
  refine nx_int (x := (-9999)) rfl rfl ?_
  refine nx_int (x := 2999) rfl rfl ?_
  refine nx_cSI (as := [eI x2, eI (-9999), eI 2999]) (st' := []) rfl rfl (Nat.le_of_ble_eq_true rfl) rfl rfl (Nat.le_of_ble_eq_true rfl) H (fun Q H => TF_X12_within hW  H) (fun r23 H => ?_)
  refine nx_if rfl rfl (by rfl) H (fun H => ?_) (fun H => ?_)
  · refine nx_int (x := (-1)) rfl rfl ?_
    exact nx_ri rfl rfl H
  refine nx_ld rfl rfl rfl rfl ?_
  refine nx_int (x := 0) rfl rfl ?_
  refine nx_int (x := 1) rfl rfl ?_
  refine nx_cSI (as := [eI x3, eI 0, eI 1]) (st' := []) rfl rfl (Nat.le_of_ble_eq_true rfl) rfl rfl (Nat.le_of_ble_eq_true rfl) H (fun Q H => TF_X12_within hW  H) (fun r24 H => ?_)
  refine nx_if rfl rfl (by rfl) H (fun H => ?_) (fun H => ?_)
  · refine nx_ld rfl rfl rfl rfl ?_
    refine nx_if rfl rfl (by rfl) H (fun H => ?_) (fun H => ?_)
    · refine nx_ld rfl rfl rfl rfl ?_
      refine nx_ld rfl rfl rfl rfl ?_
      refine nx_cVO 11 (as := [eI x2]) (st' := []) rfl rfl (Nat.le_of_ble_eq_true rfl) rfl rfl (Nat.le_of_ble_eq_true rfl) (c0 := 1) rfl (by decide) H (fun Q H => TF_X1_owning hW  H) (fun r25 H => ?_)
      exact TB_X12_at_55 hW    _ _ _ _ _ H
    refine nx_ld rfl rfl rfl rfl ?_
    refine nx_ld rfl rfl rfl rfl ?_
    refine nx_cVO 11 (as := [eI x2]) (st' := []) rfl rfl (Nat.le_of_ble_eq_true rfl) rfl rfl (Nat.le_of_ble_eq_true rfl) (c0 := 1) rfl (by decide) H (fun Q H => TF_X1_holding hW  H) (fun r26 H => ?_)
    refine nx_goto rfl rfl ?_
    exact TB_X12_at_55 hW    _ _ _ _ _ H
  refine nx_int (x := (-1)) rfl rfl ?_
  exact nx_ri rfl rfl H
def B_X12_countTeaching_154 (k75 : TS → Nat → Int32 → Int32 → Option TS) (t : TS) (v1 : Nat) (v2 : Int32) (v3 : Int32) : Option TS := (k75 t v1 v2 v3)
theorem TB_X12_countTeaching_154 {W : NW} {d : Nat} {Q : Option NV → TS → Prop} {a0 : Nat → Nat → Nat} {e0 : Nat → Nat → Bool} {k75 : TS → Nat → Int32 → Int32 → Option TS} {bc bs : Nat} (hW : W.2.2.2 = mm_fx) (hk75 : ∀ (t : TS) (v1 : Nat) (v2 : Int32) (v3 : Option NV) (v4 : Int32) (v5 : Option NV), wp (k75 t v1 v2 v4) (fun r => Q none r) → nX W (d + 1) tX12_countTeaching Q a0 e0 75 [some (eR (some (12, 0))), some (eR (some (1, v1))), some (eI v2), v3, some (eI v4), v5] [] t bc bs) : ∀ (t : TS) (v1 : Nat) (v2 : Int32) (v3 : Int32) (v4 : Int32) (v5 : Option Nat), wp (B_X12_countTeaching_154 k75 t v1 v2 v3) (fun r => Q none r) → nX W (d + 1) tX12_countTeaching Q a0 e0 154 [some (eR (some (12, 0))), some (eR (some (1, v1))), some (eI v2), some (eI v3), some (eI v4), some (eO 11 v5)] [] t bc bs := by
  intro t v1 v2 v3 v4 v5 H
  unfold B_X12_countTeaching_154 at H
  refine nx_ld rfl rfl rfl rfl ?_
  refine nx_st (ls' := [some (eR (some (12, 0))), some (eR (some (1, v1))), some (eI v2), some (eI v3), some (eI v3), some (eO 11 v5)]) rfl rfl rfl (Nat.le_of_ble_eq_true rfl) rfl ?_
  refine nx_goto rfl rfl ?_
  exact hk75 _ _ _ _ _ _ H
def BB_X12_countTeaching_75 (k75 : TS → Nat → Int32 → Int32 → Option TS) (t : TS) (v1 : Nat) (v2 : Int32) (v4 : Int32) : Option TS := (if v2 < v4 then (some t) else (Option.bind (F_X1_nextChange t v1 v4) (fun r21 => (Option.bind (F_X1_holding t v1 v4) (fun r22 => (oc r22 (B_X12_countTeaching_154 k75 t v1 v2 (if (v4 + 1) < (if (v2 + 1) < r21 then (v2 + 1) else r21) then (if (v2 + 1) < r21 then (v2 + 1) else r21) else (v4 + 1))) (fun j23 => (nxt (tR t 1101 j23) (fun o24 => (oc o24 none (fun j25 => (gd (tI t 100 j25) (tL t 3209 0) (gd (tI t 100 j25) (tL t 3209 0) (nxt (uA t 3209 0 (tI t 100 j25).toNatClampNeg ((tA t 3209 0 (tI t 100 j25).toNatClampNeg) + ((if (v4 + 1) < (if (v2 + 1) < r21 then (v2 + 1) else r21) then (if (v2 + 1) < r21 then (v2 + 1) else r21) else (v4 + 1)) - v4))) (fun t26 => (nxt (tR t26 1101 j23) (fun o27 => (oc o27 none (fun j28 => (gd (tI t26 102 j28) (tL t26 3210 0) (gd (tI t26 102 j28) (tL t26 3210 0) (nxt (uA t26 3210 0 (tI t26 102 j28).toNatClampNeg ((tA t26 3210 0 (tI t26 102 j28).toNatClampNeg) + ((if (v4 + 1) < (if (v2 + 1) < r21 then (v2 + 1) else r21) then (if (v2 + 1) < r21 then (v2 + 1) else r21) else (v4 + 1)) - v4))) (fun t29 => (B_X12_countTeaching_154 k75 t29 v1 v2 (if (v4 + 1) < (if (v2 + 1) < r21 then (v2 + 1) else r21) then (if (v2 + 1) < r21 then (v2 + 1) else r21) else (v4 + 1))))))))))))))))))))))))))
theorem TBB_X12_countTeaching_75 {W : NW} {d : Nat} {Q : Option NV → TS → Prop} {a0 : Nat → Nat → Nat} {e0 : Nat → Nat → Bool} {k75 : TS → Nat → Int32 → Int32 → Option TS} {bc bs : Nat} (hW : W.2.2.2 = mm_fx) (hk75 : ∀ (t : TS) (v1 : Nat) (v2 : Int32) (v3 : Option NV) (v4 : Int32) (v5 : Option NV), wp (k75 t v1 v2 v4) (fun r => Q none r) → nX W (d + 1) tX12_countTeaching Q a0 e0 75 [some (eR (some (12, 0))), some (eR (some (1, v1))), some (eI v2), v3, some (eI v4), v5] [] t bc bs) : ∀ (t : TS) (v1 : Nat) (v2 : Int32) (v3 : Option NV) (v4 : Int32) (v5 : Option NV), wp (BB_X12_countTeaching_75 k75 t v1 v2 v4) (fun r => Q none r) → nX W (d + 1) tX12_countTeaching Q a0 e0 75 [some (eR (some (12, 0))), some (eR (some (1, v1))), some (eI v2), v3, some (eI v4), v5] [] t bc bs := by
  intro t v1 v2 v3 v4 v5 H
  unfold BB_X12_countTeaching_75 at H
  refine nx_ld rfl rfl rfl rfl ?_
  refine nx_ld rfl rfl rfl rfl ?_
  refine nx_icmp rfl rfl (by rfl) H (fun H => ?_) (fun H => ?_)
  · exact nx_rv rfl rfl H
  refine nx_ld rfl rfl rfl rfl ?_
  refine nx_int (x := 1) rfl rfl ?_
  refine nx_ii rfl rfl ?_
  refine nx_ld rfl rfl rfl rfl ?_
  refine nx_ld rfl rfl rfl rfl ?_
  refine nx_cVI (as := [eI v4]) (st' := [eI (v4 + 1)]) rfl rfl (Nat.le_of_ble_eq_true rfl) rfl rfl (Nat.le_of_ble_eq_true rfl) (c0 := 1) rfl (by decide) H (fun Q H => TF_X1_nextChange hW  H) (fun r21 H => ?_)
  refine nx_ld rfl rfl rfl rfl ?_
  show nX _ _ _ _ _ _ 92 _ _ _ _ _
  refine nx_int (x := 1) rfl rfl ?_
  refine nx_ii rfl rfl ?_
  refine nx_ext2 rfl rfl (Nat.le_of_ble_eq_true rfl) ?_
  refine nx_ext2 rfl rfl (Nat.le_of_ble_eq_true rfl) ?_
  refine nx_st (ls' := [some (eR (some (12, 0))), some (eR (some (1, v1))), some (eI v2), some (eI (if (v4 + 1) < (if (v2 + 1) < r21 then (v2 + 1) else r21) then (if (v2 + 1) < r21 then (v2 + 1) else r21) else (v4 + 1))), some (eI v4), v5]) rfl rfl rfl (Nat.le_of_ble_eq_true rfl) rfl ?_
  refine nx_ld rfl rfl rfl rfl ?_
  refine nx_ld rfl rfl rfl rfl ?_
  refine nx_cVO 11 (as := [eI v4]) (st' := []) rfl rfl (Nat.le_of_ble_eq_true rfl) rfl rfl (Nat.le_of_ble_eq_true rfl) (c0 := 1) rfl (by decide) H (fun Q H => TF_X1_holding hW  H) (fun r22 H => ?_)
  show nX _ _ _ _ _ _ 107 _ _ _ _ _
  refine nx_st (ls' := [some (eR (some (12, 0))), some (eR (some (1, v1))), some (eI v2), some (eI (if (v4 + 1) < (if (v2 + 1) < r21 then (v2 + 1) else r21) then (if (v2 + 1) < r21 then (v2 + 1) else r21) else (v4 + 1))), some (eI v4), some (eO 11 r22)]) rfl rfl rfl (Nat.le_of_ble_eq_true rfl) rfl ?_
  refine nx_ld rfl rfl rfl rfl ?_
  rcases r22 with _ | j23
  · replace H := oc_no H
    refine nx_null0 (c := 11) rfl rfl ?_
    exact TB_X12_countTeaching_154 hW   hk75 _ _ _ _ _ _ H
  replace H := oc_so H
  refine nx_null1 rfl rfl ?_
  refine nx_ld rfl rfl rfl rfl ?_
  refine nx_getFix rfl rfl rfl (by decide) (by rw [hW]; rfl) rfl ?_
  refine nx_ld rfl rfl rfl rfl ?_
  refine nx_getR rfl rfl rfl (by decide) rfl H (fun o24 H => ?_)
  rcases o24 with _ | j25
  · exact (wp_none (oc_no H)).elim
  replace H := oc_so H
  refine nx_getI rfl rfl rfl (by decide) ?_
  refine nx_dup2 rfl rfl (Nat.ne_of_beq_eq_false rfl) (Nat.ne_of_beq_eq_false rfl) ?_
  refine nx_iald (p := (3209, 0)) rfl rfl (Nat.le_of_ble_eq_true rfl) (Nat.le_of_ble_eq_true rfl) rfl H (fun H => ?_)
  show nX _ _ _ _ _ _ 128 _ _ _ _ _
  refine nx_ld rfl rfl rfl rfl ?_
  refine nx_ld rfl rfl rfl rfl ?_
  refine nx_ii rfl rfl ?_
  refine nx_ii rfl rfl ?_
  refine nx_iast (p := (3209, 0)) rfl rfl (Nat.le_of_ble_eq_true rfl) (Nat.le_of_ble_eq_true rfl) rfl H (fun t26 H => ?_)
  refine nx_ld rfl rfl rfl rfl ?_
  refine nx_getFix rfl rfl rfl (by decide) (by rw [hW]; rfl) rfl ?_
  refine nx_ld rfl rfl rfl rfl ?_
  show nX _ _ _ _ _ _ 140 _ _ _ _ _
  refine nx_getR rfl rfl rfl (by decide) rfl H (fun o27 H => ?_)
  rcases o27 with _ | j28
  · exact (wp_none (oc_no H)).elim
  replace H := oc_so H
  refine nx_getI rfl rfl rfl (by decide) ?_
  refine nx_dup2 rfl rfl (Nat.ne_of_beq_eq_false rfl) (Nat.ne_of_beq_eq_false rfl) ?_
  refine nx_iald (p := (3210, 0)) rfl rfl (Nat.le_of_ble_eq_true rfl) (Nat.le_of_ble_eq_true rfl) rfl H (fun H => ?_)
  refine nx_ld rfl rfl rfl rfl ?_
  refine nx_ld rfl rfl rfl rfl ?_
  refine nx_ii rfl rfl ?_
  refine nx_ii rfl rfl ?_
  show nX _ _ _ _ _ _ 153 _ _ _ _ _
  refine nx_iast (p := (3210, 0)) rfl rfl (Nat.le_of_ble_eq_true rfl) (Nat.le_of_ble_eq_true rfl) rfl H (fun t29 H => ?_)
  exact TB_X12_countTeaching_154 hW   hk75 _ _ _ _ _ ((some j23)) H
def B_X12_countTeaching_75 : Nat → TS → Nat → Int32 → Int32 → Option TS
  | 0 => fun _ _ _ _ => none
  | n + 1 => fun t v1 v2 v4 => BB_X12_countTeaching_75 (B_X12_countTeaching_75 n) t v1 v2 v4
theorem TB_X12_countTeaching_75 {W : NW} {d : Nat} {Q : Option NV → TS → Prop} {a0 : Nat → Nat → Nat} {e0 : Nat → Nat → Bool} {bc bs : Nat} (hW : W.2.2.2 = mm_fx) : ∀ (n : Nat) (t : TS) (v1 : Nat) (v2 : Int32) (v3 : Option NV) (v4 : Int32) (v5 : Option NV), wp (B_X12_countTeaching_75 n t v1 v2 v4) (fun r => Q none r) → nX W (d + 1) tX12_countTeaching Q a0 e0 75 [some (eR (some (12, 0))), some (eR (some (1, v1))), some (eI v2), v3, some (eI v4), v5] [] t bc bs := by
  intro n
  induction n with
  | zero => intro t v1 v2 v3 v4 v5 H; exact (wp_none H).elim
  | succ n ih =>
    intro t v1 v2 v3 v4 v5 H
    exact TBB_X12_countTeaching_75 hW    ih t v1 v2 v3 v4 v5 H
def B_X12_countTeaching_47 (t : TS) (v1 : Option Nat) : Option TS := (oc v1 none (fun j21 => (B_X12_countTeaching_75  10000 t j21 (if (((tI t 105 j21) + 6900) - 1) < (tI t 1200 0) then (((tI t 105 j21) + 6900) - 1) else (tI t 1200 0)) ((tI t 105 j21) + 3600))))
theorem TB_X12_countTeaching_47 {W : NW} {d : Nat} {Q : Option NV → TS → Prop} {a0 : Nat → Nat → Nat} {e0 : Nat → Nat → Bool} {bc bs : Nat} (hW : W.2.2.2 = mm_fx) : ∀ (t : TS) (v1 : Option Nat) (v2 : Int32), wp (B_X12_countTeaching_47 t v1) (fun r => Q none r) → nX W (d + 1) tX12_countTeaching Q a0 e0 47 [some (eR (some (12, 0))), some (eO 1 v1), some (eI v2), none, none, none] [] t bc bs := by
  intro t v1 v2 H
  unfold B_X12_countTeaching_47 at H
  refine nx_ld rfl rfl rfl rfl ?_
  refine nx_getI rfl rfl rfl (by decide) ?_
  refine nx_ld rfl rfl rfl rfl ?_
  rcases v1 with _ | j21
  · exact (wp_none (oc_no H)).elim
  replace H := oc_so H
  refine nx_getI rfl rfl rfl (by decide) ?_
  refine nx_int (x := 6900) rfl rfl ?_
  refine nx_ii rfl rfl ?_
  refine nx_int (x := 1) rfl rfl ?_
  show nX _ _ _ _ _ _ 60 _ _ _ _ _
  refine nx_ii rfl rfl ?_
  refine nx_ext2 rfl rfl (Nat.le_of_ble_eq_true rfl) ?_
  refine nx_st (ls' := [some (eR (some (12, 0))), some (eR (some (1, j21))), some (eI (if (((tI t 105 j21) + 6900) - 1) < (tI t 1200 0) then (((tI t 105 j21) + 6900) - 1) else (tI t 1200 0))), none, none, none]) rfl rfl rfl (Nat.le_of_ble_eq_true rfl) rfl ?_
  refine nx_ld rfl rfl rfl rfl ?_
  refine nx_getI rfl rfl rfl (by decide) ?_
  refine nx_int (x := 3600) rfl rfl ?_
  refine nx_ii rfl rfl ?_
  refine nx_st (ls' := [some (eR (some (12, 0))), some (eR (some (1, j21))), some (eI (if (((tI t 105 j21) + 6900) - 1) < (tI t 1200 0) then (((tI t 105 j21) + 6900) - 1) else (tI t 1200 0))), none, some (eI ((tI t 105 j21) + 3600)), none]) rfl rfl rfl (Nat.le_of_ble_eq_true rfl) rfl ?_
  exact TB_X12_countTeaching_75 hW    10000 _ _ _ _ _ _ H
def BB_X12_countTeaching_25 (k25 : TS → (Option Nat) → Int32 → Option TS) (t : TS) (v1 : Option Nat) (v2 : Int32) : Option TS := (if (Int32.ofNat (tL t 3210 0)) ≤ v2 then (B_X12_countTeaching_47  t v1) else (gd v2 (tL t 3210 0) (nxt (uA t 3210 0 v2.toNatClampNeg 0) (fun t21 => (k25 t21 v1 (v2 + 1))))))
theorem TBB_X12_countTeaching_25 {W : NW} {d : Nat} {Q : Option NV → TS → Prop} {a0 : Nat → Nat → Nat} {e0 : Nat → Nat → Bool} {k25 : TS → (Option Nat) → Int32 → Option TS} {bc bs : Nat} (hW : W.2.2.2 = mm_fx) (hk25 : ∀ (t : TS) (v1 : Option Nat) (v2 : Int32), wp (k25 t v1 v2) (fun r => Q none r) → nX W (d + 1) tX12_countTeaching Q a0 e0 25 [some (eR (some (12, 0))), some (eO 1 v1), some (eI v2), none, none, none] [] t bc bs) : ∀ (t : TS) (v1 : Option Nat) (v2 : Int32), wp (BB_X12_countTeaching_25 k25 t v1 v2) (fun r => Q none r) → nX W (d + 1) tX12_countTeaching Q a0 e0 25 [some (eR (some (12, 0))), some (eO 1 v1), some (eI v2), none, none, none] [] t bc bs := by
  intro t v1 v2 H
  unfold BB_X12_countTeaching_25 at H
  refine nx_ld rfl rfl rfl rfl ?_
  refine nx_ld rfl rfl rfl rfl ?_
  refine nx_getFix rfl rfl rfl (by decide) (by rw [hW]; rfl) rfl ?_
  refine nx_alen (p := (3210, 0)) rfl rfl (Nat.le_of_ble_eq_true rfl) (Nat.le_of_ble_eq_true rfl) (Nat.le_of_ble_eq_true rfl) ?_
  refine nx_icmp rfl rfl (by rfl) H (fun H => ?_) (fun H => ?_)
  · exact TB_X12_countTeaching_47 hW    _ _ _ H
  refine nx_ld rfl rfl rfl rfl ?_
  refine nx_getFix rfl rfl rfl (by decide) (by rw [hW]; rfl) rfl ?_
  refine nx_ld rfl rfl rfl rfl ?_
  refine nx_int (x := 0) rfl rfl ?_
  refine nx_iast (p := (3210, 0)) rfl rfl (Nat.le_of_ble_eq_true rfl) (Nat.le_of_ble_eq_true rfl) rfl H (fun t21 H => ?_)
  refine nx_iinc2 1 (ls' := [some (eR (some (12, 0))), some (eO 1 v1), some (eI (v2 + 1)), none, none, none]) rfl rfl rfl rfl rfl ?_
  refine nx_goto rfl rfl ?_
  exact hk25 _ _ _ H
def B_X12_countTeaching_25 : Nat → TS → (Option Nat) → Int32 → Option TS
  | 0 => fun _ _ _ => none
  | n + 1 => fun t v1 v2 => BB_X12_countTeaching_25 (B_X12_countTeaching_25 n) t v1 v2
theorem TB_X12_countTeaching_25 {W : NW} {d : Nat} {Q : Option NV → TS → Prop} {a0 : Nat → Nat → Nat} {e0 : Nat → Nat → Bool} {bc bs : Nat} (hW : W.2.2.2 = mm_fx) : ∀ (n : Nat) (t : TS) (v1 : Option Nat) (v2 : Int32), wp (B_X12_countTeaching_25 n t v1 v2) (fun r => Q none r) → nX W (d + 1) tX12_countTeaching Q a0 e0 25 [some (eR (some (12, 0))), some (eO 1 v1), some (eI v2), none, none, none] [] t bc bs := by
  intro n
  induction n with
  | zero => intro t v1 v2 H; exact (wp_none H).elim
  | succ n ih =>
    intro t v1 v2 H
    exact TBB_X12_countTeaching_25 hW    ih t v1 v2 H
def B_X12_countTeaching_23 (t : TS) (v1 : Option Nat) : Option TS := (B_X12_countTeaching_25  10000 t v1 0)
theorem TB_X12_countTeaching_23 {W : NW} {d : Nat} {Q : Option NV → TS → Prop} {a0 : Nat → Nat → Nat} {e0 : Nat → Nat → Bool} {bc bs : Nat} (hW : W.2.2.2 = mm_fx) : ∀ (t : TS) (v1 : Option Nat) (v2 : Int32), wp (B_X12_countTeaching_23 t v1) (fun r => Q none r) → nX W (d + 1) tX12_countTeaching Q a0 e0 23 [some (eR (some (12, 0))), some (eO 1 v1), some (eI v2), none, none, none] [] t bc bs := by
  intro t v1 v2 H
  unfold B_X12_countTeaching_23 at H
  refine nx_int (x := 0) rfl rfl ?_
  refine nx_st (ls' := [some (eR (some (12, 0))), some (eO 1 v1), some (eI 0), none, none, none]) rfl rfl rfl (Nat.le_of_ble_eq_true rfl) rfl ?_
  exact TB_X12_countTeaching_25 hW    10000 _ _ _ H
def BB_X12_countTeaching_2 (k2 : TS → (Option Nat) → Int32 → Option TS) (t : TS) (v1 : Option Nat) (v2 : Int32) : Option TS := (if (tI t 1204 0) ≤ v2 then (B_X12_countTeaching_23  t v1) else (gd v2 (tL t 3209 0) (nxt (uA t 3209 0 v2.toNatClampNeg 0) (fun t21 => (k2 t21 v1 (v2 + 1))))))
theorem TBB_X12_countTeaching_2 {W : NW} {d : Nat} {Q : Option NV → TS → Prop} {a0 : Nat → Nat → Nat} {e0 : Nat → Nat → Bool} {k2 : TS → (Option Nat) → Int32 → Option TS} {bc bs : Nat} (hW : W.2.2.2 = mm_fx) (hk2 : ∀ (t : TS) (v1 : Option Nat) (v2 : Int32), wp (k2 t v1 v2) (fun r => Q none r) → nX W (d + 1) tX12_countTeaching Q a0 e0 2 [some (eR (some (12, 0))), some (eO 1 v1), some (eI v2), none, none, none] [] t bc bs) : ∀ (t : TS) (v1 : Option Nat) (v2 : Int32), wp (BB_X12_countTeaching_2 k2 t v1 v2) (fun r => Q none r) → nX W (d + 1) tX12_countTeaching Q a0 e0 2 [some (eR (some (12, 0))), some (eO 1 v1), some (eI v2), none, none, none] [] t bc bs := by
  intro t v1 v2 H
  unfold BB_X12_countTeaching_2 at H
  refine nx_ld rfl rfl rfl rfl ?_
  refine nx_ld rfl rfl rfl rfl ?_
  refine nx_getI rfl rfl rfl (by decide) ?_
  refine nx_icmp rfl rfl (by rfl) H (fun H => ?_) (fun H => ?_)
  · exact TB_X12_countTeaching_23 hW    _ _ _ H
  refine nx_ld rfl rfl rfl rfl ?_
  refine nx_getFix rfl rfl rfl (by decide) (by rw [hW]; rfl) rfl ?_
  refine nx_ld rfl rfl rfl rfl ?_
  refine nx_int (x := 0) rfl rfl ?_
  refine nx_iast (p := (3209, 0)) rfl rfl (Nat.le_of_ble_eq_true rfl) (Nat.le_of_ble_eq_true rfl) rfl H (fun t21 H => ?_)
  refine nx_iinc2 1 (ls' := [some (eR (some (12, 0))), some (eO 1 v1), some (eI (v2 + 1)), none, none, none]) rfl rfl rfl rfl rfl ?_
  refine nx_goto rfl rfl ?_
  exact hk2 _ _ _ H
def B_X12_countTeaching_2 : Nat → TS → (Option Nat) → Int32 → Option TS
  | 0 => fun _ _ _ => none
  | n + 1 => fun t v1 v2 => BB_X12_countTeaching_2 (B_X12_countTeaching_2 n) t v1 v2
theorem TB_X12_countTeaching_2 {W : NW} {d : Nat} {Q : Option NV → TS → Prop} {a0 : Nat → Nat → Nat} {e0 : Nat → Nat → Bool} {bc bs : Nat} (hW : W.2.2.2 = mm_fx) : ∀ (n : Nat) (t : TS) (v1 : Option Nat) (v2 : Int32), wp (B_X12_countTeaching_2 n t v1 v2) (fun r => Q none r) → nX W (d + 1) tX12_countTeaching Q a0 e0 2 [some (eR (some (12, 0))), some (eO 1 v1), some (eI v2), none, none, none] [] t bc bs := by
  intro n
  induction n with
  | zero => intro t v1 v2 H; exact (wp_none H).elim
  | succ n ih =>
    intro t v1 v2 H
    exact TBB_X12_countTeaching_2 hW    ih t v1 v2 H
def F_X12_countTeaching (t : TS) (o1 : Option Nat) : Option TS := (B_X12_countTeaching_2  10000 t o1 0)
theorem TF_X12_countTeaching {W : NW} {d : Nat} {t : TS} {o1 : Option Nat} {Q : Option NV → TS → Prop} {bc bs : Nat} (hW : W.2.2.2 = mm_fx) (H : wp (F_X12_countTeaching t o1) (fun r => Q none r)) : nC W (d + 2) 130 [eR (some (12, 0)), eO 1 o1] t bc bs Q := by
  refine nC_in (d := (d + 1)) (T := tX12_countTeaching) (ls := [some (eR (some (12, 0))), some (eO 1 o1), none, none, none, none]) rfl (Nat.le_of_ble_eq_true rfl) rfl (fun a0 e0 => ?_)
  unfold F_X12_countTeaching at H
  refine nx_int (x := 0) rfl rfl ?_
  refine nx_st (ls' := [some (eR (some (12, 0))), some (eO 1 o1), some (eI 0), none, none, none]) rfl rfl rfl (Nat.le_of_ble_eq_true rfl) rfl ?_
  exact TB_X12_countTeaching_2 hW    10000 _ _ _ H
def F_X12_taught (t : TS) (x1 : Int32) (x2 : Int32) : Option (Int32 × TS) := (Option.bind (F_X12_playerAt t x1) (fun r21 => (Option.bind (F_X12_clubAt t x2) (fun r22 => (oc r21 (some ((-1), t)) (fun j23 => (oc r22 (some ((-1), t)) (fun j24 => (Option.bind (F_X12_countTeaching t (some j23)) (fun r25 => (gd (tI r25 100 j24) (tL r25 3209 0) (some ((tA r25 3209 0 (tI r25 100 j24).toNatClampNeg), r25)))))))))))))
theorem TF_X12_taught {W : NW} {d : Nat} {t : TS} {x1 : Int32} {x2 : Int32} {Q : Option NV → TS → Prop} {bc bs : Nat} (hW : W.2.2.2 = mm_fx) (H : wp (F_X12_taught t x1 x2) (fun r => Q (some (eI r.1)) r.2)) : nC W (d + 4) 78 [eR (some (12, 0)), eI x1, eI x2] t bc bs Q := by
  refine nC_in (d := (d + 3)) (T := tX12_taught) (ls := [some (eR (some (12, 0))), some (eI x1), some (eI x2), none, none]) rfl (Nat.le_of_ble_eq_true rfl) rfl (fun a0 e0 => ?_)
  unfold F_X12_taught at H
  refine nx_ld rfl rfl rfl rfl ?_
  refine nx_ld rfl rfl rfl rfl ?_
  refine nx_cVO 1 (as := [eI x1]) (st' := []) rfl rfl (Nat.le_of_ble_eq_true rfl) rfl rfl (Nat.le_of_ble_eq_true rfl) (c0 := 12) rfl (by decide) H (fun Q H => TF_X12_playerAt hW  H) (fun r21 H => ?_)
  refine nx_st (ls' := [some (eR (some (12, 0))), some (eI x1), some (eI x2), some (eO 1 r21), none]) rfl rfl rfl (Nat.le_of_ble_eq_true rfl) rfl ?_
  refine nx_ld rfl rfl rfl rfl ?_
  refine nx_ld rfl rfl rfl rfl ?_
  refine nx_cVO 1 (as := [eI x2]) (st' := []) rfl rfl (Nat.le_of_ble_eq_true rfl) rfl rfl (Nat.le_of_ble_eq_true rfl) (c0 := 12) rfl (by decide) H (fun Q H => TF_X12_clubAt hW  H) (fun r22 H => ?_)
  show nX _ _ _ _ _ _ 11 _ _ _ _ _
  refine nx_st (ls' := [some (eR (some (12, 0))), some (eI x1), some (eI x2), some (eO 1 r21), some (eO 1 r22)]) rfl rfl rfl (Nat.le_of_ble_eq_true rfl) rfl ?_
  refine nx_ld rfl rfl rfl rfl ?_
  rcases r21 with _ | j23
  · replace H := oc_no H
    refine nx_null0 (c := 1) rfl rfl ?_
    refine nx_int (x := (-1)) rfl rfl ?_
    exact nx_rit rfl rfl H
  replace H := oc_so H
  refine nx_null1 rfl rfl ?_
  refine nx_ld rfl rfl rfl rfl ?_
  rcases r22 with _ | j24
  · replace H := oc_no H
    refine nx_non0 (c := 1) rfl rfl ?_
    refine nx_int (x := (-1)) rfl rfl ?_
    exact nx_rit rfl rfl H
  replace H := oc_so H
  refine nx_non1 rfl rfl ?_
  refine nx_ld rfl rfl rfl rfl ?_
  refine nx_ld rfl rfl rfl rfl ?_
  refine nx_cVVt (as := [eO 1 (some j23)]) (st' := []) rfl rfl (Nat.le_of_ble_eq_true rfl) rfl rfl (Nat.le_of_ble_eq_true rfl) (c0 := 12) rfl (by decide) H (fun Q H => TF_X12_countTeaching hW  H) (fun r25 H => ?_)
  refine nx_ld rfl rfl rfl rfl ?_
  refine nx_getFix rfl rfl rfl (by decide) (by rw [hW]; rfl) rfl ?_
  refine nx_ld rfl rfl rfl rfl ?_
  refine nx_getI rfl rfl rfl (by decide) ?_
  show nX _ _ _ _ _ _ 38 _ _ _ _ _
  refine nx_iald (p := (3209, 0)) rfl rfl (Nat.le_of_ble_eq_true rfl) (Nat.le_of_ble_eq_true rfl) rfl H (fun H => ?_)
  exact nx_rit rfl rfl H
def F_X12_term (t : TS) (x1 : Int32) (x2 : Int32) : Option (Int32 × TS) := (Option.bind (F_X12_within t x1 0 ((Int32.ofNat (tL t 3208 0)) - 1)) (fun r21 => (if r21 = 0 then (some ((-1), t)) else (gd x1 (mm_sv 1).length (gd x1 (mm_sv 2).length (Option.bind (F_X12_within t x2 ((mm_sv 1).getD x1.toNatClampNeg 0) ((mm_sv 2).getD x1.toNatClampNeg 0)) (fun r22 => (if ¬ r22 = 0 then (gd x1 (tL t 3208 0) (gd x1 (tL t 3208 0) (nxt (uA t 3208 0 x1.toNatClampNeg x2) (fun t23 => (some ((tA t 3208 0 x1.toNatClampNeg), t23)))))) else (some ((-1), t))))))))))
theorem TF_X12_term {W : NW} {d : Nat} {t : TS} {x1 : Int32} {x2 : Int32} {Q : Option NV → TS → Prop} {bc bs : Nat} (hW : W.2.2.2 = mm_fx) (H : wp (F_X12_term t x1 x2) (fun r => Q (some (eI r.1)) r.2)) : nC W (d + 2) 79 [eR (some (12, 0)), eI x1, eI x2] t bc bs Q := by
  refine nC_in (d := (d + 1)) (T := tX12_term) (ls := [some (eR (some (12, 0))), some (eI x1), some (eI x2), none]) rfl (Nat.le_of_ble_eq_true rfl) rfl (fun a0 e0 => ?_)
  unfold F_X12_term at H
  refine nx_ld rfl rfl rfl rfl ?_
  refine nx_int (x := 0) rfl rfl ?_
  refine nx_ld rfl rfl rfl rfl ?_
  refine nx_getFix rfl rfl rfl (by decide) (by rw [hW]; rfl) rfl ?_
  refine nx_alen (p := (3208, 0)) rfl rfl (Nat.le_of_ble_eq_true rfl) (Nat.le_of_ble_eq_true rfl) (Nat.le_of_ble_eq_true rfl) ?_
  refine nx_int (x := 1) rfl rfl ?_
  refine nx_ii rfl rfl ?_
  show nX _ _ _ _ _ _ 9 _ _ _ _ _
  refine nx_cSI (as := [eI x1, eI 0, eI ((Int32.ofNat (tL t 3208 0)) - 1)]) (st' := []) rfl rfl (Nat.le_of_ble_eq_true rfl) rfl rfl (Nat.le_of_ble_eq_true rfl) H (fun Q H => TF_X12_within hW  H) (fun r21 H => ?_)
  refine nx_if rfl rfl (by rfl) H (fun H => ?_) (fun H => ?_)
  · refine nx_int (x := (-1)) rfl rfl ?_
    exact nx_rit rfl rfl H
  refine nx_ld rfl rfl rfl rfl ?_
  refine nx_sta 1 rfl rfl ?_
  refine nx_ld rfl rfl rfl rfl ?_
  refine nx_ialdZ (s := 1) rfl rfl (by decide) H (fun H => ?_)
  refine nx_sta 2 rfl rfl ?_
  refine nx_ld rfl rfl rfl rfl ?_
  refine nx_ialdZ (s := 2) rfl rfl (by decide) H (fun H => ?_)
  show nX _ _ _ _ _ _ 26 _ _ _ _ _
  refine nx_cSI (as := [eI x2, eI ((mm_sv 1).getD x1.toNatClampNeg 0), eI ((mm_sv 2).getD x1.toNatClampNeg 0)]) (st' := []) rfl rfl (Nat.le_of_ble_eq_true rfl) rfl rfl (Nat.le_of_ble_eq_true rfl) H (fun Q H => TF_X12_within hW  H) (fun r22 H => ?_)
  refine nx_if rfl rfl (by rfl) H (fun H => ?_) (fun H => ?_)
  · refine nx_ld rfl rfl rfl rfl ?_
    refine nx_getFix rfl rfl rfl (by decide) (by rw [hW]; rfl) rfl ?_
    refine nx_ld rfl rfl rfl rfl ?_
    refine nx_iald (p := (3208, 0)) rfl rfl (Nat.le_of_ble_eq_true rfl) (Nat.le_of_ble_eq_true rfl) rfl H (fun H => ?_)
    refine nx_st (ls' := [some (eR (some (12, 0))), some (eI x1), some (eI x2), some (eI (tA t 3208 0 x1.toNatClampNeg))]) rfl rfl rfl (Nat.le_of_ble_eq_true rfl) rfl ?_
    refine nx_ld rfl rfl rfl rfl ?_
    refine nx_getFix rfl rfl rfl (by decide) (by rw [hW]; rfl) rfl ?_
    show nX _ _ _ _ _ _ 45 _ _ _ _ _
    refine nx_ld rfl rfl rfl rfl ?_
    refine nx_ld rfl rfl rfl rfl ?_
    refine nx_iast (p := (3208, 0)) rfl rfl (Nat.le_of_ble_eq_true rfl) (Nat.le_of_ble_eq_true rfl) rfl H (fun t23 H => ?_)
    refine nx_ld rfl rfl rfl rfl ?_
    exact nx_rit rfl rfl H
  refine nx_int (x := (-1)) rfl rfl ?_
  exact nx_rit rfl rfl H
def B_X12_isLentElsewhere_38 (t : TS) : Option Int32 := (some (1))
theorem TB_X12_isLentElsewhere_38 {W : NW} {d : Nat} {Q : Option NV → TS → Prop} {a0 : Nat → Nat → Nat} {e0 : Nat → Nat → Bool} {t : TS} {bc bs : Nat} (hW : W.2.2.2 = mm_fx) : ∀ (v1 : Nat) (v2 : Option Nat) (v3 : Int32) (v4 : Nat), wp (B_X12_isLentElsewhere_38 t) (fun r => Q (some (eI r)) t) → nX W (d + 1) tX12_isLentElsewhere Q a0 e0 38 [some (eR (some (12, 0))), some (eR (some (1, v1))), some (eO 1 v2), some (eI v3), some (eR (some (11, v4)))] [] t bc bs := by
  intro v1 v2 v3 v4 H
  unfold B_X12_isLentElsewhere_38 at H
  refine nx_int (x := 1) rfl rfl ?_
  refine nx_goto rfl rfl ?_
  exact nx_rzl rfl rfl (by decide) H
def F_X12_isLentElsewhere (t : TS) (o1 : Option Nat) (o2 : Option Nat) (x3 : Int32) : Option Int32 := (oc o1 none (fun j21 => (Option.bind (F_X1_holding t j21 (tI t 1200 0)) (fun r22 => (oc r22 (some (0)) (fun j23 => (if ¬ (tI t 1102 j23) = 2 then (some (0)) else (if x3 = 1 then (B_X12_isLentElsewhere_38  t) else (nxt (tR t 1101 j23) (fun o24 => (if (o24 : Option Nat) = o2 then (some (0)) else (B_X12_isLentElsewhere_38  t))))))))))))
theorem TF_X12_isLentElsewhere {W : NW} {d : Nat} {t : TS} {o1 : Option Nat} {o2 : Option Nat} {x3 : Int32} {Q : Option NV → TS → Prop} {bc bs : Nat} (hW : W.2.2.2 = mm_fx) (H : wp (F_X12_isLentElsewhere t o1 o2 x3) (fun r => Q (some (eI r)) t)) : nC W (d + 2) 134 [eR (some (12, 0)), eO 1 o1, eO 1 o2, eI x3] t bc bs Q := by
  refine nC_in (d := (d + 1)) (T := tX12_isLentElsewhere) (ls := [some (eR (some (12, 0))), some (eO 1 o1), some (eO 1 o2), some (eI x3), none]) rfl (Nat.le_of_ble_eq_true rfl) rfl (fun a0 e0 => ?_)
  unfold F_X12_isLentElsewhere at H
  refine nx_ld rfl rfl rfl rfl ?_
  refine nx_ld rfl rfl rfl rfl ?_
  refine nx_getI rfl rfl rfl (by decide) ?_
  rcases o1 with _ | j21
  · exact (wp_none (oc_no H)).elim
  replace H := oc_so H
  refine nx_cVO 11 (as := [eI (tI t 1200 0)]) (st' := []) rfl rfl (Nat.le_of_ble_eq_true rfl) rfl rfl (Nat.le_of_ble_eq_true rfl) (c0 := 1) rfl (by decide) H (fun Q H => TF_X1_holding hW  H) (fun r22 H => ?_)
  refine nx_st (ls' := [some (eR (some (12, 0))), some (eR (some (1, j21))), some (eO 1 o2), some (eI x3), some (eO 11 r22)]) rfl rfl rfl (Nat.le_of_ble_eq_true rfl) rfl ?_
  refine nx_ld rfl rfl rfl rfl ?_
  rcases r22 with _ | j23
  · replace H := oc_no H
    refine nx_null0 (c := 11) rfl rfl ?_
    refine nx_int (x := 0) rfl rfl ?_
    exact nx_rzl rfl rfl (by decide) H
  replace H := oc_so H
  refine nx_null1 rfl rfl ?_
  refine nx_ld rfl rfl rfl rfl ?_
  refine nx_getI rfl rfl rfl (by decide) ?_
  refine nx_int (x := 2) rfl rfl ?_
  refine nx_icmp rfl rfl (by rfl) H (fun H => ?_) (fun H => ?_)
  · refine nx_int (x := 0) rfl rfl ?_
    exact nx_rzl rfl rfl (by decide) H
  refine nx_ld rfl rfl rfl rfl ?_
  refine nx_int (x := 1) rfl rfl ?_
  refine nx_icmp rfl rfl (by rfl) H (fun H => ?_) (fun H => ?_)
  · exact TB_X12_isLentElsewhere_38 hW    _ _ _ _ H
  refine nx_ld rfl rfl rfl rfl ?_
  refine nx_getR rfl rfl rfl (by decide) rfl H (fun o24 H => ?_)
  refine nx_ld rfl rfl rfl rfl ?_
  refine nx_aeq (c := 1) (o1 := o24) (o2 := o2) rfl rfl (by decide) H (fun H => ?_) (fun H => ?_)
  · refine nx_int (x := 0) rfl rfl ?_
    exact nx_rzl rfl rfl (by decide) H
  exact TB_X12_isLentElsewhere_38 hW    _ _ _ _ H
def B_X12_ruleInForce_58 (k8 : TS → Int32 → Int32 → Int32 → Int32 → Option Int32) (t : TS) (v1 : Int32) (v2 : Int32) (v3 : Int32) (v4 : Int32) : Option Int32 := (k8 t v1 v2 v3 (v4 + (-1)))
theorem TB_X12_ruleInForce_58 {W : NW} {d : Nat} {Q : Option NV → TS → Prop} {a0 : Nat → Nat → Nat} {e0 : Nat → Nat → Bool} {t : TS} {k8 : TS → Int32 → Int32 → Int32 → Int32 → Option Int32} {bc bs : Nat} (hW : W.2.2.2 = mm_fx) (hk8 : ∀ (v1 : Int32) (v2 : Int32) (v3 : Int32) (v4 : Int32), wp (k8 t v1 v2 v3 v4) (fun r => Q (some (eI r)) t) → nX W d tX12_ruleInForce Q a0 e0 8 [some (eR (some (12, 0))), some (eI v1), some (eI v2), some (eI v3), some (eI v4)] [] t bc bs) : ∀ (v1 : Int32) (v2 : Int32) (v3 : Int32) (v4 : Int32), wp (B_X12_ruleInForce_58 k8 t v1 v2 v3 v4) (fun r => Q (some (eI r)) t) → nX W d tX12_ruleInForce Q a0 e0 58 [some (eR (some (12, 0))), some (eI v1), some (eI v2), some (eI v3), some (eI v4)] [] t bc bs := by
  intro v1 v2 v3 v4 H
  unfold B_X12_ruleInForce_58 at H
  refine nx_iinc2 (-1) (ls' := [some (eR (some (12, 0))), some (eI v1), some (eI v2), some (eI v3), some (eI (v4 + (-1)))]) rfl rfl rfl rfl rfl ?_
  refine nx_goto rfl rfl ?_
  exact hk8 _ _ _ _ H
def BB_X12_ruleInForce_8 (k8 : TS → Int32 → Int32 → Int32 → Int32 → Option Int32) (t : TS) (v1 : Int32) (v2 : Int32) (v3 : Int32) (v4 : Int32) : Option Int32 := (if v4 < 0 then (some ((-2))) else (gd v4 (tL t 3211 0) (nxt (tQ t 3211 0 v4.toNatClampNeg) (fun o21 => (oc o21 none (fun j22 => (if ¬ (tI t 900 j22) = v1 then (B_X12_ruleInForce_58 k8 t v1 v2 v3 v4) else (gd v4 (tL t 3211 0) (nxt (tQ t 3211 0 v4.toNatClampNeg) (fun o23 => (oc o23 none (fun j24 => (if v3 < (tI t 901 j24) then (B_X12_ruleInForce_58 k8 t v1 v2 v3 v4) else (gd v4 (tL t 3211 0) (nxt (tQ t 3211 0 v4.toNatClampNeg) (fun o25 => (oc o25 none (fun j26 => (if v2 < (tI t 902 j26) then (B_X12_ruleInForce_58 k8 t v1 v2 v3 v4) else (some (v4)))))))))))))))))))))
theorem TBB_X12_ruleInForce_8 {W : NW} {d : Nat} {Q : Option NV → TS → Prop} {a0 : Nat → Nat → Nat} {e0 : Nat → Nat → Bool} {t : TS} {k8 : TS → Int32 → Int32 → Int32 → Int32 → Option Int32} {bc bs : Nat} (hW : W.2.2.2 = mm_fx) (hk8 : ∀ (v1 : Int32) (v2 : Int32) (v3 : Int32) (v4 : Int32), wp (k8 t v1 v2 v3 v4) (fun r => Q (some (eI r)) t) → nX W d tX12_ruleInForce Q a0 e0 8 [some (eR (some (12, 0))), some (eI v1), some (eI v2), some (eI v3), some (eI v4)] [] t bc bs) : ∀ (v1 : Int32) (v2 : Int32) (v3 : Int32) (v4 : Int32), wp (BB_X12_ruleInForce_8 k8 t v1 v2 v3 v4) (fun r => Q (some (eI r)) t) → nX W d tX12_ruleInForce Q a0 e0 8 [some (eR (some (12, 0))), some (eI v1), some (eI v2), some (eI v3), some (eI v4)] [] t bc bs := by
  intro v1 v2 v3 v4 H
  unfold BB_X12_ruleInForce_8 at H
  refine nx_ld rfl rfl rfl rfl ?_
  refine nx_if rfl rfl (by rfl) H (fun H => ?_) (fun H => ?_)
  · refine nx_int (x := (-2)) rfl rfl ?_
    exact nx_ri rfl rfl H
  refine nx_ld rfl rfl rfl rfl ?_
  refine nx_getFix rfl rfl rfl (by decide) (by rw [hW]; rfl) rfl ?_
  refine nx_ld rfl rfl rfl rfl ?_
  refine nx_aald (c := 3211) (i := 0) rfl rfl (Nat.le_of_ble_eq_true rfl) (Nat.le_of_ble_eq_true rfl) (Nat.le_of_ble_eq_true rfl) rfl H (fun o21 H => ?_)
  rcases o21 with _ | j22
  · exact (wp_none (oc_no H)).elim
  replace H := oc_so H
  refine nx_getI rfl rfl rfl (by decide) ?_
  refine nx_ld rfl rfl rfl rfl ?_
  refine nx_icmp rfl rfl (by rfl) H (fun H => ?_) (fun H => ?_)
  · exact TB_X12_ruleInForce_58 hW   hk8 _ _ _ _ H
  refine nx_ld rfl rfl rfl rfl ?_
  refine nx_getFix rfl rfl rfl (by decide) (by rw [hW]; rfl) rfl ?_
  refine nx_ld rfl rfl rfl rfl ?_
  refine nx_aald (c := 3211) (i := 0) rfl rfl (Nat.le_of_ble_eq_true rfl) (Nat.le_of_ble_eq_true rfl) (Nat.le_of_ble_eq_true rfl) rfl H (fun o23 H => ?_)
  rcases o23 with _ | j24
  · exact (wp_none (oc_no H)).elim
  replace H := oc_so H
  refine nx_getI rfl rfl rfl (by decide) ?_
  refine nx_ld rfl rfl rfl rfl ?_
  refine nx_icmp rfl rfl (by rfl) H (fun H => ?_) (fun H => ?_)
  · exact TB_X12_ruleInForce_58 hW   hk8 _ _ _ _ H
  refine nx_ld rfl rfl rfl rfl ?_
  refine nx_getFix rfl rfl rfl (by decide) (by rw [hW]; rfl) rfl ?_
  refine nx_ld rfl rfl rfl rfl ?_
  refine nx_aald (c := 3211) (i := 0) rfl rfl (Nat.le_of_ble_eq_true rfl) (Nat.le_of_ble_eq_true rfl) (Nat.le_of_ble_eq_true rfl) rfl H (fun o25 H => ?_)
  rcases o25 with _ | j26
  · exact (wp_none (oc_no H)).elim
  replace H := oc_so H
  refine nx_getI rfl rfl rfl (by decide) ?_
  refine nx_ld rfl rfl rfl rfl ?_
  refine nx_icmp rfl rfl (by rfl) H (fun H => ?_) (fun H => ?_)
  · exact TB_X12_ruleInForce_58 hW   hk8 _ _ _ _ H
  refine nx_ld rfl rfl rfl rfl ?_
  exact nx_ri rfl rfl H
def B_X12_ruleInForce_8 : Nat → TS → Int32 → Int32 → Int32 → Int32 → Option Int32
  | 0 => fun _ _ _ _ _ => none
  | n + 1 => fun t v1 v2 v3 v4 => BB_X12_ruleInForce_8 (B_X12_ruleInForce_8 n) t v1 v2 v3 v4
theorem TB_X12_ruleInForce_8 {W : NW} {d : Nat} {Q : Option NV → TS → Prop} {a0 : Nat → Nat → Nat} {e0 : Nat → Nat → Bool} {t : TS} {bc bs : Nat} (hW : W.2.2.2 = mm_fx) : ∀ (n : Nat) (v1 : Int32) (v2 : Int32) (v3 : Int32) (v4 : Int32), wp (B_X12_ruleInForce_8 n t v1 v2 v3 v4) (fun r => Q (some (eI r)) t) → nX W d tX12_ruleInForce Q a0 e0 8 [some (eR (some (12, 0))), some (eI v1), some (eI v2), some (eI v3), some (eI v4)] [] t bc bs := by
  intro n
  induction n with
  | zero => intro v1 v2 v3 v4 H; exact (wp_none H).elim
  | succ n ih =>
    intro v1 v2 v3 v4 H
    exact TBB_X12_ruleInForce_8 hW    ih v1 v2 v3 v4 H
def F_X12_ruleInForce (t : TS) (x1 : Int32) (x2 : Int32) (x3 : Int32) : Option Int32 := (B_X12_ruleInForce_8  10000 t x1 x2 x3 ((tI t 1212 0) - 1))
theorem TF_X12_ruleInForce {W : NW} {d : Nat} {t : TS} {x1 : Int32} {x2 : Int32} {x3 : Int32} {Q : Option NV → TS → Prop} {bc bs : Nat} (hW : W.2.2.2 = mm_fx) (H : wp (F_X12_ruleInForce t x1 x2 x3) (fun r => Q (some (eI r)) t)) : nC W (d + 1) 144 [eR (some (12, 0)), eI x1, eI x2, eI x3] t bc bs Q := by
  refine nC_in (d := d) (T := tX12_ruleInForce) (ls := [some (eR (some (12, 0))), some (eI x1), some (eI x2), some (eI x3), none]) rfl (Nat.le_of_ble_eq_true rfl) rfl (fun a0 e0 => ?_)
  unfold F_X12_ruleInForce at H
  refine nx_ld rfl rfl rfl rfl ?_
  refine nx_getI rfl rfl rfl (by decide) ?_
  refine nx_int (x := 1) rfl rfl ?_
  refine nx_ii rfl rfl ?_
  refine nx_st (ls' := [some (eR (some (12, 0))), some (eI x1), some (eI x2), some (eI x3), some (eI ((tI t 1212 0) - 1))]) rfl rfl rfl (Nat.le_of_ble_eq_true rfl) rfl ?_
  exact TB_X12_ruleInForce_8 hW    10000 _ _ _ _ H
def F_X12_ruleToday (t : TS) (x1 : Int32) (o2 : Option Nat) : Option (Option Nat) := (oc o2 none (fun j21 => (Option.bind (F_X12_ruleInForce t ((10 * (tI t 102 j21)) + x1) (tI t 1200 0) (tI t 1200 0)) (fun r22 => (if 0 ≤ r22 then (gd r22 (tL t 3211 0) (nxt (tQ t 3211 0 r22.toNatClampNeg) (fun o23 => (some o23)))) else (some none))))))
theorem TF_X12_ruleToday {W : NW} {d : Nat} {t : TS} {x1 : Int32} {o2 : Option Nat} {Q : Option NV → TS → Prop} {bc bs : Nat} (hW : W.2.2.2 = mm_fx) (H : wp (F_X12_ruleToday t x1 o2) (fun r => Q (some (eO 9 r)) t)) : nC W (d + 2) 145 [eR (some (12, 0)), eI x1, eO 1 o2] t bc bs Q := by
  refine nC_in (d := (d + 1)) (T := tX12_ruleToday) (ls := [some (eR (some (12, 0))), some (eI x1), some (eO 1 o2), none]) rfl (Nat.le_of_ble_eq_true rfl) rfl (fun a0 e0 => ?_)
  unfold F_X12_ruleToday at H
  refine nx_ld rfl rfl rfl rfl ?_
  refine nx_int (x := 10) rfl rfl ?_
  refine nx_ld rfl rfl rfl rfl ?_
  rcases o2 with _ | j21
  · exact (wp_none (oc_no H)).elim
  replace H := oc_so H
  refine nx_getI rfl rfl rfl (by decide) ?_
  refine nx_ii rfl rfl ?_
  refine nx_ld rfl rfl rfl rfl ?_
  refine nx_ii rfl rfl ?_
  show nX _ _ _ _ _ _ 10 _ _ _ _ _
  refine nx_ld rfl rfl rfl rfl ?_
  refine nx_getI rfl rfl rfl (by decide) ?_
  refine nx_ld rfl rfl rfl rfl ?_
  refine nx_getI rfl rfl rfl (by decide) ?_
  refine nx_cVI (as := [eI ((10 * (tI t 102 j21)) + x1), eI (tI t 1200 0), eI (tI t 1200 0)]) (st' := []) rfl rfl (Nat.le_of_ble_eq_true rfl) rfl rfl (Nat.le_of_ble_eq_true rfl) (c0 := 12) rfl (by decide) H (fun Q H => TF_X12_ruleInForce hW  H) (fun r22 H => ?_)
  refine nx_st (ls' := [some (eR (some (12, 0))), some (eI x1), some (eR (some (1, j21))), some (eI r22)]) rfl rfl rfl (Nat.le_of_ble_eq_true rfl) rfl ?_
  refine nx_ld rfl rfl rfl rfl ?_
  refine nx_if rfl rfl (by rfl) H (fun H => ?_) (fun H => ?_)
  · refine nx_ld rfl rfl rfl rfl ?_
    refine nx_getFix rfl rfl rfl (by decide) (by rw [hW]; rfl) rfl ?_
    refine nx_ld rfl rfl rfl rfl ?_
    refine nx_aald (c := 3211) (i := 0) rfl rfl (Nat.le_of_ble_eq_true rfl) (Nat.le_of_ble_eq_true rfl) (Nat.le_of_ble_eq_true rfl) rfl H (fun o23 H => ?_)
    exact nx_ro 9 o23 rfl rfl H
  refine nx_nul 9 rfl rfl ?_
  refine nx_goto rfl rfl ?_
  exact nx_ro 9 none rfl rfl H
def B_X12_countHeld_138 (k6 : TS → (Option Nat) → (Option Nat) → Int32 → Int32 → Int32 → Option (Int32 × TS)) (t : TS) (v1 : Option Nat) (v2 : Option Nat) (v3 : Int32) (v4 : Int32) (v5 : Int32) : Option (Int32 × TS) := (k6 t v1 v2 v3 v4 (v5 + 1))
theorem TB_X12_countHeld_138 {W : NW} {d : Nat} {Q : Option NV → TS → Prop} {a0 : Nat → Nat → Nat} {e0 : Nat → Nat → Bool} {k6 : TS → (Option Nat) → (Option Nat) → Int32 → Int32 → Int32 → Option (Int32 × TS)} {bc bs : Nat} (hW : W.2.2.2 = mm_fx) (hk6 : ∀ (t : TS) (v1 : Option Nat) (v2 : Option Nat) (v3 : Int32) (v4 : Int32) (v5 : Int32) (v6 : Option NV) (v7 : Option NV), wp (k6 t v1 v2 v3 v4 v5) (fun r => Q (some (eI r.1)) r.2) → nX W (d + 2) tX12_countHeld Q a0 e0 6 [some (eR (some (12, 0))), some (eO 1 v1), some (eO 1 v2), some (eI v3), some (eI v4), some (eI v5), v6, v7] [] t bc bs) : ∀ (t : TS) (v1 : Option Nat) (v2 : Option Nat) (v3 : Int32) (v4 : Int32) (v5 : Int32) (v6 : Nat) (v7 : Option NV), wp (B_X12_countHeld_138 k6 t v1 v2 v3 v4 v5) (fun r => Q (some (eI r.1)) r.2) → nX W (d + 2) tX12_countHeld Q a0 e0 138 [some (eR (some (12, 0))), some (eO 1 v1), some (eO 1 v2), some (eI v3), some (eI v4), some (eI v5), some (eR (some (1, v6))), v7] [] t bc bs := by
  intro t v1 v2 v3 v4 v5 v6 v7 H
  unfold B_X12_countHeld_138 at H
  refine nx_iinc2 1 (ls' := [some (eR (some (12, 0))), some (eO 1 v1), some (eO 1 v2), some (eI v3), some (eI v4), some (eI (v5 + 1)), some (eR (some (1, v6))), v7]) rfl rfl rfl rfl rfl ?_
  refine nx_goto rfl rfl ?_
  exact hk6 _ _ _ _ _ _ _ _ H
def B_X12_countHeld_132 (k6 : TS → (Option Nat) → (Option Nat) → Int32 → Int32 → Int32 → Option (Int32 × TS)) (t : TS) (v1 : Option Nat) (v2 : Option Nat) (v3 : Int32) (v5 : Int32) (s0 : Int32) (s1 : Int32) : Option (Int32 × TS) := (Option.bind (F_X12_bit t s0) (fun r21 => (B_X12_countHeld_138 k6 t v1 v2 v3 (s1 + r21) v5)))
theorem TB_X12_countHeld_132 {W : NW} {d : Nat} {Q : Option NV → TS → Prop} {a0 : Nat → Nat → Nat} {e0 : Nat → Nat → Bool} {k6 : TS → (Option Nat) → (Option Nat) → Int32 → Int32 → Int32 → Option (Int32 × TS)} {bc bs : Nat} (hW : W.2.2.2 = mm_fx) (hk6 : ∀ (t : TS) (v1 : Option Nat) (v2 : Option Nat) (v3 : Int32) (v4 : Int32) (v5 : Int32) (v6 : Option NV) (v7 : Option NV), wp (k6 t v1 v2 v3 v4 v5) (fun r => Q (some (eI r.1)) r.2) → nX W (d + 2) tX12_countHeld Q a0 e0 6 [some (eR (some (12, 0))), some (eO 1 v1), some (eO 1 v2), some (eI v3), some (eI v4), some (eI v5), v6, v7] [] t bc bs) : ∀ (t : TS) (v1 : Option Nat) (v2 : Option Nat) (v3 : Int32) (v4 : Int32) (v5 : Int32) (v6 : Nat) (v7 : Option Nat) (s0 : Int32) (s1 : Int32), wp (B_X12_countHeld_132 k6 t v1 v2 v3 v5 s0 s1) (fun r => Q (some (eI r.1)) r.2) → nX W (d + 2) tX12_countHeld Q a0 e0 132 [some (eR (some (12, 0))), some (eO 1 v1), some (eO 1 v2), some (eI v3), some (eI v4), some (eI v5), some (eR (some (1, v6))), some (eO 11 v7)] [eI s0, eI s1] t bc bs := by
  intro t v1 v2 v3 v4 v5 v6 v7 s0 s1 H
  unfold B_X12_countHeld_132 at H
  refine nx_cSI (as := [eI s0]) (st' := [eI s1]) rfl rfl (Nat.le_of_ble_eq_true rfl) rfl rfl (Nat.le_of_ble_eq_true rfl) H (fun Q H => TF_X12_bit hW  H) (fun r21 H => ?_)
  refine nx_ii rfl rfl ?_
  refine nx_st (ls' := [some (eR (some (12, 0))), some (eO 1 v1), some (eO 1 v2), some (eI v3), some (eI (s1 + r21)), some (eI v5), some (eR (some (1, v6))), some (eO 11 v7)]) rfl rfl rfl (Nat.le_of_ble_eq_true rfl) rfl ?_
  exact TB_X12_countHeld_138 hW   hk6 _ _ _ _ _ _ _ _ H
def B_X12_countHeld_127 (k6 : TS → (Option Nat) → (Option Nat) → Int32 → Int32 → Int32 → Option (Int32 × TS)) (t : TS) (v1 : Option Nat) (v2 : Option Nat) (v3 : Int32) (v5 : Int32) (s0 : Int32) : Option (Int32 × TS) := (B_X12_countHeld_132 k6 t v1 v2 v3 v5 1 s0)
theorem TB_X12_countHeld_127 {W : NW} {d : Nat} {Q : Option NV → TS → Prop} {a0 : Nat → Nat → Nat} {e0 : Nat → Nat → Bool} {k6 : TS → (Option Nat) → (Option Nat) → Int32 → Int32 → Int32 → Option (Int32 × TS)} {bc bs : Nat} (hW : W.2.2.2 = mm_fx) (hk6 : ∀ (t : TS) (v1 : Option Nat) (v2 : Option Nat) (v3 : Int32) (v4 : Int32) (v5 : Int32) (v6 : Option NV) (v7 : Option NV), wp (k6 t v1 v2 v3 v4 v5) (fun r => Q (some (eI r.1)) r.2) → nX W (d + 2) tX12_countHeld Q a0 e0 6 [some (eR (some (12, 0))), some (eO 1 v1), some (eO 1 v2), some (eI v3), some (eI v4), some (eI v5), v6, v7] [] t bc bs) : ∀ (t : TS) (v1 : Option Nat) (v2 : Option Nat) (v3 : Int32) (v4 : Int32) (v5 : Int32) (v6 : Nat) (v7 : Option Nat) (s0 : Int32), wp (B_X12_countHeld_127 k6 t v1 v2 v3 v5 s0) (fun r => Q (some (eI r.1)) r.2) → nX W (d + 2) tX12_countHeld Q a0 e0 127 [some (eR (some (12, 0))), some (eO 1 v1), some (eO 1 v2), some (eI v3), some (eI v4), some (eI v5), some (eR (some (1, v6))), some (eO 11 v7)] [eI s0] t bc bs := by
  intro t v1 v2 v3 v4 v5 v6 v7 s0 H
  unfold B_X12_countHeld_127 at H
  refine nx_int (x := 1) rfl rfl ?_
  refine nx_goto rfl rfl ?_
  exact TB_X12_countHeld_132 hW   hk6 _ _ _ _ _ _ _ _ _ _ H
def B_X12_countHeld_102 (k6 : TS → (Option Nat) → (Option Nat) → Int32 → Int32 → Int32 → Option (Int32 × TS)) (t : TS) (v1 : Nat) (v2 : Option Nat) (v3 : Int32) (v5 : Int32) (s0 : Int32) (s1 : Int32) : Option (Int32 × TS) := (Option.bind (F_X12_bit t s0) (fun r21 => (B_X12_countHeld_138 k6 t (some v1) v2 v3 (s1 + r21) v5)))
theorem TB_X12_countHeld_102 {W : NW} {d : Nat} {Q : Option NV → TS → Prop} {a0 : Nat → Nat → Nat} {e0 : Nat → Nat → Bool} {k6 : TS → (Option Nat) → (Option Nat) → Int32 → Int32 → Int32 → Option (Int32 × TS)} {bc bs : Nat} (hW : W.2.2.2 = mm_fx) (hk6 : ∀ (t : TS) (v1 : Option Nat) (v2 : Option Nat) (v3 : Int32) (v4 : Int32) (v5 : Int32) (v6 : Option NV) (v7 : Option NV), wp (k6 t v1 v2 v3 v4 v5) (fun r => Q (some (eI r.1)) r.2) → nX W (d + 2) tX12_countHeld Q a0 e0 6 [some (eR (some (12, 0))), some (eO 1 v1), some (eO 1 v2), some (eI v3), some (eI v4), some (eI v5), v6, v7] [] t bc bs) : ∀ (t : TS) (v1 : Nat) (v2 : Option Nat) (v3 : Int32) (v4 : Int32) (v5 : Int32) (v6 : Nat) (v7 : Option Nat) (s0 : Int32) (s1 : Int32), wp (B_X12_countHeld_102 k6 t v1 v2 v3 v5 s0 s1) (fun r => Q (some (eI r.1)) r.2) → nX W (d + 2) tX12_countHeld Q a0 e0 102 [some (eR (some (12, 0))), some (eR (some (1, v1))), some (eO 1 v2), some (eI v3), some (eI v4), some (eI v5), some (eR (some (1, v6))), some (eO 11 v7)] [eI s0, eI s1] t bc bs := by
  intro t v1 v2 v3 v4 v5 v6 v7 s0 s1 H
  unfold B_X12_countHeld_102 at H
  refine nx_cSI (as := [eI s0]) (st' := [eI s1]) rfl rfl (Nat.le_of_ble_eq_true rfl) rfl rfl (Nat.le_of_ble_eq_true rfl) H (fun Q H => TF_X12_bit hW  H) (fun r21 H => ?_)
  refine nx_ii rfl rfl ?_
  refine nx_st (ls' := [some (eR (some (12, 0))), some (eR (some (1, v1))), some (eO 1 v2), some (eI v3), some (eI (s1 + r21)), some (eI v5), some (eR (some (1, v6))), some (eO 11 v7)]) rfl rfl rfl (Nat.le_of_ble_eq_true rfl) rfl ?_
  refine nx_goto rfl rfl ?_
  exact TB_X12_countHeld_138 hW   hk6 _ ((some v1)) _ _ _ _ _ _ H
def B_X12_countHeld_69 (k6 : TS → (Option Nat) → (Option Nat) → Int32 → Int32 → Int32 → Option (Int32 × TS)) (t : TS) (v1 : Option Nat) (v2 : Option Nat) (v3 : Int32) (v4 : Int32) (v5 : Int32) (v6 : Nat) : Option (Int32 × TS) := (if ¬ v3 = 2 then (if v3 = 3 then (B_X12_countHeld_127 k6 t v1 v2 v3 v5 v4) else (if ¬ (tI t 101 v6) = 4 then (B_X12_countHeld_132 k6 t v1 v2 v3 v5 0 v4) else (B_X12_countHeld_127 k6 t v1 v2 v3 v5 v4))) else (Option.bind (F_X12_countTeaching t (some v6)) (fun r21 => (oc v1 none (fun j22 => (gd (tI r21 102 j22) (tL r21 3210 0) (if (tA r21 3210 0 (tI r21 102 j22).toNatClampNeg) < 900 then (B_X12_countHeld_102 k6 r21 j22 v2 v3 v5 0 v4) else (B_X12_countHeld_102 k6 r21 j22 v2 v3 v5 1 v4))))))))
theorem TB_X12_countHeld_69 {W : NW} {d : Nat} {Q : Option NV → TS → Prop} {a0 : Nat → Nat → Nat} {e0 : Nat → Nat → Bool} {k6 : TS → (Option Nat) → (Option Nat) → Int32 → Int32 → Int32 → Option (Int32 × TS)} {bc bs : Nat} (hW : W.2.2.2 = mm_fx) (hk6 : ∀ (t : TS) (v1 : Option Nat) (v2 : Option Nat) (v3 : Int32) (v4 : Int32) (v5 : Int32) (v6 : Option NV) (v7 : Option NV), wp (k6 t v1 v2 v3 v4 v5) (fun r => Q (some (eI r.1)) r.2) → nX W (d + 2) tX12_countHeld Q a0 e0 6 [some (eR (some (12, 0))), some (eO 1 v1), some (eO 1 v2), some (eI v3), some (eI v4), some (eI v5), v6, v7] [] t bc bs) : ∀ (t : TS) (v1 : Option Nat) (v2 : Option Nat) (v3 : Int32) (v4 : Int32) (v5 : Int32) (v6 : Nat) (v7 : Option Nat), wp (B_X12_countHeld_69 k6 t v1 v2 v3 v4 v5 v6) (fun r => Q (some (eI r.1)) r.2) → nX W (d + 2) tX12_countHeld Q a0 e0 69 [some (eR (some (12, 0))), some (eO 1 v1), some (eO 1 v2), some (eI v3), some (eI v4), some (eI v5), some (eR (some (1, v6))), some (eO 11 v7)] [] t bc bs := by
  intro t v1 v2 v3 v4 v5 v6 v7 H
  unfold B_X12_countHeld_69 at H
  refine nx_ld rfl rfl rfl rfl ?_
  refine nx_int (x := 2) rfl rfl ?_
  refine nx_icmp rfl rfl (by rfl) H (fun H => ?_) (fun H => ?_)
  · refine nx_ld rfl rfl rfl rfl ?_
    refine nx_ld rfl rfl rfl rfl ?_
    refine nx_int (x := 3) rfl rfl ?_
    refine nx_icmp rfl rfl (by rfl) H (fun H => ?_) (fun H => ?_)
    · exact TB_X12_countHeld_127 hW   hk6 _ _ _ _ _ _ _ _ _ H
    refine nx_ld rfl rfl rfl rfl ?_
    refine nx_getI rfl rfl rfl (by decide) ?_
    refine nx_int (x := 4) rfl rfl ?_
    refine nx_icmp rfl rfl (by rfl) H (fun H => ?_) (fun H => ?_)
    · refine nx_int (x := 0) rfl rfl ?_
      exact TB_X12_countHeld_132 hW   hk6 _ _ _ _ _ _ _ _ _ _ H
    exact TB_X12_countHeld_127 hW   hk6 _ _ _ _ _ _ _ _ _ H
  refine nx_ld rfl rfl rfl rfl ?_
  refine nx_ld rfl rfl rfl rfl ?_
  refine nx_cVVt (as := [eO 1 (some v6)]) (st' := []) rfl rfl (Nat.le_of_ble_eq_true rfl) rfl rfl (Nat.le_of_ble_eq_true rfl) (c0 := 12) rfl (by decide) H (fun Q H => TF_X12_countTeaching hW  H) (fun r21 H => ?_)
  refine nx_ld rfl rfl rfl rfl ?_
  refine nx_ld rfl rfl rfl rfl ?_
  refine nx_getFix rfl rfl rfl (by decide) (by rw [hW]; rfl) rfl ?_
  refine nx_ld rfl rfl rfl rfl ?_
  show nX _ _ _ _ _ _ 87 _ _ _ _ _
  rcases v1 with _ | j22
  · exact (wp_none (oc_no H)).elim
  replace H := oc_so H
  refine nx_getI rfl rfl rfl (by decide) ?_
  refine nx_iald (p := (3210, 0)) rfl rfl (Nat.le_of_ble_eq_true rfl) (Nat.le_of_ble_eq_true rfl) rfl H (fun H => ?_)
  refine nx_int (x := 900) rfl rfl ?_
  refine nx_icmp rfl rfl (by rfl) H (fun H => ?_) (fun H => ?_)
  · refine nx_int (x := 0) rfl rfl ?_
    exact TB_X12_countHeld_102 hW   hk6 _ _ _ _ _ _ _ _ _ _ H
  refine nx_int (x := 1) rfl rfl ?_
  refine nx_goto rfl rfl ?_
  exact TB_X12_countHeld_102 hW   hk6 _ _ _ _ _ _ _ _ _ _ H
def BB_X12_countHeld_6 (k6 : TS → (Option Nat) → (Option Nat) → Int32 → Int32 → Int32 → Option (Int32 × TS)) (t : TS) (v1 : Option Nat) (v2 : Option Nat) (v3 : Int32) (v4 : Int32) (v5 : Int32) : Option (Int32 × TS) := (if (tI t 1204 0) ≤ v5 then (some (v4, t)) else (gd v5 (tL t 3203 0) (nxt (tQ t 3203 0 v5.toNatClampNeg) (fun o21 => (oc o21 none (fun j22 => (Option.bind (F_X1_isPlayer t j22) (fun r23 => (if ¬ r23 = 0 then (Option.bind (F_X1_holding t j22 (tI t 1200 0)) (fun r24 => (if ((some j22) : Option Nat) = v2 then (B_X12_countHeld_69 k6 t v1 v2 v3 v4 v5 j22) else (oc r24 (B_X12_countHeld_138 k6 t v1 v2 v3 v4 v5) (fun j25 => (nxt (tR t 1101 j25) (fun o26 => (if (o26 : Option Nat) = v1 then (B_X12_countHeld_69 k6 t v1 v2 v3 v4 v5 j22) else (B_X12_countHeld_138 k6 t v1 v2 v3 v4 v5))))))))) else (B_X12_countHeld_138 k6 t v1 v2 v3 v4 v5))))))))))
theorem TBB_X12_countHeld_6 {W : NW} {d : Nat} {Q : Option NV → TS → Prop} {a0 : Nat → Nat → Nat} {e0 : Nat → Nat → Bool} {k6 : TS → (Option Nat) → (Option Nat) → Int32 → Int32 → Int32 → Option (Int32 × TS)} {bc bs : Nat} (hW : W.2.2.2 = mm_fx) (hk6 : ∀ (t : TS) (v1 : Option Nat) (v2 : Option Nat) (v3 : Int32) (v4 : Int32) (v5 : Int32) (v6 : Option NV) (v7 : Option NV), wp (k6 t v1 v2 v3 v4 v5) (fun r => Q (some (eI r.1)) r.2) → nX W (d + 2) tX12_countHeld Q a0 e0 6 [some (eR (some (12, 0))), some (eO 1 v1), some (eO 1 v2), some (eI v3), some (eI v4), some (eI v5), v6, v7] [] t bc bs) : ∀ (t : TS) (v1 : Option Nat) (v2 : Option Nat) (v3 : Int32) (v4 : Int32) (v5 : Int32) (v6 : Option NV) (v7 : Option NV), wp (BB_X12_countHeld_6 k6 t v1 v2 v3 v4 v5) (fun r => Q (some (eI r.1)) r.2) → nX W (d + 2) tX12_countHeld Q a0 e0 6 [some (eR (some (12, 0))), some (eO 1 v1), some (eO 1 v2), some (eI v3), some (eI v4), some (eI v5), v6, v7] [] t bc bs := by
  intro t v1 v2 v3 v4 v5 v6 v7 H
  unfold BB_X12_countHeld_6 at H
  refine nx_ld rfl rfl rfl rfl ?_
  refine nx_ld rfl rfl rfl rfl ?_
  refine nx_getI rfl rfl rfl (by decide) ?_
  refine nx_icmp rfl rfl (by rfl) H (fun H => ?_) (fun H => ?_)
  · refine nx_ld rfl rfl rfl rfl ?_
    exact nx_rit rfl rfl H
  refine nx_ld rfl rfl rfl rfl ?_
  refine nx_getFix rfl rfl rfl (by decide) (by rw [hW]; rfl) rfl ?_
  refine nx_ld rfl rfl rfl rfl ?_
  refine nx_aald (c := 3203) (i := 0) rfl rfl (Nat.le_of_ble_eq_true rfl) (Nat.le_of_ble_eq_true rfl) (Nat.le_of_ble_eq_true rfl) rfl H (fun o21 H => ?_)
  refine nx_st (ls' := [some (eR (some (12, 0))), some (eO 1 v1), some (eO 1 v2), some (eI v3), some (eI v4), some (eI v5), some (eO 1 o21), v7]) rfl rfl rfl (Nat.le_of_ble_eq_true rfl) rfl ?_
  refine nx_ld rfl rfl rfl rfl ?_
  rcases o21 with _ | j22
  · exact (wp_none (oc_no H)).elim
  replace H := oc_so H
  refine nx_cVI (as := []) (st' := []) rfl rfl (Nat.le_of_ble_eq_true rfl) rfl rfl (Nat.le_of_ble_eq_true rfl) (c0 := 1) rfl (by decide) H (fun Q H => TF_X1_isPlayer hW  H) (fun r23 H => ?_)
  show nX _ _ _ _ _ _ 29 _ _ _ _ _
  refine nx_if rfl rfl (by rfl) H (fun H => ?_) (fun H => ?_)
  · refine nx_ld rfl rfl rfl rfl ?_
    refine nx_ld rfl rfl rfl rfl ?_
    refine nx_getI rfl rfl rfl (by decide) ?_
    refine nx_cVO 11 (as := [eI (tI t 1200 0)]) (st' := []) rfl rfl (Nat.le_of_ble_eq_true rfl) rfl rfl (Nat.le_of_ble_eq_true rfl) (c0 := 1) rfl (by decide) H (fun Q H => TF_X1_holding hW  H) (fun r24 H => ?_)
    refine nx_st (ls' := [some (eR (some (12, 0))), some (eO 1 v1), some (eO 1 v2), some (eI v3), some (eI v4), some (eI v5), some (eR (some (1, j22))), some (eO 11 r24)]) rfl rfl rfl (Nat.le_of_ble_eq_true rfl) rfl ?_
    refine nx_ld rfl rfl rfl rfl ?_
    refine nx_ld rfl rfl rfl rfl ?_
    show nX _ _ _ _ _ _ 49 _ _ _ _ _
    refine nx_aeq (c := 1) (o1 := (some j22)) (o2 := v2) rfl rfl (by decide) H (fun H => ?_) (fun H => ?_)
    · exact TB_X12_countHeld_69 hW   hk6 _ _ _ _ _ _ _ _ H
    refine nx_ld rfl rfl rfl rfl ?_
    rcases r24 with _ | j25
    · replace H := oc_no H
      refine nx_null0 (c := 11) rfl rfl ?_
      exact TB_X12_countHeld_138 hW   hk6 _ _ _ _ _ _ _ _ H
    replace H := oc_so H
    refine nx_null1 rfl rfl ?_
    refine nx_ld rfl rfl rfl rfl ?_
    refine nx_getR rfl rfl rfl (by decide) rfl H (fun o26 H => ?_)
    refine nx_ld rfl rfl rfl rfl ?_
    refine nx_aeq (c := 1) (o1 := o26) (o2 := v1) rfl rfl (by decide) H (fun H => ?_) (fun H => ?_)
    · exact TB_X12_countHeld_69 hW   hk6 _ _ _ _ _ _ _ ((some j25)) H
    refine nx_goto rfl rfl ?_
    exact TB_X12_countHeld_138 hW   hk6 _ _ _ _ _ _ _ _ H
  refine nx_goto rfl rfl ?_
  exact TB_X12_countHeld_138 hW   hk6 _ _ _ _ _ _ _ _ H
def B_X12_countHeld_6 : Nat → TS → (Option Nat) → (Option Nat) → Int32 → Int32 → Int32 → Option (Int32 × TS)
  | 0 => fun _ _ _ _ _ _ => none
  | n + 1 => fun t v1 v2 v3 v4 v5 => BB_X12_countHeld_6 (B_X12_countHeld_6 n) t v1 v2 v3 v4 v5
theorem TB_X12_countHeld_6 {W : NW} {d : Nat} {Q : Option NV → TS → Prop} {a0 : Nat → Nat → Nat} {e0 : Nat → Nat → Bool} {bc bs : Nat} (hW : W.2.2.2 = mm_fx) : ∀ (n : Nat) (t : TS) (v1 : Option Nat) (v2 : Option Nat) (v3 : Int32) (v4 : Int32) (v5 : Int32) (v6 : Option NV) (v7 : Option NV), wp (B_X12_countHeld_6 n t v1 v2 v3 v4 v5) (fun r => Q (some (eI r.1)) r.2) → nX W (d + 2) tX12_countHeld Q a0 e0 6 [some (eR (some (12, 0))), some (eO 1 v1), some (eO 1 v2), some (eI v3), some (eI v4), some (eI v5), v6, v7] [] t bc bs := by
  intro n
  induction n with
  | zero => intro t v1 v2 v3 v4 v5 v6 v7 H; exact (wp_none H).elim
  | succ n ih =>
    intro t v1 v2 v3 v4 v5 v6 v7 H
    exact TBB_X12_countHeld_6 hW    ih t v1 v2 v3 v4 v5 v6 v7 H
def F_X12_countHeld (t : TS) (o1 : Option Nat) (o2 : Option Nat) (x3 : Int32) : Option (Int32 × TS) := (B_X12_countHeld_6  10000 t o1 o2 x3 0 0)
theorem TF_X12_countHeld {W : NW} {d : Nat} {t : TS} {o1 : Option Nat} {o2 : Option Nat} {x3 : Int32} {Q : Option NV → TS → Prop} {bc bs : Nat} (hW : W.2.2.2 = mm_fx) (H : wp (F_X12_countHeld t o1 o2 x3) (fun r => Q (some (eI r.1)) r.2)) : nC W (d + 3) 149 [eR (some (12, 0)), eO 1 o1, eO 1 o2, eI x3] t bc bs Q := by
  refine nC_in (d := (d + 2)) (T := tX12_countHeld) (ls := [some (eR (some (12, 0))), some (eO 1 o1), some (eO 1 o2), some (eI x3), none, none, none, none]) rfl (Nat.le_of_ble_eq_true rfl) rfl (fun a0 e0 => ?_)
  unfold F_X12_countHeld at H
  refine nx_int (x := 0) rfl rfl ?_
  refine nx_st (ls' := [some (eR (some (12, 0))), some (eO 1 o1), some (eO 1 o2), some (eI x3), some (eI 0), none, none, none]) rfl rfl rfl (Nat.le_of_ble_eq_true rfl) rfl ?_
  refine nx_int (x := 0) rfl rfl ?_
  refine nx_st (ls' := [some (eR (some (12, 0))), some (eO 1 o1), some (eO 1 o2), some (eI x3), some (eI 0), some (eI 0), none, none]) rfl rfl rfl (Nat.le_of_ble_eq_true rfl) rfl ?_
  exact TB_X12_countHeld_6 hW    10000 _ _ _ _ _ _ _ _ H
def B_X12_wages_49 (k4 : TS → (Option Nat) → Int32 → Int32 → Option Int32) (t : TS) (v1 : Option Nat) (v2 : Int32) (v3 : Int32) : Option Int32 := (k4 t v1 v2 (v3 + 1))
theorem TB_X12_wages_49 {W : NW} {d : Nat} {Q : Option NV → TS → Prop} {a0 : Nat → Nat → Nat} {e0 : Nat → Nat → Bool} {t : TS} {k4 : TS → (Option Nat) → Int32 → Int32 → Option Int32} {bc bs : Nat} (hW : W.2.2.2 = mm_fx) (hk4 : ∀ (v1 : Option Nat) (v2 : Int32) (v3 : Int32) (v4 : Option NV), wp (k4 t v1 v2 v3) (fun r => Q (some (eI r)) t) → nX W (d + 1) tX12_wages Q a0 e0 4 [some (eR (some (12, 0))), some (eO 1 v1), some (eI v2), some (eI v3), v4] [] t bc bs) : ∀ (v1 : Option Nat) (v2 : Int32) (v3 : Int32) (v4 : Option Nat), wp (B_X12_wages_49 k4 t v1 v2 v3) (fun r => Q (some (eI r)) t) → nX W (d + 1) tX12_wages Q a0 e0 49 [some (eR (some (12, 0))), some (eO 1 v1), some (eI v2), some (eI v3), some (eO 11 v4)] [] t bc bs := by
  intro v1 v2 v3 v4 H
  unfold B_X12_wages_49 at H
  refine nx_iinc2 1 (ls' := [some (eR (some (12, 0))), some (eO 1 v1), some (eI v2), some (eI (v3 + 1)), some (eO 11 v4)]) rfl rfl rfl rfl rfl ?_
  refine nx_goto rfl rfl ?_
  exact hk4 _ _ _ _ H
def BB_X12_wages_4 (k4 : TS → (Option Nat) → Int32 → Int32 → Option Int32) (t : TS) (v1 : Option Nat) (v2 : Int32) (v3 : Int32) : Option Int32 := (if (tI t 1204 0) ≤ v3 then (some (v2)) else (gd v3 (tL t 3203 0) (nxt (tQ t 3203 0 v3.toNatClampNeg) (fun o21 => (oc o21 none (fun j22 => (Option.bind (F_X1_owning t j22 (tI t 1200 0)) (fun r23 => (oc r23 (B_X12_wages_49 k4 t v1 v2 v3) (fun j24 => (nxt (tR t 1101 j24) (fun o25 => (if (o25 : Option Nat) = v1 then (B_X12_wages_49 k4 t v1 (v2 + (tI t 1105 j24)) v3) else (B_X12_wages_49 k4 t v1 v2 v3))))))))))))))
theorem TBB_X12_wages_4 {W : NW} {d : Nat} {Q : Option NV → TS → Prop} {a0 : Nat → Nat → Nat} {e0 : Nat → Nat → Bool} {t : TS} {k4 : TS → (Option Nat) → Int32 → Int32 → Option Int32} {bc bs : Nat} (hW : W.2.2.2 = mm_fx) (hk4 : ∀ (v1 : Option Nat) (v2 : Int32) (v3 : Int32) (v4 : Option NV), wp (k4 t v1 v2 v3) (fun r => Q (some (eI r)) t) → nX W (d + 1) tX12_wages Q a0 e0 4 [some (eR (some (12, 0))), some (eO 1 v1), some (eI v2), some (eI v3), v4] [] t bc bs) : ∀ (v1 : Option Nat) (v2 : Int32) (v3 : Int32) (v4 : Option NV), wp (BB_X12_wages_4 k4 t v1 v2 v3) (fun r => Q (some (eI r)) t) → nX W (d + 1) tX12_wages Q a0 e0 4 [some (eR (some (12, 0))), some (eO 1 v1), some (eI v2), some (eI v3), v4] [] t bc bs := by
  intro v1 v2 v3 v4 H
  unfold BB_X12_wages_4 at H
  refine nx_ld rfl rfl rfl rfl ?_
  refine nx_ld rfl rfl rfl rfl ?_
  refine nx_getI rfl rfl rfl (by decide) ?_
  refine nx_icmp rfl rfl (by rfl) H (fun H => ?_) (fun H => ?_)
  · refine nx_ld rfl rfl rfl rfl ?_
    exact nx_ri rfl rfl H
  refine nx_ld rfl rfl rfl rfl ?_
  refine nx_getFix rfl rfl rfl (by decide) (by rw [hW]; rfl) rfl ?_
  refine nx_ld rfl rfl rfl rfl ?_
  refine nx_aald (c := 3203) (i := 0) rfl rfl (Nat.le_of_ble_eq_true rfl) (Nat.le_of_ble_eq_true rfl) (Nat.le_of_ble_eq_true rfl) rfl H (fun o21 H => ?_)
  refine nx_ld rfl rfl rfl rfl ?_
  refine nx_getI rfl rfl rfl (by decide) ?_
  rcases o21 with _ | j22
  · exact (wp_none (oc_no H)).elim
  replace H := oc_so H
  refine nx_cVO 11 (as := [eI (tI t 1200 0)]) (st' := []) rfl rfl (Nat.le_of_ble_eq_true rfl) rfl rfl (Nat.le_of_ble_eq_true rfl) (c0 := 1) rfl (by decide) H (fun Q H => TF_X1_owning hW  H) (fun r23 H => ?_)
  show nX _ _ _ _ _ _ 25 _ _ _ _ _
  refine nx_st (ls' := [some (eR (some (12, 0))), some (eO 1 v1), some (eI v2), some (eI v3), some (eO 11 r23)]) rfl rfl rfl (Nat.le_of_ble_eq_true rfl) rfl ?_
  refine nx_ld rfl rfl rfl rfl ?_
  rcases r23 with _ | j24
  · replace H := oc_no H
    refine nx_null0 (c := 11) rfl rfl ?_
    exact TB_X12_wages_49 hW   hk4 _ _ _ _ H
  replace H := oc_so H
  refine nx_null1 rfl rfl ?_
  refine nx_ld rfl rfl rfl rfl ?_
  refine nx_getR rfl rfl rfl (by decide) rfl H (fun o25 H => ?_)
  refine nx_ld rfl rfl rfl rfl ?_
  refine nx_ane (c := 1) (o1 := o25) (o2 := v1) rfl rfl (by decide) H (fun H => ?_) (fun H => ?_)
  · exact TB_X12_wages_49 hW   hk4 _ _ _ ((some j24)) H
  refine nx_ld rfl rfl rfl rfl ?_
  refine nx_ld rfl rfl rfl rfl ?_
  refine nx_getI rfl rfl rfl (by decide) ?_
  refine nx_ii rfl rfl ?_
  refine nx_st (ls' := [some (eR (some (12, 0))), some (eO 1 v1), some (eI (v2 + (tI t 1105 j24))), some (eI v3), some (eR (some (11, j24)))]) rfl rfl rfl (Nat.le_of_ble_eq_true rfl) rfl ?_
  exact TB_X12_wages_49 hW   hk4 _ _ _ ((some j24)) H
def B_X12_wages_4 : Nat → TS → (Option Nat) → Int32 → Int32 → Option Int32
  | 0 => fun _ _ _ _ => none
  | n + 1 => fun t v1 v2 v3 => BB_X12_wages_4 (B_X12_wages_4 n) t v1 v2 v3
theorem TB_X12_wages_4 {W : NW} {d : Nat} {Q : Option NV → TS → Prop} {a0 : Nat → Nat → Nat} {e0 : Nat → Nat → Bool} {t : TS} {bc bs : Nat} (hW : W.2.2.2 = mm_fx) : ∀ (n : Nat) (v1 : Option Nat) (v2 : Int32) (v3 : Int32) (v4 : Option NV), wp (B_X12_wages_4 n t v1 v2 v3) (fun r => Q (some (eI r)) t) → nX W (d + 1) tX12_wages Q a0 e0 4 [some (eR (some (12, 0))), some (eO 1 v1), some (eI v2), some (eI v3), v4] [] t bc bs := by
  intro n
  induction n with
  | zero => intro v1 v2 v3 v4 H; exact (wp_none H).elim
  | succ n ih =>
    intro v1 v2 v3 v4 H
    exact TBB_X12_wages_4 hW    ih v1 v2 v3 v4 H
def F_X12_wages (t : TS) (o1 : Option Nat) : Option Int32 := (B_X12_wages_4  10000 t o1 0 0)
theorem TF_X12_wages {W : NW} {d : Nat} {t : TS} {o1 : Option Nat} {Q : Option NV → TS → Prop} {bc bs : Nat} (hW : W.2.2.2 = mm_fx) (H : wp (F_X12_wages t o1) (fun r => Q (some (eI r)) t)) : nC W (d + 2) 150 [eR (some (12, 0)), eO 1 o1] t bc bs Q := by
  refine nC_in (d := (d + 1)) (T := tX12_wages) (ls := [some (eR (some (12, 0))), some (eO 1 o1), none, none, none]) rfl (Nat.le_of_ble_eq_true rfl) rfl (fun a0 e0 => ?_)
  unfold F_X12_wages at H
  refine nx_int (x := 0) rfl rfl ?_
  refine nx_st (ls' := [some (eR (some (12, 0))), some (eO 1 o1), some (eI 0), none, none]) rfl rfl rfl (Nat.le_of_ble_eq_true rfl) rfl ?_
  refine nx_int (x := 0) rfl rfl ?_
  refine nx_st (ls' := [some (eR (some (12, 0))), some (eO 1 o1), some (eI 0), some (eI 0), none]) rfl rfl rfl (Nat.le_of_ble_eq_true rfl) rfl ?_
  exact TB_X12_wages_4 hW    10000 _ _ _ _ H
def F_X12_year (t : TS) : Option Int32 := (some (((tI t 1200 0) / 300)))
theorem TF_X12_year {W : NW} {d : Nat} {t : TS} {Q : Option NV → TS → Prop} {bc bs : Nat} (hW : W.2.2.2 = mm_fx) (H : wp (F_X12_year t) (fun r => Q (some (eI r)) t)) : nC W (d + 1) 148 [eR (some (12, 0))] t bc bs Q := by
  refine nC_in (d := d) (T := tX12_year) (ls := [some (eR (some (12, 0)))]) rfl (Nat.le_of_ble_eq_true rfl) rfl (fun a0 e0 => ?_)
  unfold F_X12_year at H
  refine nx_ld rfl rfl rfl rfl ?_
  refine nx_getI rfl rfl rfl (by decide) ?_
  refine nx_int (x := 300) rfl rfl ?_
  refine nx_idivL rfl rfl (by decide) ?_
  exact nx_ri rfl rfl H
def B_X12_spreadTo_42 (k5 : TS → (Option Nat) → Int32 → Int32 → Int32 → Option Int32) (t : TS) (v1 : Option Nat) (v2 : Int32) (v3 : Int32) (v4 : Int32) : Option Int32 := (k5 t v1 v2 v3 (v4 + 1))
theorem TB_X12_spreadTo_42 {W : NW} {d : Nat} {Q : Option NV → TS → Prop} {a0 : Nat → Nat → Nat} {e0 : Nat → Nat → Bool} {t : TS} {k5 : TS → (Option Nat) → Int32 → Int32 → Int32 → Option Int32} {bc bs : Nat} (hW : W.2.2.2 = mm_fx) (hk5 : ∀ (v1 : Option Nat) (v2 : Int32) (v3 : Int32) (v4 : Int32), wp (k5 t v1 v2 v3 v4) (fun r => Q (some (eI r)) t) → nX W (d + 1) tX12_spreadTo Q a0 e0 5 [some (eR (some (12, 0))), some (eO 1 v1), some (eI v2), some (eI v3), some (eI v4)] [] t bc bs) : ∀ (v1 : Option Nat) (v2 : Int32) (v3 : Int32) (v4 : Int32), wp (B_X12_spreadTo_42 k5 t v1 v2 v3 v4) (fun r => Q (some (eI r)) t) → nX W (d + 1) tX12_spreadTo Q a0 e0 42 [some (eR (some (12, 0))), some (eO 1 v1), some (eI v2), some (eI v3), some (eI v4)] [] t bc bs := by
  intro v1 v2 v3 v4 H
  unfold B_X12_spreadTo_42 at H
  refine nx_iinc2 1 (ls' := [some (eR (some (12, 0))), some (eO 1 v1), some (eI v2), some (eI v3), some (eI (v4 + 1))]) rfl rfl rfl rfl rfl ?_
  refine nx_goto rfl rfl ?_
  exact hk5 _ _ _ _ H
def BB_X12_spreadTo_5 (k5 : TS → (Option Nat) → Int32 → Int32 → Int32 → Option Int32) (t : TS) (v1 : Option Nat) (v2 : Int32) (v3 : Int32) (v4 : Int32) : Option Int32 := (if (tI t 1207 0) ≤ v4 then (some (v3)) else (gd v4 (tL t 3206 0) (nxt (tQ t 3206 0 v4.toNatClampNeg) (fun o21 => (oc o21 none (fun j22 => (nxt (tR t 603 j22) (fun o23 => (if (o23 : Option Nat) = v1 then (gd v4 (tL t 3206 0) (nxt (tQ t 3206 0 v4.toNatClampNeg) (fun o24 => (oc o24 none (fun j25 => (Option.bind (F_X6_spreadTo t j25 v2) (fun r26 => (B_X12_spreadTo_42 k5 t v1 v2 (v3 + r26) v4)))))))) else (B_X12_spreadTo_42 k5 t v1 v2 v3 v4))))))))))
theorem TBB_X12_spreadTo_5 {W : NW} {d : Nat} {Q : Option NV → TS → Prop} {a0 : Nat → Nat → Nat} {e0 : Nat → Nat → Bool} {t : TS} {k5 : TS → (Option Nat) → Int32 → Int32 → Int32 → Option Int32} {bc bs : Nat} (hW : W.2.2.2 = mm_fx) (hk5 : ∀ (v1 : Option Nat) (v2 : Int32) (v3 : Int32) (v4 : Int32), wp (k5 t v1 v2 v3 v4) (fun r => Q (some (eI r)) t) → nX W (d + 1) tX12_spreadTo Q a0 e0 5 [some (eR (some (12, 0))), some (eO 1 v1), some (eI v2), some (eI v3), some (eI v4)] [] t bc bs) : ∀ (v1 : Option Nat) (v2 : Int32) (v3 : Int32) (v4 : Int32), wp (BB_X12_spreadTo_5 k5 t v1 v2 v3 v4) (fun r => Q (some (eI r)) t) → nX W (d + 1) tX12_spreadTo Q a0 e0 5 [some (eR (some (12, 0))), some (eO 1 v1), some (eI v2), some (eI v3), some (eI v4)] [] t bc bs := by
  intro v1 v2 v3 v4 H
  unfold BB_X12_spreadTo_5 at H
  refine nx_ld rfl rfl rfl rfl ?_
  refine nx_ld rfl rfl rfl rfl ?_
  refine nx_getI rfl rfl rfl (by decide) ?_
  refine nx_icmp rfl rfl (by rfl) H (fun H => ?_) (fun H => ?_)
  · refine nx_ld rfl rfl rfl rfl ?_
    exact nx_ri rfl rfl H
  refine nx_ld rfl rfl rfl rfl ?_
  refine nx_getFix rfl rfl rfl (by decide) (by rw [hW]; rfl) rfl ?_
  refine nx_ld rfl rfl rfl rfl ?_
  refine nx_aald (c := 3206) (i := 0) rfl rfl (Nat.le_of_ble_eq_true rfl) (Nat.le_of_ble_eq_true rfl) (Nat.le_of_ble_eq_true rfl) rfl H (fun o21 H => ?_)
  rcases o21 with _ | j22
  · exact (wp_none (oc_no H)).elim
  replace H := oc_so H
  refine nx_getR rfl rfl rfl (by decide) rfl H (fun o23 H => ?_)
  refine nx_ld rfl rfl rfl rfl ?_
  refine nx_ane (c := 1) (o1 := o23) (o2 := v1) rfl rfl (by decide) H (fun H => ?_) (fun H => ?_)
  · exact TB_X12_spreadTo_42 hW   hk5 _ _ _ _ H
  refine nx_ld rfl rfl rfl rfl ?_
  refine nx_ld rfl rfl rfl rfl ?_
  refine nx_getFix rfl rfl rfl (by decide) (by rw [hW]; rfl) rfl ?_
  refine nx_ld rfl rfl rfl rfl ?_
  refine nx_aald (c := 3206) (i := 0) rfl rfl (Nat.le_of_ble_eq_true rfl) (Nat.le_of_ble_eq_true rfl) (Nat.le_of_ble_eq_true rfl) rfl H (fun o24 H => ?_)
  refine nx_ld rfl rfl rfl rfl ?_
  rcases o24 with _ | j25
  · exact (wp_none (oc_no H)).elim
  replace H := oc_so H
  refine nx_cVI (as := [eI v2]) (st' := [eI v3]) rfl rfl (Nat.le_of_ble_eq_true rfl) rfl rfl (Nat.le_of_ble_eq_true rfl) (c0 := 6) rfl (by decide) H (fun Q H => TF_X6_spreadTo hW  H) (fun r26 H => ?_)
  show nX _ _ _ _ _ _ 40 _ _ _ _ _
  refine nx_ii rfl rfl ?_
  refine nx_st (ls' := [some (eR (some (12, 0))), some (eO 1 v1), some (eI v2), some (eI (v3 + r26)), some (eI v4)]) rfl rfl rfl (Nat.le_of_ble_eq_true rfl) rfl ?_
  exact TB_X12_spreadTo_42 hW   hk5 _ _ _ _ H
def B_X12_spreadTo_5 : Nat → TS → (Option Nat) → Int32 → Int32 → Int32 → Option Int32
  | 0 => fun _ _ _ _ _ => none
  | n + 1 => fun t v1 v2 v3 v4 => BB_X12_spreadTo_5 (B_X12_spreadTo_5 n) t v1 v2 v3 v4
theorem TB_X12_spreadTo_5 {W : NW} {d : Nat} {Q : Option NV → TS → Prop} {a0 : Nat → Nat → Nat} {e0 : Nat → Nat → Bool} {t : TS} {bc bs : Nat} (hW : W.2.2.2 = mm_fx) : ∀ (n : Nat) (v1 : Option Nat) (v2 : Int32) (v3 : Int32) (v4 : Int32), wp (B_X12_spreadTo_5 n t v1 v2 v3 v4) (fun r => Q (some (eI r)) t) → nX W (d + 1) tX12_spreadTo Q a0 e0 5 [some (eR (some (12, 0))), some (eO 1 v1), some (eI v2), some (eI v3), some (eI v4)] [] t bc bs := by
  intro n
  induction n with
  | zero => intro v1 v2 v3 v4 H; exact (wp_none H).elim
  | succ n ih =>
    intro v1 v2 v3 v4 H
    exact TBB_X12_spreadTo_5 hW    ih v1 v2 v3 v4 H
def F_X12_spreadTo (t : TS) (o1 : Option Nat) (x2 : Int32) : Option Int32 := (B_X12_spreadTo_5  10000 t o1 x2 0 0)
theorem TF_X12_spreadTo {W : NW} {d : Nat} {t : TS} {o1 : Option Nat} {x2 : Int32} {Q : Option NV → TS → Prop} {bc bs : Nat} (hW : W.2.2.2 = mm_fx) (H : wp (F_X12_spreadTo t o1 x2) (fun r => Q (some (eI r)) t)) : nC W (d + 2) 151 [eR (some (12, 0)), eO 1 o1, eI x2] t bc bs Q := by
  refine nC_in (d := (d + 1)) (T := tX12_spreadTo) (ls := [some (eR (some (12, 0))), some (eO 1 o1), some (eI x2), none, none]) rfl (Nat.le_of_ble_eq_true rfl) rfl (fun a0 e0 => ?_)
  unfold F_X12_spreadTo at H
  refine nx_int (x := 0) rfl rfl ?_
  refine nx_st (ls' := [some (eR (some (12, 0))), some (eO 1 o1), some (eI x2), some (eI 0), none]) rfl rfl rfl (Nat.le_of_ble_eq_true rfl) rfl ?_
  refine nx_int (x := 0) rfl rfl ?_
  refine nx_st (ls' := [some (eR (some (12, 0))), some (eO 1 o1), some (eI x2), some (eI 0), some (eI 0)]) rfl rfl rfl (Nat.le_of_ble_eq_true rfl) rfl ?_
  exact TB_X12_spreadTo_5 hW    10000 _ _ _ _ H
def BB_X12_threeYearsCaps_20 (k20 : TS → (Option Nat) → Int32 → Int32 → Int32 → Option Int32) (t : TS) (v1 : Option Nat) (v2 : Int32) (v3 : Int32) (v4 : Int32) : Option Int32 := (Option.bind (F_X12_year t) (fun r21 => (if r21 < v4 then (some (v2)) else (Option.bind (F_X12_spreadTo t v1 v4) (fun r22 => (k20 t v1 (v2 + (v3 + r22)) v3 (v4 + 1)))))))
theorem TBB_X12_threeYearsCaps_20 {W : NW} {d : Nat} {Q : Option NV → TS → Prop} {a0 : Nat → Nat → Nat} {e0 : Nat → Nat → Bool} {t : TS} {k20 : TS → (Option Nat) → Int32 → Int32 → Int32 → Option Int32} {bc bs : Nat} (hW : W.2.2.2 = mm_fx) (hk20 : ∀ (v1 : Option Nat) (v2 : Int32) (v3 : Int32) (v4 : Int32), wp (k20 t v1 v2 v3 v4) (fun r => Q (some (eI r)) t) → nX W (d + 2) tX12_threeYearsCaps Q a0 e0 20 [some (eR (some (12, 0))), some (eO 1 v1), some (eI v2), some (eI v3), some (eI v4)] [] t bc bs) : ∀ (v1 : Option Nat) (v2 : Int32) (v3 : Int32) (v4 : Int32), wp (BB_X12_threeYearsCaps_20 k20 t v1 v2 v3 v4) (fun r => Q (some (eI r)) t) → nX W (d + 2) tX12_threeYearsCaps Q a0 e0 20 [some (eR (some (12, 0))), some (eO 1 v1), some (eI v2), some (eI v3), some (eI v4)] [] t bc bs := by
  intro v1 v2 v3 v4 H
  unfold BB_X12_threeYearsCaps_20 at H
  refine nx_ld rfl rfl rfl rfl ?_
  refine nx_ld rfl rfl rfl rfl ?_
  refine nx_cVI (as := []) (st' := [eI v4]) rfl rfl (Nat.le_of_ble_eq_true rfl) rfl rfl (Nat.le_of_ble_eq_true rfl) (c0 := 12) rfl (by decide) H (fun Q H => TF_X12_year hW  H) (fun r21 H => ?_)
  refine nx_icmp rfl rfl (by rfl) H (fun H => ?_) (fun H => ?_)
  · refine nx_ld rfl rfl rfl rfl ?_
    exact nx_ri rfl rfl H
  refine nx_ld rfl rfl rfl rfl ?_
  refine nx_ld rfl rfl rfl rfl ?_
  refine nx_ld rfl rfl rfl rfl ?_
  refine nx_ld rfl rfl rfl rfl ?_
  refine nx_ld rfl rfl rfl rfl ?_
  refine nx_cVI (as := [eO 1 v1, eI v4]) (st' := [eI v3, eI v2]) rfl rfl (Nat.le_of_ble_eq_true rfl) rfl rfl (Nat.le_of_ble_eq_true rfl) (c0 := 12) rfl (by decide) H (fun Q H => TF_X12_spreadTo hW  H) (fun r22 H => ?_)
  refine nx_ii rfl rfl ?_
  show nX _ _ _ _ _ _ 39 _ _ _ _ _
  refine nx_ii rfl rfl ?_
  refine nx_st (ls' := [some (eR (some (12, 0))), some (eO 1 v1), some (eI (v2 + (v3 + r22))), some (eI v3), some (eI v4)]) rfl rfl rfl (Nat.le_of_ble_eq_true rfl) rfl ?_
  refine nx_iinc2 1 (ls' := [some (eR (some (12, 0))), some (eO 1 v1), some (eI (v2 + (v3 + r22))), some (eI v3), some (eI (v4 + 1))]) rfl rfl rfl rfl rfl ?_
  refine nx_goto rfl rfl ?_
  exact hk20 _ _ _ _ H
def B_X12_threeYearsCaps_20 : Nat → TS → (Option Nat) → Int32 → Int32 → Int32 → Option Int32
  | 0 => fun _ _ _ _ _ => none
  | n + 1 => fun t v1 v2 v3 v4 => BB_X12_threeYearsCaps_20 (B_X12_threeYearsCaps_20 n) t v1 v2 v3 v4
theorem TB_X12_threeYearsCaps_20 {W : NW} {d : Nat} {Q : Option NV → TS → Prop} {a0 : Nat → Nat → Nat} {e0 : Nat → Nat → Bool} {t : TS} {bc bs : Nat} (hW : W.2.2.2 = mm_fx) : ∀ (n : Nat) (v1 : Option Nat) (v2 : Int32) (v3 : Int32) (v4 : Int32), wp (B_X12_threeYearsCaps_20 n t v1 v2 v3 v4) (fun r => Q (some (eI r)) t) → nX W (d + 2) tX12_threeYearsCaps Q a0 e0 20 [some (eR (some (12, 0))), some (eO 1 v1), some (eI v2), some (eI v3), some (eI v4)] [] t bc bs := by
  intro n
  induction n with
  | zero => intro v1 v2 v3 v4 H; exact (wp_none H).elim
  | succ n ih =>
    intro v1 v2 v3 v4 H
    exact TBB_X12_threeYearsCaps_20 hW    ih v1 v2 v3 v4 H
def F_X12_threeYearsCaps (t : TS) (o1 : Option Nat) : Option Int32 := (Option.bind (F_X12_wages t o1) (fun r21 => (Option.bind (F_X12_year t) (fun r22 => (B_X12_threeYearsCaps_20  10000 t o1 0 r21 (if (0 : Int32) < (r22 - 2) then (r22 - 2) else (0 : Int32)))))))
theorem TF_X12_threeYearsCaps {W : NW} {d : Nat} {t : TS} {o1 : Option Nat} {Q : Option NV → TS → Prop} {bc bs : Nat} (hW : W.2.2.2 = mm_fx) (H : wp (F_X12_threeYearsCaps t o1) (fun r => Q (some (eI r)) t)) : nC W (d + 3) 152 [eR (some (12, 0)), eO 1 o1] t bc bs Q := by
  refine nC_in (d := (d + 2)) (T := tX12_threeYearsCaps) (ls := [some (eR (some (12, 0))), some (eO 1 o1), none, none, none]) rfl (Nat.le_of_ble_eq_true rfl) rfl (fun a0 e0 => ?_)
  unfold F_X12_threeYearsCaps at H
  refine nx_int (x := 0) rfl rfl ?_
  refine nx_st (ls' := [some (eR (some (12, 0))), some (eO 1 o1), some (eI 0), none, none]) rfl rfl rfl (Nat.le_of_ble_eq_true rfl) rfl ?_
  refine nx_ld rfl rfl rfl rfl ?_
  refine nx_ld rfl rfl rfl rfl ?_
  refine nx_cVI (as := [eO 1 o1]) (st' := []) rfl rfl (Nat.le_of_ble_eq_true rfl) rfl rfl (Nat.le_of_ble_eq_true rfl) (c0 := 12) rfl (by decide) H (fun Q H => TF_X12_wages hW  H) (fun r21 H => ?_)
  refine nx_st (ls' := [some (eR (some (12, 0))), some (eO 1 o1), some (eI 0), some (eI r21), none]) rfl rfl rfl (Nat.le_of_ble_eq_true rfl) rfl ?_
  refine nx_int (x := 0) rfl rfl ?_
  show nX _ _ _ _ _ _ 9 _ _ _ _ _
  refine nx_ld rfl rfl rfl rfl ?_
  refine nx_cVI (as := []) (st' := [eI 0]) rfl rfl (Nat.le_of_ble_eq_true rfl) rfl rfl (Nat.le_of_ble_eq_true rfl) (c0 := 12) rfl (by decide) H (fun Q H => TF_X12_year hW  H) (fun r22 H => ?_)
  refine nx_int (x := 2) rfl rfl ?_
  refine nx_ii rfl rfl ?_
  refine nx_ext2 rfl rfl (Nat.le_of_ble_eq_true rfl) ?_
  refine nx_st (ls' := [some (eR (some (12, 0))), some (eO 1 o1), some (eI 0), some (eI r21), some (eI (if (0 : Int32) < (r22 - 2) then (r22 - 2) else (0 : Int32)))]) rfl rfl rfl (Nat.le_of_ble_eq_true rfl) rfl ?_
  exact TB_X12_threeYearsCaps_20 hW    10000 _ _ _ _ H
