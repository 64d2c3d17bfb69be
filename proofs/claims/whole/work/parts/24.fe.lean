/-! functions of methods over the typed heap, and that the runs follow them (by program: wip/whole/walk.py) -/
def BB_X12_threeYearsIncome_13 (k13 : TS → (Option Nat) → Int32 → Int32 → Option Int32) (t : TS) (v1 : Option Nat) (v2 : Int32) (v3 : Int32) : Option Int32 := (Option.bind (F_X12_year t) (fun r21 => (if r21 < v3 then (some (v2)) else (if 10 ≤ v3 then (some (v2)) else (oc v1 none (fun j22 => (nxt (tR t 104 j22) (fun o23 => (oc o23 none (fun j24 => (gd v3 (tL t 2104 j24) (k13 t (some j22) (v2 + (tA t 2104 j24 v3.toNatClampNeg)) (v3 + 1)))))))))))))
theorem TBB_X12_threeYearsIncome_13 {W : NW} {d : Nat} {Q : Option NV → TS → Prop} {a0 : Nat → Nat → Nat} {e0 : Nat → Nat → Bool} {t : TS} {k13 : TS → (Option Nat) → Int32 → Int32 → Option Int32} {bc bs : Nat} (hW : W.2.2.2 = mm_fx) (hk13 : ∀ (v1 : Option Nat) (v2 : Int32) (v3 : Int32), wp (k13 t v1 v2 v3) (fun r => Q (some (eI r)) t) → nX W (d + 1) tX12_threeYearsIncome Q a0 e0 13 [some (eR (some (12, 0))), some (eO 1 v1), some (eI v2), some (eI v3)] [] t bc bs) : ∀ (v1 : Option Nat) (v2 : Int32) (v3 : Int32), wp (BB_X12_threeYearsIncome_13 k13 t v1 v2 v3) (fun r => Q (some (eI r)) t) → nX W (d + 1) tX12_threeYearsIncome Q a0 e0 13 [some (eR (some (12, 0))), some (eO 1 v1), some (eI v2), some (eI v3)] [] t bc bs := by
  intro v1 v2 v3 H
  unfold BB_X12_threeYearsIncome_13 at H
  refine nx_ld rfl rfl rfl rfl ?_
  refine nx_ld rfl rfl rfl rfl ?_
  refine nx_cVI (as := []) (st' := [eI v3]) rfl rfl (Nat.le_of_ble_eq_true rfl) rfl rfl (Nat.le_of_ble_eq_true rfl) (c0 := 12) rfl (by decide) H (fun Q H => TF_X12_year hW  H) (fun r21 H => ?_)
  refine nx_icmp rfl rfl (by rfl) H (fun H => ?_) (fun H => ?_)
  · refine nx_ld rfl rfl rfl rfl ?_
    exact nx_ri rfl rfl H
  refine nx_ld rfl rfl rfl rfl ?_
  refine nx_int (x := 10) rfl rfl ?_
  refine nx_icmp rfl rfl (by rfl) H (fun H => ?_) (fun H => ?_)
  · refine nx_ld rfl rfl rfl rfl ?_
    exact nx_ri rfl rfl H
  refine nx_ld rfl rfl rfl rfl ?_
  refine nx_ld rfl rfl rfl rfl ?_
  rcases v1 with _ | j22
  · exact (wp_none (oc_no H)).elim
  replace H := oc_so H
  refine nx_getR rfl rfl rfl (by decide) rfl H (fun o23 H => ?_)
  refine nx_ld rfl rfl rfl rfl ?_
  rcases o23 with _ | j24
  · exact (wp_none (oc_no H)).elim
  replace H := oc_so H
  refine nx_iald (p := (2104, j24)) rfl rfl (Nat.le_of_ble_eq_true rfl) (Nat.le_of_ble_eq_true rfl) rfl H (fun H => ?_)
  refine nx_ii rfl rfl ?_
  refine nx_st (ls' := [some (eR (some (12, 0))), some (eR (some (1, j22))), some (eI (v2 + (tA t 2104 j24 v3.toNatClampNeg))), some (eI v3)]) rfl rfl rfl (Nat.le_of_ble_eq_true rfl) rfl ?_
  show nX _ _ _ _ _ _ 36 _ _ _ _ _
  refine nx_iinc2 1 (ls' := [some (eR (some (12, 0))), some (eR (some (1, j22))), some (eI (v2 + (tA t 2104 j24 v3.toNatClampNeg))), some (eI (v3 + 1))]) rfl rfl rfl rfl rfl ?_
  refine nx_goto rfl rfl ?_
  exact hk13 ((some j22)) _ _ H
def B_X12_threeYearsIncome_13 : Nat → TS → (Option Nat) → Int32 → Int32 → Option Int32
  | 0 => fun _ _ _ _ => none
  | n + 1 => fun t v1 v2 v3 => BB_X12_threeYearsIncome_13 (B_X12_threeYearsIncome_13 n) t v1 v2 v3
theorem TB_X12_threeYearsIncome_13 {W : NW} {d : Nat} {Q : Option NV → TS → Prop} {a0 : Nat → Nat → Nat} {e0 : Nat → Nat → Bool} {t : TS} {bc bs : Nat} (hW : W.2.2.2 = mm_fx) : ∀ (n : Nat) (v1 : Option Nat) (v2 : Int32) (v3 : Int32), wp (B_X12_threeYearsIncome_13 n t v1 v2 v3) (fun r => Q (some (eI r)) t) → nX W (d + 1) tX12_threeYearsIncome Q a0 e0 13 [some (eR (some (12, 0))), some (eO 1 v1), some (eI v2), some (eI v3)] [] t bc bs := by
  intro n
  induction n with
  | zero => intro v1 v2 v3 H; exact (wp_none H).elim
  | succ n ih =>
    intro v1 v2 v3 H
    exact TBB_X12_threeYearsIncome_13 hW    ih v1 v2 v3 H
def F_X12_threeYearsIncome (t : TS) (o1 : Option Nat) : Option Int32 := (Option.bind (F_X12_year t) (fun r21 => (B_X12_threeYearsIncome_13  10000 t o1 0 (if (0 : Int32) < (r21 - 2) then (r21 - 2) else (0 : Int32)))))
theorem TF_X12_threeYearsIncome {W : NW} {d : Nat} {t : TS} {o1 : Option Nat} {Q : Option NV → TS → Prop} {bc bs : Nat} (hW : W.2.2.2 = mm_fx) (H : wp (F_X12_threeYearsIncome t o1) (fun r => Q (some (eI r)) t)) : nC W (d + 2) 153 [eR (some (12, 0)), eO 1 o1] t bc bs Q := by
  refine nC_in (d := (d + 1)) (T := tX12_threeYearsIncome) (ls := [some (eR (some (12, 0))), some (eO 1 o1), none, none]) rfl (Nat.le_of_ble_eq_true rfl) rfl (fun a0 e0 => ?_)
  unfold F_X12_threeYearsIncome at H
  refine nx_int (x := 0) rfl rfl ?_
  refine nx_st (ls' := [some (eR (some (12, 0))), some (eO 1 o1), some (eI 0), none]) rfl rfl rfl (Nat.le_of_ble_eq_true rfl) rfl ?_
  refine nx_int (x := 0) rfl rfl ?_
  refine nx_ld rfl rfl rfl rfl ?_
  refine nx_cVI (as := []) (st' := [eI 0]) rfl rfl (Nat.le_of_ble_eq_true rfl) rfl rfl (Nat.le_of_ble_eq_true rfl) (c0 := 12) rfl (by decide) H (fun Q H => TF_X12_year hW  H) (fun r21 H => ?_)
  refine nx_int (x := 2) rfl rfl ?_
  refine nx_ii rfl rfl ?_
  show nX _ _ _ _ _ _ 9 _ _ _ _ _
  refine nx_ext2 rfl rfl (Nat.le_of_ble_eq_true rfl) ?_
  refine nx_st (ls' := [some (eR (some (12, 0))), some (eO 1 o1), some (eI 0), some (eI (if (0 : Int32) < (r21 - 2) then (r21 - 2) else (0 : Int32)))]) rfl rfl rfl (Nat.le_of_ble_eq_true rfl) rfl ?_
  exact TB_X12_threeYearsIncome_13 hW    10000 _ _ _ H
def F_X12_figure (t : TS) (x1 : Int32) (o2 : Option Nat) (o3 : Option Nat) (o4 : Option Nat) : Option (Int32 × TS) := (swi x1 0 [(oc o3 (some (0, t)) (fun j22 => (Option.bind (F_X1_ageOn t j22 (tI t 1200 0)) (fun r23 => (some (r23, t)))))), (oc o3 (some (0, t)) (fun j24 => (some ((tI t 101 j24), t)))), (ob2 (F_X12_countHeld t o2 o4 2) (fun x26 t27 => (some (x26, t27)))), (ob2 (F_X12_countHeld t o2 o4 3) (fun x29 t30 => (some (x29, t30)))), (ob2 (F_X12_countHeld t o2 o4 4) (fun x32 t33 => (some (x32, t33)))), (Option.bind (F_X12_wages t o2) (fun r34 => (some (r34, t)))), (Option.bind (F_X12_wages t o2) (fun r35 => (Option.bind (F_X12_year t) (fun r36 => (Option.bind (F_X12_spreadTo t o2 r36) (fun r37 => (some ((r35 + r37), t)))))))), (Option.bind (F_X12_threeYearsCaps t o2) (fun r38 => (some (r38, t)))), (Option.bind (F_X12_threeYearsIncome t o2) (fun r39 => (some (r39, t)))), (oc o2 none (fun j40 => (some ((tI t 102 j40), t)))), (Option.bind (F_X12_year t) (fun r41 => (some (r41, t))))] (oc o2 none (fun j21 => (some ((tI t 103 j21), t)))))
theorem TF_X12_figure {W : NW} {d : Nat} {t : TS} {x1 : Int32} {o2 : Option Nat} {o3 : Option Nat} {o4 : Option Nat} {Q : Option NV → TS → Prop} {bc bs : Nat} (hW : W.2.2.2 = mm_fx) (H : wp (F_X12_figure t x1 o2 o3 o4) (fun r => Q (some (eI r.1)) r.2)) : nC W (d + 4) 147 [eR (some (12, 0)), eI x1, eO 1 o2, eO 1 o3, eO 1 o4] t bc bs Q := by
  refine nC_in (d := (d + 3)) (T := tX12_figure) (ls := [some (eR (some (12, 0))), some (eI x1), some (eO 1 o2), some (eO 1 o3), some (eO 1 o4)]) rfl (Nat.le_of_ble_eq_true rfl) rfl (fun a0 e0 => ?_)
  unfold F_X12_figure at H
  refine nx_ld rfl rfl rfl rfl ?_
  refine nx_tsw rfl rfl (by decide) (by decide) (by decide) H (fun H => ?_) ?_
  · show nX _ _ _ _ _ _ 161 _ _ _ _ _
    refine nx_ld rfl rfl rfl rfl ?_
    rcases o2 with _ | j21
    · exact (wp_none (oc_no H)).elim
    replace H := oc_so H
    refine nx_getI rfl rfl rfl (by decide) ?_
    exact nx_rit rfl rfl H
  refine ⟨fun H => ?_, fun H => ?_, fun H => ?_, fun H => ?_, fun H => ?_, fun H => ?_, fun H => ?_, fun H => ?_, fun H => ?_, fun H => ?_, fun H => ?_, trivial⟩
  · show nX _ _ _ _ _ _ 60 _ _ _ _ _
    refine nx_ld rfl rfl rfl rfl ?_
    rcases o3 with _ | j22
    · replace H := oc_no H
      refine nx_non0 (c := 1) rfl rfl ?_
      refine nx_int (x := 0) rfl rfl ?_
      refine nx_goto rfl rfl ?_
      exact nx_rit rfl rfl H
    replace H := oc_so H
    refine nx_non1 rfl rfl ?_
    refine nx_ld rfl rfl rfl rfl ?_
    refine nx_ld rfl rfl rfl rfl ?_
    refine nx_getI rfl rfl rfl (by decide) ?_
    refine nx_cVI (as := [eI (tI t 1200 0)]) (st' := []) rfl rfl (Nat.le_of_ble_eq_true rfl) rfl rfl (Nat.le_of_ble_eq_true rfl) (c0 := 1) rfl (by decide) H (fun Q H => TF_X1_ageOn hW  H) (fun r23 H => ?_)
    exact nx_rit rfl rfl H
  · show nX _ _ _ _ _ _ 77 _ _ _ _ _
    refine nx_ld rfl rfl rfl rfl ?_
    rcases o3 with _ | j24
    · replace H := oc_no H
      refine nx_non0 (c := 1) rfl rfl ?_
      refine nx_int (x := 0) rfl rfl ?_
      refine nx_goto rfl rfl ?_
      exact nx_rit rfl rfl H
    replace H := oc_so H
    refine nx_non1 rfl rfl ?_
    refine nx_ld rfl rfl rfl rfl ?_
    refine nx_getI rfl rfl rfl (by decide) ?_
    exact nx_rit rfl rfl H
  · show nX _ _ _ _ _ _ 90 _ _ _ _ _
    refine nx_ld rfl rfl rfl rfl ?_
    refine nx_ld rfl rfl rfl rfl ?_
    refine nx_ld rfl rfl rfl rfl ?_
    refine nx_int (x := 2) rfl rfl ?_
    refine nx_cVI2 (as := [eO 1 o2, eO 1 o4, eI 2]) (st' := []) rfl rfl (Nat.le_of_ble_eq_true rfl) rfl rfl (Nat.le_of_ble_eq_true rfl) (c0 := 12) rfl (by decide) H (fun Q H => TF_X12_countHeld hW  H) (fun x26 t27 H => ?_)
    exact nx_rit rfl rfl H
  · show nX _ _ _ _ _ _ 99 _ _ _ _ _
    refine nx_ld rfl rfl rfl rfl ?_
    refine nx_ld rfl rfl rfl rfl ?_
    refine nx_ld rfl rfl rfl rfl ?_
    refine nx_int (x := 3) rfl rfl ?_
    refine nx_cVI2 (as := [eO 1 o2, eO 1 o4, eI 3]) (st' := []) rfl rfl (Nat.le_of_ble_eq_true rfl) rfl rfl (Nat.le_of_ble_eq_true rfl) (c0 := 12) rfl (by decide) H (fun Q H => TF_X12_countHeld hW  H) (fun x29 t30 H => ?_)
    exact nx_rit rfl rfl H
  · show nX _ _ _ _ _ _ 108 _ _ _ _ _
    refine nx_ld rfl rfl rfl rfl ?_
    refine nx_ld rfl rfl rfl rfl ?_
    refine nx_ld rfl rfl rfl rfl ?_
    refine nx_int (x := 4) rfl rfl ?_
    refine nx_cVI2 (as := [eO 1 o2, eO 1 o4, eI 4]) (st' := []) rfl rfl (Nat.le_of_ble_eq_true rfl) rfl rfl (Nat.le_of_ble_eq_true rfl) (c0 := 12) rfl (by decide) H (fun Q H => TF_X12_countHeld hW  H) (fun x32 t33 H => ?_)
    exact nx_rit rfl rfl H
  · show nX _ _ _ _ _ _ 117 _ _ _ _ _
    refine nx_ld rfl rfl rfl rfl ?_
    refine nx_ld rfl rfl rfl rfl ?_
    refine nx_cVI (as := [eO 1 o2]) (st' := []) rfl rfl (Nat.le_of_ble_eq_true rfl) rfl rfl (Nat.le_of_ble_eq_true rfl) (c0 := 12) rfl (by decide) H (fun Q H => TF_X12_wages hW  H) (fun r34 H => ?_)
    exact nx_rit rfl rfl H
  · show nX _ _ _ _ _ _ 123 _ _ _ _ _
    refine nx_ld rfl rfl rfl rfl ?_
    refine nx_ld rfl rfl rfl rfl ?_
    refine nx_cVI (as := [eO 1 o2]) (st' := []) rfl rfl (Nat.le_of_ble_eq_true rfl) rfl rfl (Nat.le_of_ble_eq_true rfl) (c0 := 12) rfl (by decide) H (fun Q H => TF_X12_wages hW  H) (fun r35 H => ?_)
    refine nx_ld rfl rfl rfl rfl ?_
    refine nx_ld rfl rfl rfl rfl ?_
    refine nx_ld rfl rfl rfl rfl ?_
    refine nx_cVI (as := []) (st' := [eO 1 o2, eR (some (12, 0)), eI r35]) rfl rfl (Nat.le_of_ble_eq_true rfl) rfl rfl (Nat.le_of_ble_eq_true rfl) (c0 := 12) rfl (by decide) H (fun Q H => TF_X12_year hW  H) (fun r36 H => ?_)
    show nX _ _ _ _ _ _ 134 _ _ _ _ _
    refine nx_cVI (as := [eO 1 o2, eI r36]) (st' := [eI r35]) rfl rfl (Nat.le_of_ble_eq_true rfl) rfl rfl (Nat.le_of_ble_eq_true rfl) (c0 := 12) rfl (by decide) H (fun Q H => TF_X12_spreadTo hW  H) (fun r37 H => ?_)
    refine nx_ii rfl rfl ?_
    exact nx_rit rfl rfl H
  · show nX _ _ _ _ _ _ 139 _ _ _ _ _
    refine nx_ld rfl rfl rfl rfl ?_
    refine nx_ld rfl rfl rfl rfl ?_
    refine nx_cVI (as := [eO 1 o2]) (st' := []) rfl rfl (Nat.le_of_ble_eq_true rfl) rfl rfl (Nat.le_of_ble_eq_true rfl) (c0 := 12) rfl (by decide) H (fun Q H => TF_X12_threeYearsCaps hW  H) (fun r38 H => ?_)
    exact nx_rit rfl rfl H
  · show nX _ _ _ _ _ _ 145 _ _ _ _ _
    refine nx_ld rfl rfl rfl rfl ?_
    refine nx_ld rfl rfl rfl rfl ?_
    refine nx_cVI (as := [eO 1 o2]) (st' := []) rfl rfl (Nat.le_of_ble_eq_true rfl) rfl rfl (Nat.le_of_ble_eq_true rfl) (c0 := 12) rfl (by decide) H (fun Q H => TF_X12_threeYearsIncome hW  H) (fun r39 H => ?_)
    exact nx_rit rfl rfl H
  · show nX _ _ _ _ _ _ 151 _ _ _ _ _
    refine nx_ld rfl rfl rfl rfl ?_
    rcases o2 with _ | j40
    · exact (wp_none (oc_no H)).elim
    replace H := oc_so H
    refine nx_getI rfl rfl rfl (by decide) ?_
    exact nx_rit rfl rfl H
  · show nX _ _ _ _ _ _ 156 _ _ _ _ _
    refine nx_ld rfl rfl rfl rfl ?_
    refine nx_cVI (as := []) (st' := []) rfl rfl (Nat.le_of_ble_eq_true rfl) rfl rfl (Nat.le_of_ble_eq_true rfl) (c0 := 12) rfl (by decide) H (fun Q H => TF_X12_year hW  H) (fun r41 H => ?_)
    exact nx_rit rfl rfl H
def B_X12_brokenLine_58 (t : TS) (v1 : Nat) : Option (Int32 × TS) := (nxt (tR t 903 v1) (fun o21 => (ob2 (F_X7_brokenLineOf t o21) (fun x23 t24 => (some (x23, t24))))))
theorem TB_X12_brokenLine_58 {W : NW} {d : Nat} {Q : Option NV → TS → Prop} {a0 : Nat → Nat → Nat} {e0 : Nat → Nat → Bool} {bc bs : Nat} (hW : W.2.2.2 = mm_fx) : ∀ (t : TS) (v1 : Nat) (v2 : Option Nat) (v3 : Option Nat) (v4 : Option Nat) (v5 : Int32), wp (B_X12_brokenLine_58 t v1) (fun r => Q (some (eI r.1)) r.2) → nX W (d + 207) tX12_brokenLine Q a0 e0 58 [some (eR (some (12, 0))), some (eR (some (9, v1))), some (eO 1 v2), some (eO 1 v3), some (eO 1 v4), some (eI v5)] [] t bc bs := by
  intro t v1 v2 v3 v4 v5 H
  unfold B_X12_brokenLine_58 at H
  refine nx_ld rfl rfl rfl rfl ?_
  refine nx_getFix rfl rfl rfl (by decide) (by rw [hW]; rfl) rfl ?_
  refine nx_ld rfl rfl rfl rfl ?_
  refine nx_getR rfl rfl rfl (by decide) rfl H (fun o21 H => ?_)
  refine nx_cVI2 (as := [eO 2700 o21]) (st' := []) rfl rfl (Nat.le_of_ble_eq_true rfl) rfl rfl (Nat.le_of_ble_eq_true rfl) (c0 := 7) rfl (by decide) H (fun Q H => TF_X7_brokenLineOf hW  H) (fun x23 t24 H => ?_)
  exact nx_rit rfl rfl H
def B_X12_brokenLine_52 (k9 : TS → Nat → (Option Nat) → (Option Nat) → (Option Nat) → Int32 → Option (Int32 × TS)) (t : TS) (v1 : Nat) (v2 : Option Nat) (v3 : Option Nat) (v4 : Option Nat) (v5 : Int32) : Option (Int32 × TS) := (k9 t v1 v2 v3 v4 (v5 + 1))
theorem TB_X12_brokenLine_52 {W : NW} {d : Nat} {Q : Option NV → TS → Prop} {a0 : Nat → Nat → Nat} {e0 : Nat → Nat → Bool} {k9 : TS → Nat → (Option Nat) → (Option Nat) → (Option Nat) → Int32 → Option (Int32 × TS)} {bc bs : Nat} (hW : W.2.2.2 = mm_fx) (hk9 : ∀ (t : TS) (v1 : Nat) (v2 : Option Nat) (v3 : Option Nat) (v4 : Option Nat) (v5 : Int32), wp (k9 t v1 v2 v3 v4 v5) (fun r => Q (some (eI r.1)) r.2) → nX W (d + 207) tX12_brokenLine Q a0 e0 9 [some (eR (some (12, 0))), some (eR (some (9, v1))), some (eO 1 v2), some (eO 1 v3), some (eO 1 v4), some (eI v5)] [] t bc bs) : ∀ (t : TS) (v1 : Nat) (v2 : Option Nat) (v3 : Option Nat) (v4 : Option Nat) (v5 : Int32), wp (B_X12_brokenLine_52 k9 t v1 v2 v3 v4 v5) (fun r => Q (some (eI r.1)) r.2) → nX W (d + 207) tX12_brokenLine Q a0 e0 52 [some (eR (some (12, 0))), some (eR (some (9, v1))), some (eO 1 v2), some (eO 1 v3), some (eO 1 v4), some (eI v5)] [] t bc bs := by
  intro t v1 v2 v3 v4 v5 H
  unfold B_X12_brokenLine_52 at H
  refine nx_iinc2 1 (ls' := [some (eR (some (12, 0))), some (eR (some (9, v1))), some (eO 1 v2), some (eO 1 v3), some (eO 1 v4), some (eI (v5 + 1))]) rfl rfl rfl rfl rfl ?_
  refine nx_goto rfl rfl ?_
  exact hk9 _ _ _ _ _ _ H
def BB_X12_brokenLine_9 (k9 : TS → Nat → (Option Nat) → (Option Nat) → (Option Nat) → Int32 → Option (Int32 × TS)) (t : TS) (v1 : Nat) (v2 : Option Nat) (v3 : Option Nat) (v4 : Option Nat) (v5 : Int32) : Option (Int32 × TS) := (Option.bind (F_J0_length_8abf5 t) (fun r21 => (if r21 ≤ v5 then (B_X12_brokenLine_58  t v1) else (if (((tI t 904 v1) >>> (v5 &&& 31)) &&& 1) = 0 then (B_X12_brokenLine_52 k9 t v1 v2 v3 v4 v5) else (ob2 (F_X12_figure t v5 v2 v3 v4) (fun x23 t24 => (gd v5 (tL t24 2702 0) (nxt (uA t24 2702 0 v5.toNatClampNeg x23) (fun t25 => (B_X12_brokenLine_52 k9 t25 v1 v2 v3 v4 v5))))))))))
theorem TBB_X12_brokenLine_9 {W : NW} {d : Nat} {Q : Option NV → TS → Prop} {a0 : Nat → Nat → Nat} {e0 : Nat → Nat → Bool} {k9 : TS → Nat → (Option Nat) → (Option Nat) → (Option Nat) → Int32 → Option (Int32 × TS)} {bc bs : Nat} (hW : W.2.2.2 = mm_fx) (hk9 : ∀ (t : TS) (v1 : Nat) (v2 : Option Nat) (v3 : Option Nat) (v4 : Option Nat) (v5 : Int32), wp (k9 t v1 v2 v3 v4 v5) (fun r => Q (some (eI r.1)) r.2) → nX W (d + 207) tX12_brokenLine Q a0 e0 9 [some (eR (some (12, 0))), some (eR (some (9, v1))), some (eO 1 v2), some (eO 1 v3), some (eO 1 v4), some (eI v5)] [] t bc bs) : ∀ (t : TS) (v1 : Nat) (v2 : Option Nat) (v3 : Option Nat) (v4 : Option Nat) (v5 : Int32), wp (BB_X12_brokenLine_9 k9 t v1 v2 v3 v4 v5) (fun r => Q (some (eI r.1)) r.2) → nX W (d + 207) tX12_brokenLine Q a0 e0 9 [some (eR (some (12, 0))), some (eR (some (9, v1))), some (eO 1 v2), some (eO 1 v3), some (eO 1 v4), some (eI v5)] [] t bc bs := by
  intro t v1 v2 v3 v4 v5 H
  unfold BB_X12_brokenLine_9 at H
  refine nx_ld rfl rfl rfl rfl ?_
  refine nx_sta 100 rfl rfl ?_
  refine nx_cTI (as := []) (st' := [eI v5]) rfl rfl (Nat.le_of_ble_eq_true rfl) rfl rfl (Nat.le_of_ble_eq_true rfl) H (fun Q H => TF_J0_length_8abf5 hW  H) (fun r21 H => ?_)
  refine nx_icmp rfl rfl (by rfl) H (fun H => ?_) (fun H => ?_)
  · exact TB_X12_brokenLine_58 hW    _ _ _ _ _ _ H
  refine nx_ld rfl rfl rfl rfl ?_
  refine nx_getI rfl rfl rfl (by decide) ?_
  refine nx_ld rfl rfl rfl rfl ?_
  refine nx_ii rfl rfl ?_
  refine nx_int (x := 1) rfl rfl ?_
  refine nx_ii rfl rfl ?_
  refine nx_if rfl rfl (by rfl) H (fun H => ?_) (fun H => ?_)
  · exact TB_X12_brokenLine_52 hW   hk9 _ _ _ _ _ _ H
  refine nx_ld rfl rfl rfl rfl ?_
  refine nx_getFix rfl rfl rfl (by decide) (by rw [hW]; rfl) rfl ?_
  refine nx_getFix rfl rfl rfl (by decide) (by rw [hW]; rfl) rfl ?_
  refine nx_ld rfl rfl rfl rfl ?_
  refine nx_ld rfl rfl rfl rfl ?_
  refine nx_ld rfl rfl rfl rfl ?_
  refine nx_ld rfl rfl rfl rfl ?_
  show nX _ _ _ _ _ _ 45 _ _ _ _ _
  refine nx_ld rfl rfl rfl rfl ?_
  refine nx_ld rfl rfl rfl rfl ?_
  refine nx_cVI2 (as := [eI v5, eO 1 v2, eO 1 v3, eO 1 v4]) (st' := [eI v5, eR (some (2702, 0))]) rfl rfl (Nat.le_of_ble_eq_true rfl) rfl rfl (Nat.le_of_ble_eq_true rfl) (c0 := 12) rfl (by decide) H (fun Q H => TF_X12_figure hW  H) (fun x23 t24 H => ?_)
  refine nx_iast (p := (2702, 0)) rfl rfl (Nat.le_of_ble_eq_true rfl) (Nat.le_of_ble_eq_true rfl) rfl H (fun t25 H => ?_)
  exact TB_X12_brokenLine_52 hW   hk9 _ _ _ _ _ _ H
def B_X12_brokenLine_9 : Nat → TS → Nat → (Option Nat) → (Option Nat) → (Option Nat) → Int32 → Option (Int32 × TS)
  | 0 => fun _ _ _ _ _ _ => none
  | n + 1 => fun t v1 v2 v3 v4 v5 => BB_X12_brokenLine_9 (B_X12_brokenLine_9 n) t v1 v2 v3 v4 v5
theorem TB_X12_brokenLine_9 {W : NW} {d : Nat} {Q : Option NV → TS → Prop} {a0 : Nat → Nat → Nat} {e0 : Nat → Nat → Bool} {bc bs : Nat} (hW : W.2.2.2 = mm_fx) : ∀ (n : Nat) (t : TS) (v1 : Nat) (v2 : Option Nat) (v3 : Option Nat) (v4 : Option Nat) (v5 : Int32), wp (B_X12_brokenLine_9 n t v1 v2 v3 v4 v5) (fun r => Q (some (eI r.1)) r.2) → nX W (d + 207) tX12_brokenLine Q a0 e0 9 [some (eR (some (12, 0))), some (eR (some (9, v1))), some (eO 1 v2), some (eO 1 v3), some (eO 1 v4), some (eI v5)] [] t bc bs := by
  intro n
  induction n with
  | zero => intro t v1 v2 v3 v4 v5 H; exact (wp_none H).elim
  | succ n ih =>
    intro t v1 v2 v3 v4 v5 H
    exact TBB_X12_brokenLine_9 hW    ih t v1 v2 v3 v4 v5 H
def F_X12_brokenLine (t : TS) (o1 : Option Nat) (o2 : Option Nat) (o3 : Option Nat) (o4 : Option Nat) : Option (Int32 × TS) := (oc o1 (some ((-1), t)) (fun j21 => (B_X12_brokenLine_9  10000 t j21 o2 o3 o4 0)))
theorem TF_X12_brokenLine {W : NW} {d : Nat} {t : TS} {o1 : Option Nat} {o2 : Option Nat} {o3 : Option Nat} {o4 : Option Nat} {Q : Option NV → TS → Prop} {bc bs : Nat} (hW : W.2.2.2 = mm_fx) (H : wp (F_X12_brokenLine t o1 o2 o3 o4) (fun r => Q (some (eI r.1)) r.2)) : nC W (d + 208) 146 [eR (some (12, 0)), eO 9 o1, eO 1 o2, eO 1 o3, eO 1 o4] t bc bs Q := by
  refine nC_in (d := (d + 207)) (T := tX12_brokenLine) (ls := [some (eR (some (12, 0))), some (eO 9 o1), some (eO 1 o2), some (eO 1 o3), some (eO 1 o4), none]) rfl (Nat.le_of_ble_eq_true rfl) rfl (fun a0 e0 => ?_)
  unfold F_X12_brokenLine at H
  refine nx_ld rfl rfl rfl rfl ?_
  rcases o1 with _ | j21
  · replace H := oc_no H
    refine nx_non0 (c := 9) rfl rfl ?_
    refine nx_int (x := (-1)) rfl rfl ?_
    exact nx_rit rfl rfl H
  replace H := oc_so H
  refine nx_non1 rfl rfl ?_
  refine nx_int (x := 0) rfl rfl ?_
  refine nx_st (ls' := [some (eR (some (12, 0))), some (eR (some (9, j21))), some (eO 1 o2), some (eO 1 o3), some (eO 1 o4), some (eI 0)]) rfl rfl rfl (Nat.le_of_ble_eq_true rfl) rfl ?_
  exact TB_X12_brokenLine_9 hW    10000 _ _ _ _ _ _ H
def B_X12_whyNot_46 (t : TS) (v1 : Nat) (v2 : Option Nat) (v3 : Int32) (v4 : Int32) : Option (Int32 × TS) := (oc v2 none (fun j21 => (gd (tI t 102 j21) (tL t 3202 0) (nxt (tQ t 3202 0 (tI t 102 j21).toNatClampNeg) (fun o22 => (oc o22 none (fun j23 => (Option.bind (F_X5_isOpen t j23 (tI t 1200 0)) (fun r24 => (if ¬ r24 = 0 then (if (tI t 1201 0) ≤ (tI t 503 j23) then (Option.bind (F_X12_ruleToday t 0 (some j21)) (fun r25 => (ob2 (F_X12_brokenLine t r25 (some j21) (some v1) none) (fun x27 t28 => (if x27 < 0 then (if v3 ≤ (tI t28 103 j21) then (if v4 = 2 then (some (0, t28)) else (Option.bind (F_X12_ruleToday t28 1 (some j21)) (fun r29 => (ob2 (F_X12_brokenLine t28 r29 (some j21) none (some v1)) (fun x31 t32 => (if x31 < 0 then (some (0, t32)) else (some (6, t32)))))))) else (some (5, t28))) else (some (4, t28))))))) else (some (3, t))) else (some (2, t))))))))))))
theorem TB_X12_whyNot_46 {W : NW} {d : Nat} {Q : Option NV → TS → Prop} {a0 : Nat → Nat → Nat} {e0 : Nat → Nat → Bool} {bc bs : Nat} (hW : W.2.2.2 = mm_fx) : ∀ (t : TS) (v1 : Nat) (v2 : Option Nat) (v3 : Int32) (v4 : Int32) (v5 : Nat), wp (B_X12_whyNot_46 t v1 v2 v3 v4) (fun r => Q (some (eI r.1)) r.2) → nX W (d + 208) tX12_whyNot Q a0 e0 46 [some (eR (some (12, 0))), some (eR (some (1, v1))), some (eO 1 v2), some (eI v3), some (eI v4), some (eR (some (11, v5))), none] [] t bc bs := by
  intro t v1 v2 v3 v4 v5 H
  unfold B_X12_whyNot_46 at H
  refine nx_ld rfl rfl rfl rfl ?_
  refine nx_getFix rfl rfl rfl (by decide) (by rw [hW]; rfl) rfl ?_
  refine nx_ld rfl rfl rfl rfl ?_
  rcases v2 with _ | j21
  · exact (wp_none (oc_no H)).elim
  replace H := oc_so H
  refine nx_getI rfl rfl rfl (by decide) ?_
  refine nx_aald (c := 3202) (i := 0) rfl rfl (Nat.le_of_ble_eq_true rfl) (Nat.le_of_ble_eq_true rfl) (Nat.le_of_ble_eq_true rfl) rfl H (fun o22 H => ?_)
  refine nx_st (ls' := [some (eR (some (12, 0))), some (eR (some (1, v1))), some (eR (some (1, j21))), some (eI v3), some (eI v4), some (eR (some (11, v5))), some (eO 5 o22)]) rfl rfl rfl (Nat.le_of_ble_eq_true rfl) rfl ?_
  refine nx_ld rfl rfl rfl rfl ?_
  show nX _ _ _ _ _ _ 59 _ _ _ _ _
  refine nx_ld rfl rfl rfl rfl ?_
  refine nx_getI rfl rfl rfl (by decide) ?_
  rcases o22 with _ | j23
  · exact (wp_none (oc_no H)).elim
  replace H := oc_so H
  refine nx_cVI (as := [eI (tI t 1200 0)]) (st' := []) rfl rfl (Nat.le_of_ble_eq_true rfl) rfl rfl (Nat.le_of_ble_eq_true rfl) (c0 := 5) rfl (by decide) H (fun Q H => TF_X5_isOpen hW  H) (fun r24 H => ?_)
  refine nx_if rfl rfl (by rfl) H (fun H => ?_) (fun H => ?_)
  · refine nx_ld rfl rfl rfl rfl ?_
    refine nx_getI rfl rfl rfl (by decide) ?_
    refine nx_ld rfl rfl rfl rfl ?_
    refine nx_getI rfl rfl rfl (by decide) ?_
    refine nx_icmp rfl rfl (by rfl) H (fun H => ?_) (fun H => ?_)
    · refine nx_ld rfl rfl rfl rfl ?_
      refine nx_ld rfl rfl rfl rfl ?_
      refine nx_int (x := 0) rfl rfl ?_
      refine nx_ld rfl rfl rfl rfl ?_
      refine nx_cVO 9 (as := [eI 0, eO 1 (some j21)]) (st' := [eR (some (12, 0))]) rfl rfl (Nat.le_of_ble_eq_true rfl) rfl rfl (Nat.le_of_ble_eq_true rfl) (c0 := 12) rfl (by decide) H (fun Q H => TF_X12_ruleToday hW  H) (fun r25 H => ?_)
      refine nx_ld rfl rfl rfl rfl ?_
      refine nx_ld rfl rfl rfl rfl ?_
      show nX _ _ _ _ _ _ 94 _ _ _ _ _
      refine nx_nul 1 rfl rfl ?_
      refine nx_cVI2 (as := [eO 9 r25, eO 1 (some j21), eO 1 (some v1), eO 1 none]) (st' := []) rfl rfl (Nat.le_of_ble_eq_true rfl) rfl rfl (Nat.le_of_ble_eq_true rfl) (c0 := 12) rfl (by decide) H (fun Q H => TF_X12_brokenLine hW  H) (fun x27 t28 H => ?_)
      refine nx_if rfl rfl (by rfl) H (fun H => ?_) (fun H => ?_)
      · refine nx_ld rfl rfl rfl rfl ?_
        refine nx_getI rfl rfl rfl (by decide) ?_
        refine nx_ld rfl rfl rfl rfl ?_
        refine nx_icmp rfl rfl (by rfl) H (fun H => ?_) (fun H => ?_)
        · refine nx_ld rfl rfl rfl rfl ?_
          refine nx_int (x := 2) rfl rfl ?_
          refine nx_icmp rfl rfl (by rfl) H (fun H => ?_) (fun H => ?_)
          · refine nx_int (x := 0) rfl rfl ?_
            exact nx_rit rfl rfl H
          refine nx_ld rfl rfl rfl rfl ?_
          refine nx_ld rfl rfl rfl rfl ?_
          refine nx_int (x := 1) rfl rfl ?_
          refine nx_ld rfl rfl rfl rfl ?_
          refine nx_cVO 9 (as := [eI 1, eO 1 (some j21)]) (st' := [eR (some (12, 0))]) rfl rfl (Nat.le_of_ble_eq_true rfl) rfl rfl (Nat.le_of_ble_eq_true rfl) (c0 := 12) rfl (by decide) H (fun Q H => TF_X12_ruleToday hW  H) (fun r29 H => ?_)
          refine nx_ld rfl rfl rfl rfl ?_
          refine nx_nul 1 rfl rfl ?_
          show nX _ _ _ _ _ _ 128 _ _ _ _ _
          refine nx_ld rfl rfl rfl rfl ?_
          refine nx_cVI2 (as := [eO 9 r29, eO 1 (some j21), eO 1 none, eO 1 (some v1)]) (st' := []) rfl rfl (Nat.le_of_ble_eq_true rfl) rfl rfl (Nat.le_of_ble_eq_true rfl) (c0 := 12) rfl (by decide) H (fun Q H => TF_X12_brokenLine hW  H) (fun x31 t32 H => ?_)
          refine nx_if rfl rfl (by rfl) H (fun H => ?_) (fun H => ?_)
          · refine nx_int (x := 0) rfl rfl ?_
            exact nx_rit rfl rfl H
          refine nx_int (x := 6) rfl rfl ?_
          refine nx_goto rfl rfl ?_
          exact nx_rit rfl rfl H
        refine nx_int (x := 5) rfl rfl ?_
        exact nx_rit rfl rfl H
      refine nx_int (x := 4) rfl rfl ?_
      exact nx_rit rfl rfl H
    refine nx_int (x := 3) rfl rfl ?_
    exact nx_rit rfl rfl H
  refine nx_int (x := 2) rfl rfl ?_
  exact nx_rit rfl rfl H
def F_X12_whyNot (t : TS) (o1 : Option Nat) (o2 : Option Nat) (x3 : Int32) (x4 : Int32) : Option (Int32 × TS) := (oc o1 none (fun j21 => (Option.bind (F_X1_owning t j21 (tI t 1200 0)) (fun r22 => (oc r22 (some ((-2), t)) (fun j23 => (if x4 = 2 then (B_X12_whyNot_46  t j21 o2 x3 x4) else (nxt (tR t 1101 j23) (fun o24 => (if (o24 : Option Nat) = o2 then (some (1, t)) else (Option.bind (F_X12_isLentElsewhere t (some j21) o2 x4) (fun r25 => (if r25 = 0 then (B_X12_whyNot_46  t j21 o2 x3 x4) else (some (1, t)))))))))))))))
theorem TF_X12_whyNot {W : NW} {d : Nat} {t : TS} {o1 : Option Nat} {o2 : Option Nat} {x3 : Int32} {x4 : Int32} {Q : Option NV → TS → Prop} {bc bs : Nat} (hW : W.2.2.2 = mm_fx) (H : wp (F_X12_whyNot t o1 o2 x3 x4) (fun r => Q (some (eI r.1)) r.2)) : nC W (d + 209) 133 [eR (some (12, 0)), eO 1 o1, eO 1 o2, eI x3, eI x4] t bc bs Q := by
  refine nC_in (d := (d + 208)) (T := tX12_whyNot) (ls := [some (eR (some (12, 0))), some (eO 1 o1), some (eO 1 o2), some (eI x3), some (eI x4), none, none]) rfl (Nat.le_of_ble_eq_true rfl) rfl (fun a0 e0 => ?_)
  unfold F_X12_whyNot at H
  refine nx_ld rfl rfl rfl rfl ?_
  refine nx_ld rfl rfl rfl rfl ?_
  refine nx_getI rfl rfl rfl (by decide) ?_
  rcases o1 with _ | j21
  · exact (wp_none (oc_no H)).elim
  replace H := oc_so H
  refine nx_cVO 11 (as := [eI (tI t 1200 0)]) (st' := []) rfl rfl (Nat.le_of_ble_eq_true rfl) rfl rfl (Nat.le_of_ble_eq_true rfl) (c0 := 1) rfl (by decide) H (fun Q H => TF_X1_owning hW  H) (fun r22 H => ?_)
  refine nx_st (ls' := [some (eR (some (12, 0))), some (eR (some (1, j21))), some (eO 1 o2), some (eI x3), some (eI x4), some (eO 11 r22), none]) rfl rfl rfl (Nat.le_of_ble_eq_true rfl) rfl ?_
  refine nx_ld rfl rfl rfl rfl ?_
  rcases r22 with _ | j23
  · replace H := oc_no H
    refine nx_non0 (c := 11) rfl rfl ?_
    refine nx_int (x := (-2)) rfl rfl ?_
    exact nx_rit rfl rfl H
  replace H := oc_so H
  refine nx_non1 rfl rfl ?_
  refine nx_ld rfl rfl rfl rfl ?_
  refine nx_int (x := 2) rfl rfl ?_
  refine nx_icmp rfl rfl (by rfl) H (fun H => ?_) (fun H => ?_)
  · exact TB_X12_whyNot_46 hW    _ _ _ _ _ _ H
  refine nx_ld rfl rfl rfl rfl ?_
  refine nx_getR rfl rfl rfl (by decide) rfl H (fun o24 H => ?_)
  refine nx_ld rfl rfl rfl rfl ?_
  refine nx_aeq (c := 1) (o1 := o24) (o2 := o2) rfl rfl (by decide) H (fun H => ?_) (fun H => ?_)
  · refine nx_int (x := 1) rfl rfl ?_
    exact nx_rit rfl rfl H
  refine nx_ld rfl rfl rfl rfl ?_
  refine nx_ld rfl rfl rfl rfl ?_
  refine nx_ld rfl rfl rfl rfl ?_
  refine nx_ld rfl rfl rfl rfl ?_
  refine nx_cVI (as := [eO 1 (some j21), eO 1 o2, eI x4]) (st' := []) rfl rfl (Nat.le_of_ble_eq_true rfl) rfl rfl (Nat.le_of_ble_eq_true rfl) (c0 := 12) rfl (by decide) H (fun Q H => TF_X12_isLentElsewhere hW  H) (fun r25 H => ?_)
  refine nx_if rfl rfl (by rfl) H (fun H => ?_) (fun H => ?_)
  · exact TB_X12_whyNot_46 hW    _ _ _ _ _ _ H
  refine nx_int (x := 1) rfl rfl ?_
  exact nx_rit rfl rfl H
def B_X12_why_55 (t : TS) (s0 : Int32) (s1 : Int32) (s2 : Nat) (s3 : Nat) : Option (Int32 × TS) := (ob2 (F_X12_whyNot t (some s3) (some s2) s1 s0) (fun x22 t23 => (some (x22, t23))))
theorem TB_X12_why_55 {W : NW} {d : Nat} {Q : Option NV → TS → Prop} {a0 : Nat → Nat → Nat} {e0 : Nat → Nat → Bool} {bc bs : Nat} (hW : W.2.2.2 = mm_fx) : ∀ (t : TS) (v1 : Int32) (v2 : Int32) (v3 : Int32) (v4 : Nat) (v5 : Nat) (s0 : Int32) (s1 : Int32) (s2 : Nat) (s3 : Nat), wp (B_X12_why_55 t s0 s1 s2 s3) (fun r => Q (some (eI r.1)) r.2) → nX W (d + 209) tX12_why Q a0 e0 55 [some (eR (some (12, 0))), some (eI v1), some (eI v2), some (eI v3), some (eR (some (1, v4))), some (eR (some (1, v5)))] [eI s0, eI s1, eR (some (1, s2)), eR (some (1, s3)), eR (some (12, 0))] t bc bs := by
  intro t v1 v2 v3 v4 v5 s0 s1 s2 s3 H
  unfold B_X12_why_55 at H
  refine nx_cVI2 (as := [eO 1 (some s3), eO 1 (some s2), eI s1, eI s0]) (st' := []) rfl rfl (Nat.le_of_ble_eq_true rfl) rfl rfl (Nat.le_of_ble_eq_true rfl) (c0 := 12) rfl (by decide) H (fun Q H => TF_X12_whyNot hW  H) (fun x22 t23 H => ?_)
  exact nx_rit rfl rfl H
def F_X12_why (t : TS) (x1 : Int32) (x2 : Int32) (x3 : Int32) : Option (Int32 × TS) := (Option.bind (F_X12_playerAt t x1) (fun r21 => (Option.bind (F_X12_clubAt t x2) (fun r22 => (oc r21 (some ((-1), t)) (fun j23 => (oc r22 (some ((-1), t)) (fun j24 => (Option.bind (F_X12_within t x3 0 1) (fun r25 => (if ¬ r25 = 0 then (gd (0 : Int32) (tL t 3208 0) (if ¬ x3 = 0 then (B_X12_why_55  t 1 (tA t 3208 0 (0 : Int32).toNatClampNeg) j24 j23) else (B_X12_why_55  t 0 (tA t 3208 0 (0 : Int32).toNatClampNeg) j24 j23))) else (some ((-1), t)))))))))))))
theorem TF_X12_why {W : NW} {d : Nat} {t : TS} {x1 : Int32} {x2 : Int32} {x3 : Int32} {Q : Option NV → TS → Prop} {bc bs : Nat} (hW : W.2.2.2 = mm_fx) (H : wp (F_X12_why t x1 x2 x3) (fun r => Q (some (eI r.1)) r.2)) : nC W (d + 210) 80 [eR (some (12, 0)), eI x1, eI x2, eI x3] t bc bs Q := by
  refine nC_in (d := (d + 209)) (T := tX12_why) (ls := [some (eR (some (12, 0))), some (eI x1), some (eI x2), some (eI x3), none, none]) rfl (Nat.le_of_ble_eq_true rfl) rfl (fun a0 e0 => ?_)
  unfold F_X12_why at H
  refine nx_ld rfl rfl rfl rfl ?_
  refine nx_ld rfl rfl rfl rfl ?_
  refine nx_cVO 1 (as := [eI x1]) (st' := []) rfl rfl (Nat.le_of_ble_eq_true rfl) rfl rfl (Nat.le_of_ble_eq_true rfl) (c0 := 12) rfl (by decide) H (fun Q H => TF_X12_playerAt hW  H) (fun r21 H => ?_)
  refine nx_st (ls' := [some (eR (some (12, 0))), some (eI x1), some (eI x2), some (eI x3), some (eO 1 r21), none]) rfl rfl rfl (Nat.le_of_ble_eq_true rfl) rfl ?_
  refine nx_ld rfl rfl rfl rfl ?_
  refine nx_ld rfl rfl rfl rfl ?_
  refine nx_cVO 1 (as := [eI x2]) (st' := []) rfl rfl (Nat.le_of_ble_eq_true rfl) rfl rfl (Nat.le_of_ble_eq_true rfl) (c0 := 12) rfl (by decide) H (fun Q H => TF_X12_clubAt hW  H) (fun r22 H => ?_)
  show nX _ _ _ _ _ _ 12 _ _ _ _ _
  refine nx_st (ls' := [some (eR (some (12, 0))), some (eI x1), some (eI x2), some (eI x3), some (eO 1 r21), some (eO 1 r22)]) rfl rfl rfl (Nat.le_of_ble_eq_true rfl) rfl ?_
  refine nx_ld rfl rfl rfl rfl ?_
  rcases r21 with _ | j23
  · replace H := oc_no H
    refine nx_null0 (c := 1) rfl rfl ?_
    refine nx_int (x := (-1)) rfl rfl ?_
    exact nx_rit rfl rfl H
  replace H := oc_so H
  refine nx_null1 rfl rfl ?_
  refine nx_ld rfl rfl rfl rfl ?_
  rcases r22 with _ | j24
  · replace H := oc_no H
    refine nx_null0 (c := 1) rfl rfl ?_
    refine nx_int (x := (-1)) rfl rfl ?_
    exact nx_rit rfl rfl H
  replace H := oc_so H
  refine nx_null1 rfl rfl ?_
  refine nx_ld rfl rfl rfl rfl ?_
  refine nx_int (x := 0) rfl rfl ?_
  refine nx_int (x := 1) rfl rfl ?_
  refine nx_cSI (as := [eI x3, eI 0, eI 1]) (st' := []) rfl rfl (Nat.le_of_ble_eq_true rfl) rfl rfl (Nat.le_of_ble_eq_true rfl) H (fun Q H => TF_X12_within hW  H) (fun r25 H => ?_)
  refine nx_if rfl rfl (by rfl) H (fun H => ?_) (fun H => ?_)
  · refine nx_ld rfl rfl rfl rfl ?_
    refine nx_ld rfl rfl rfl rfl ?_
    refine nx_ld rfl rfl rfl rfl ?_
    refine nx_ld rfl rfl rfl rfl ?_
    refine nx_getFix rfl rfl rfl (by decide) (by rw [hW]; rfl) rfl ?_
    refine nx_int (x := 0) rfl rfl ?_
    refine nx_iald (p := (3208, 0)) rfl rfl (Nat.le_of_ble_eq_true rfl) (Nat.le_of_ble_eq_true rfl) rfl H (fun H => ?_)
    show nX _ _ _ _ _ _ 46 _ _ _ _ _
    refine nx_ld rfl rfl rfl rfl ?_
    refine nx_if rfl rfl (by rfl) H (fun H => ?_) (fun H => ?_)
    · refine nx_int (x := 1) rfl rfl ?_
      exact TB_X12_why_55 hW    _ _ _ _ _ _ _ _ _ _ H
    refine nx_int (x := 0) rfl rfl ?_
    refine nx_goto rfl rfl ?_
    exact TB_X12_why_55 hW    _ _ _ _ _ _ _ _ _ _ H
  refine nx_int (x := (-1)) rfl rfl ?_
  exact nx_rit rfl rfl H
def F_X12_refusal (t : TS) (x1 : Int32) : Option Int32 := (if 0 ≤ x1 then (some (((-20) - x1))) else (some (x1)))
theorem TF_X12_refusal {W : NW} {d : Nat} {t : TS} {x1 : Int32} {Q : Option NV → TS → Prop} {bc bs : Nat} (hW : W.2.2.2 = mm_fx) (H : wp (F_X12_refusal t x1) (fun r => Q (some (eI r)) t)) : nC W (d + 1) 131 [eI x1] t bc bs Q := by
  refine nC_in (d := d) (T := tX12_refusal) (ls := [some (eI x1)]) rfl (Nat.le_of_ble_eq_true rfl) rfl (fun a0 e0 => ?_)
  unfold F_X12_refusal at H
  refine nx_ld rfl rfl rfl rfl ?_
  refine nx_if rfl rfl (by rfl) H (fun H => ?_) (fun H => ?_)
  · refine nx_int (x := (-20)) rfl rfl ?_
    refine nx_ld rfl rfl rfl rfl ?_
    refine nx_ii rfl rfl ?_
    exact nx_ri rfl rfl H
  refine nx_ld rfl rfl rfl rfl ?_
  refine nx_goto rfl rfl ?_
  exact nx_ri rfl rfl H
def B_X12_movesOrSpansAreFull_20 (t : TS) : Option Int32 := (some (1))
theorem TB_X12_movesOrSpansAreFull_20 {W : NW} {d : Nat} {Q : Option NV → TS → Prop} {a0 : Nat → Nat → Nat} {e0 : Nat → Nat → Bool} {t : TS} {bc bs : Nat} (hW : W.2.2.2 = mm_fx) : wp (B_X12_movesOrSpansAreFull_20 t) (fun r => Q (some (eI r)) t) → nX W d tX12_movesOrSpansAreFull Q a0 e0 20 [some (eR (some (12, 0)))] [] t bc bs := by
  intro  H
  unfold B_X12_movesOrSpansAreFull_20 at H
  refine nx_int (x := 1) rfl rfl ?_
  refine nx_goto rfl rfl ?_
  exact nx_rzl rfl rfl (by decide) H
def F_X12_movesOrSpansAreFull (t : TS) : Option Int32 := (if 200 ≤ (tI t 1207 0) then (B_X12_movesOrSpansAreFull_20  t) else (if (tI t 1205 0) < 600 then (some (0)) else (B_X12_movesOrSpansAreFull_20  t)))
theorem TF_X12_movesOrSpansAreFull {W : NW} {d : Nat} {t : TS} {Q : Option NV → TS → Prop} {bc bs : Nat} (hW : W.2.2.2 = mm_fx) (H : wp (F_X12_movesOrSpansAreFull t) (fun r => Q (some (eI r)) t)) : nC W (d + 1) 132 [eR (some (12, 0))] t bc bs Q := by
  refine nC_in (d := d) (T := tX12_movesOrSpansAreFull) (ls := [some (eR (some (12, 0)))]) rfl (Nat.le_of_ble_eq_true rfl) rfl (fun a0 e0 => ?_)
  unfold F_X12_movesOrSpansAreFull at H
  refine nx_ld rfl rfl rfl rfl ?_
  refine nx_getI rfl rfl rfl (by decide) ?_
  refine nx_int (x := 200) rfl rfl ?_
  refine nx_icmp rfl rfl (by rfl) H (fun H => ?_) (fun H => ?_)
  · exact TB_X12_movesOrSpansAreFull_20 hW    H
  refine nx_ld rfl rfl rfl rfl ?_
  refine nx_getI rfl rfl rfl (by decide) ?_
  refine nx_int (x := 600) rfl rfl ?_
  refine nx_icmp rfl rfl (by rfl) H (fun H => ?_) (fun H => ?_)
  · refine nx_int (x := 0) rfl rfl ?_
    exact nx_rzl rfl rfl (by decide) H
  exact TB_X12_movesOrSpansAreFull_20 hW    H
def F_X12_hundredths (t : TS) (x1 : Int32) (x2 : Int32) : Option Int32 := (some ((((x1 * x2) + 99) / 100)))
theorem TF_X12_hundredths {W : NW} {d : Nat} {t : TS} {x1 : Int32} {x2 : Int32} {Q : Option NV → TS → Prop} {bc bs : Nat} (hW : W.2.2.2 = mm_fx) (H : wp (F_X12_hundredths t x1 x2) (fun r => Q (some (eI r)) t)) : nC W (d + 1) 138 [eI x1, eI x2] t bc bs Q := by
  refine nC_in (d := d) (T := tX12_hundredths) (ls := [some (eI x1), some (eI x2)]) rfl (Nat.le_of_ble_eq_true rfl) rfl (fun a0 e0 => ?_)
  unfold F_X12_hundredths at H
  refine nx_ld rfl rfl rfl rfl ?_
  refine nx_ld rfl rfl rfl rfl ?_
  refine nx_ii rfl rfl ?_
  refine nx_int (x := 99) rfl rfl ?_
  refine nx_ii rfl rfl ?_
  refine nx_int (x := 100) rfl rfl ?_
  refine nx_idivL rfl rfl (by decide) ?_
  show nX _ _ _ _ _ _ 9 _ _ _ _ _
  exact nx_ri rfl rfl H
def F_X12_payKept (t : TS) (o1 : Option Nat) (o2 : Option Nat) : Option TS := (oc o2 (some t) (fun j21 => (oc o1 none (fun j22 => (if (tI t 604 j21) < (tI t 604 j22) then (Option.bind (F_X12_hundredths t (tI t 610 j21) ((tI t 604 j22) - (tI t 604 j21))) (fun r23 => (nxt (uI t 611 j22 r23) (fun t24 => (nxt (tR t24 602 j21) (fun o25 => (nxt (uR t24 612 j22 o25) (fun t26 => (nxt (tR t26 612 j22) (fun o27 => (oc o27 none (fun j28 => (nxt (uI t26 103 j28 ((tI t26 103 j28) + (tI t26 611 j22))) (fun t29 => (some t29))))))))))))))) else (some t))))))
theorem TF_X12_payKept {W : NW} {d : Nat} {t : TS} {o1 : Option Nat} {o2 : Option Nat} {Q : Option NV → TS → Prop} {bc bs : Nat} (hW : W.2.2.2 = mm_fx) (H : wp (F_X12_payKept t o1 o2) (fun r => Q none r)) : nC W (d + 2) 139 [eO 6 o1, eO 6 o2] t bc bs Q := by
  refine nC_in (d := (d + 1)) (T := tX12_payKept) (ls := [some (eO 6 o1), some (eO 6 o2)]) rfl (Nat.le_of_ble_eq_true rfl) rfl (fun a0 e0 => ?_)
  unfold F_X12_payKept at H
  refine nx_ld rfl rfl rfl rfl ?_
  rcases o2 with _ | j21
  · replace H := oc_no H
    refine nx_null0 (c := 6) rfl rfl ?_
    exact nx_rv rfl rfl H
  replace H := oc_so H
  refine nx_null1 rfl rfl ?_
  refine nx_ld rfl rfl rfl rfl ?_
  rcases o1 with _ | j22
  · exact (wp_none (oc_no H)).elim
  replace H := oc_so H
  refine nx_getI rfl rfl rfl (by decide) ?_
  refine nx_ld rfl rfl rfl rfl ?_
  refine nx_getI rfl rfl rfl (by decide) ?_
  refine nx_icmp rfl rfl (by rfl) H (fun H => ?_) (fun H => ?_)
  · refine nx_ld rfl rfl rfl rfl ?_
    refine nx_ld rfl rfl rfl rfl ?_
    refine nx_getI rfl rfl rfl (by decide) ?_
    refine nx_ld rfl rfl rfl rfl ?_
    refine nx_getI rfl rfl rfl (by decide) ?_
    refine nx_ld rfl rfl rfl rfl ?_
    refine nx_getI rfl rfl rfl (by decide) ?_
    show nX _ _ _ _ _ _ 29 _ _ _ _ _
    refine nx_ii rfl rfl ?_
    refine nx_cSI (as := [eI (tI t 610 j21), eI ((tI t 604 j22) - (tI t 604 j21))]) (st' := [eR (some (6, j22))]) rfl rfl (Nat.le_of_ble_eq_true rfl) rfl rfl (Nat.le_of_ble_eq_true rfl) H (fun Q H => TF_X12_hundredths hW  H) (fun r23 H => ?_)
    refine nx_putI rfl rfl rfl (by decide) H (fun t24 H => ?_)
    refine nx_ld rfl rfl rfl rfl ?_
    refine nx_ld rfl rfl rfl rfl ?_
    refine nx_getR rfl rfl rfl (by decide) rfl H (fun o25 H => ?_)
    refine nx_putR (f := 612) (o := o25) rfl rfl rfl (by decide) (by rw [hW]; rfl) rfl (by decide) H (fun t26 H => ?_)
    refine nx_ld rfl rfl rfl rfl ?_
    show nX _ _ _ _ _ _ 45 _ _ _ _ _
    refine nx_getR rfl rfl rfl (by decide) rfl H (fun o27 H => ?_)
    refine nx_dup rfl rfl (Nat.ne_of_beq_eq_false rfl) ?_
    rcases o27 with _ | j28
    · exact (wp_none (oc_no H)).elim
    replace H := oc_so H
    refine nx_getI rfl rfl rfl (by decide) ?_
    refine nx_ld rfl rfl rfl rfl ?_
    refine nx_getI rfl rfl rfl (by decide) ?_
    refine nx_ii rfl rfl ?_
    refine nx_putI rfl rfl rfl (by decide) H (fun t29 H => ?_)
    exact nx_rv rfl rfl H
  exact nx_rv rfl rfl H
def BB_X12_payShares_96 (k96 : TS → Nat → Int32 → Option TS) (t : TS) (v1 : Nat) (v3 : Int32) : Option TS := (if (tI t 1204 0) ≤ v3 then (some t) else (gd v3 (tL t 3203 0) (nxt (tQ t 3203 0 v3.toNatClampNeg) (fun o21 => (oc o21 none (fun j22 => (nxt (tR t 614 v1) (fun o23 => (oc o23 none (fun j24 => (gd v3 (tL t 2614 j24) (nxt (uI t 103 j22 ((tI t 103 j22) + (tA t 2614 j24 v3.toNatClampNeg))) (fun t25 => (k96 t25 v1 (v3 + 1)))))))))))))))
theorem TBB_X12_payShares_96 {W : NW} {d : Nat} {Q : Option NV → TS → Prop} {a0 : Nat → Nat → Nat} {e0 : Nat → Nat → Bool} {k96 : TS → Nat → Int32 → Option TS} {bc bs : Nat} (hW : W.2.2.2 = mm_fx) (hk96 : ∀ (b' s' : Nat) (_ : bc ≤ b') (_ : bs ≤ s') (t : TS) (v1 : Nat) (v2 : Int32) (v3 : Int32), wp (k96 t v1 v3) (fun r => Q none r) → nX W (d + 2) tX12_payShares Q a0 e0 96 [some (eR (some (12, 0))), some (eR (some (6, v1))), some (eI v2), some (eI v3)] [] t (b' + 0) (s' + 0)) : ∀ (t : TS) (v1 : Nat) (v2 : Int32) (v3 : Int32), wp (BB_X12_payShares_96 k96 t v1 v3) (fun r => Q none r) → nX W (d + 2) tX12_payShares Q a0 e0 96 [some (eR (some (12, 0))), some (eR (some (6, v1))), some (eI v2), some (eI v3)] [] t (bc) (bs) := by
  intro t v1 v2 v3 H
  unfold BB_X12_payShares_96 at H
  refine nx_ld rfl rfl rfl rfl ?_
  refine nx_ld rfl rfl rfl rfl ?_
  refine nx_getI rfl rfl rfl (by decide) ?_
  refine nx_icmp rfl rfl (by rfl) H (fun H => ?_) (fun H => ?_)
  · exact nx_rv rfl rfl H
  refine nx_ld rfl rfl rfl rfl ?_
  refine nx_getFix rfl rfl rfl (by decide) (by rw [hW]; rfl) rfl ?_
  refine nx_ld rfl rfl rfl rfl ?_
  refine nx_aald (c := 3203) (i := 0) rfl rfl (Nat.le_of_ble_eq_true rfl) (Nat.le_of_ble_eq_true rfl) (Nat.le_of_ble_eq_true rfl) rfl H (fun o21 H => ?_)
  refine nx_dup rfl rfl (Nat.ne_of_beq_eq_false rfl) ?_
  rcases o21 with _ | j22
  · exact (wp_none (oc_no H)).elim
  replace H := oc_so H
  refine nx_getI rfl rfl rfl (by decide) ?_
  refine nx_ld rfl rfl rfl rfl ?_
  show nX _ _ _ _ _ _ 115 _ _ _ _ _
  refine nx_getR rfl rfl rfl (by decide) rfl H (fun o23 H => ?_)
  refine nx_ld rfl rfl rfl rfl ?_
  rcases o23 with _ | j24
  · exact (wp_none (oc_no H)).elim
  replace H := oc_so H
  refine nx_iald (p := (2614, j24)) rfl rfl (Nat.le_of_ble_eq_true rfl) (Nat.le_of_ble_eq_true rfl) rfl H (fun H => ?_)
  refine nx_ii rfl rfl ?_
  refine nx_putI rfl rfl rfl (by decide) H (fun t25 H => ?_)
  refine nx_iinc2 1 (ls' := [some (eR (some (12, 0))), some (eR (some (6, v1))), some (eI v2), some (eI (v3 + 1))]) rfl rfl rfl rfl rfl ?_
  refine nx_goto rfl rfl ?_
  refine nx_eq (bc' := (bc) + 0) (bs' := (bs) + 0) (by omega) (by omega) ?_
  exact hk96 (bc) (bs) (by omega) (by omega) _ _ _ _ H
def B_X12_payShares_96 : Nat → TS → Nat → Int32 → Option TS
  | 0 => fun _ _ _ => none
  | n + 1 => fun t v1 v3 => BB_X12_payShares_96 (B_X12_payShares_96 n) t v1 v3
theorem TB_X12_payShares_96 {W : NW} {d : Nat} {Q : Option NV → TS → Prop} {a0 : Nat → Nat → Nat} {e0 : Nat → Nat → Bool} {bc bs : Nat} (hW : W.2.2.2 = mm_fx) : ∀ (n : Nat) (b0 s0 : Nat) (_ : bc ≤ b0) (_ : bs ≤ s0) (t : TS) (v1 : Nat) (v2 : Int32) (v3 : Int32), wp (B_X12_payShares_96 n t v1 v3) (fun r => Q none r) → nX W (d + 2) tX12_payShares Q a0 e0 96 [some (eR (some (12, 0))), some (eR (some (6, v1))), some (eI v2), some (eI v3)] [] t (b0 + 0 * n + 0) (s0 + 0 * n + 0) := by
  intro n
  induction n with
  | zero => intro b0 s0 g1 g2 t v1 v2 v3 H; exact (wp_none H).elim
  | succ n ih =>
    intro b0 s0 g1 g2 t v1 v2 v3 H
    refine nx_eq (bc' := (b0 + 0 * n) + 0) (bs' := (s0 + 0 * n) + 0) (by omega) (by omega) ?_
    refine TBB_X12_payShares_96 (bc := b0 + 0 * n) (bs := s0 + 0 * n) hW    (fun b' s' g3 g4 => ?_) t v1 v2 v3 H
    intro t v1 v2 v3 H
    refine nx_eq (bc' := (b' - 0 * n) + 0 * n + 0) (bs' := (s' - 0 * n) + 0 * n + 0) (by omega) (by omega) ?_
    exact ih (b' - 0 * n) (s' - 0 * n) (by omega) (by omega) t v1 v2 v3 H
def B_X12_payShares_48 (t : TS) (v1 : Nat) (v2 : Int32) : Option TS := (if ¬ v2 = 0 then (gn (tI t 1204 0) 150 (gE (tE t 2614 v1) (nxt (uN t 2614 v1 (tI t 1204 0).toNatClampNeg) (fun t21 => (nxt (uR t21 614 v1 (some v1)) (fun t22 => (Option.bind (F_X12_hundredths t22 5 (tI t22 604 v1)) (fun r23 => (nxt (uI t22 613 v1 r23) (fun t24 => (nxt (tR t24 614 v1) (fun o25 => (oc o25 none (fun j26 => (Option.bind (F_X12_addParts t24 (tI t24 613 v1) (3209, 0) (tI t24 1204 0) (2614, j26)) (fun r27 => (B_X12_payShares_96  10000 r27 v1 0))))))))))))))))) else (some t))
theorem TB_X12_payShares_48 {W : NW} {d : Nat} {Q : Option NV → TS → Prop} {a0 : Nat → Nat → Nat} {e0 : Nat → Nat → Bool} {bc bs : Nat} (hW : W.2.2.2 = mm_fx) : ∀ (t : TS) (v1 : Nat) (v2 : Int32) (v3 : Int32), wp (B_X12_payShares_48 t v1 v2) (fun r => Q none r) → nX W (d + 2) tX12_payShares Q a0 e0 48 [some (eR (some (12, 0))), some (eR (some (6, v1))), some (eI v2), some (eI v3)] [] t (bc + 1) (bs + 150) := by
  intro t v1 v2 v3 H
  unfold B_X12_payShares_48 at H
  refine nx_ld rfl rfl rfl rfl ?_
  refine nx_if rfl rfl (by rfl) H (fun H => ?_) (fun H => ?_)
  · refine nx_ld rfl rfl rfl rfl ?_
    refine nx_ld rfl rfl rfl rfl ?_
    refine nx_getI rfl rfl rfl (by decide) ?_
    refine nx_newa 2614 v1 150 rfl rfl (Nat.le_of_ble_eq_true rfl) (Nat.le_of_ble_eq_true rfl) rfl (Nat.le_of_ble_eq_true rfl) (by omega) (by omega) H (fun t21 H => ?_)
    refine nx_putR (f := 614) (o := (some v1)) rfl rfl rfl (by decide) (by rw [hW]; rfl) rfl (by decide) H (fun t22 H => ?_)
    refine nx_ld rfl rfl rfl rfl ?_
    refine nx_int (x := 5) rfl rfl ?_
    show nX _ _ _ _ _ _ 65 _ _ _ _ _
    refine nx_ld rfl rfl rfl rfl ?_
    refine nx_getI rfl rfl rfl (by decide) ?_
    refine nx_cSI (as := [eI 5, eI (tI t22 604 v1)]) (st' := [eR (some (6, v1))]) rfl rfl (Nat.le_of_ble_eq_true rfl) rfl rfl (Nat.le_of_ble_eq_true rfl) H (fun Q H => TF_X12_hundredths hW  H) (fun r23 H => ?_)
    refine nx_putI rfl rfl rfl (by decide) H (fun t24 H => ?_)
    refine nx_ld rfl rfl rfl rfl ?_
    refine nx_getI rfl rfl rfl (by decide) ?_
    refine nx_ld rfl rfl rfl rfl ?_
    refine nx_getFix rfl rfl rfl (by decide) (by rw [hW]; rfl) rfl ?_
    show nX _ _ _ _ _ _ 83 _ _ _ _ _
    refine nx_ld rfl rfl rfl rfl ?_
    refine nx_getI rfl rfl rfl (by decide) ?_
    refine nx_ld rfl rfl rfl rfl ?_
    refine nx_getR rfl rfl rfl (by decide) rfl H (fun o25 H => ?_)
    rcases o25 with _ | j26
    · exact (wp_none (oc_no H)).elim
    replace H := oc_so H
    refine nx_cSVt (as := [eI (tI t24 613 v1), eR (some (3209, 0)), eI (tI t24 1204 0), eR (some (2614, j26))]) (st' := []) rfl rfl (Nat.le_of_ble_eq_true rfl) rfl rfl (Nat.le_of_ble_eq_true rfl) H (fun Q H => TF_X12_addParts hW (Nat.le_of_ble_eq_true rfl) (Nat.le_of_ble_eq_true rfl) rfl (Nat.le_of_ble_eq_true rfl) (Nat.le_of_ble_eq_true rfl) rfl H) (fun r27 H => ?_)
    refine nx_int (x := 0) rfl rfl ?_
    refine nx_st (ls' := [some (eR (some (12, 0))), some (eR (some (6, v1))), some (eI v2), some (eI 0)]) rfl rfl rfl (Nat.le_of_ble_eq_true rfl) rfl ?_
    exact TB_X12_payShares_96 hW    10000 _ _ (Nat.le_refl _) (Nat.le_refl _) _ _ _ _ H
  exact nx_rv rfl rfl H
def BB_X12_payShares_25 (k25 : TS → Nat → Int32 → Int32 → Option TS) (t : TS) (v1 : Nat) (v2 : Int32) (v3 : Int32) : Option TS := (if (tI t 1204 0) ≤ v3 then (B_X12_payShares_48  t v1 v2) else (gd v3 (tL t 3209 0) (k25 t v1 (v2 + (tA t 3209 0 v3.toNatClampNeg)) (v3 + 1))))
theorem TBB_X12_payShares_25 {W : NW} {d : Nat} {Q : Option NV → TS → Prop} {a0 : Nat → Nat → Nat} {e0 : Nat → Nat → Bool} {k25 : TS → Nat → Int32 → Int32 → Option TS} {bc bs : Nat} (hW : W.2.2.2 = mm_fx) (hk25 : ∀ (b' s' : Nat) (_ : bc ≤ b') (_ : bs ≤ s') (t : TS) (v1 : Nat) (v2 : Int32) (v3 : Int32), wp (k25 t v1 v2 v3) (fun r => Q none r) → nX W (d + 2) tX12_payShares Q a0 e0 25 [some (eR (some (12, 0))), some (eR (some (6, v1))), some (eI v2), some (eI v3)] [] t (b' + 1) (s' + 150)) : ∀ (t : TS) (v1 : Nat) (v2 : Int32) (v3 : Int32), wp (BB_X12_payShares_25 k25 t v1 v2 v3) (fun r => Q none r) → nX W (d + 2) tX12_payShares Q a0 e0 25 [some (eR (some (12, 0))), some (eR (some (6, v1))), some (eI v2), some (eI v3)] [] t (bc + 1) (bs + 150) := by
  intro t v1 v2 v3 H
  unfold BB_X12_payShares_25 at H
  refine nx_ld rfl rfl rfl rfl ?_
  refine nx_ld rfl rfl rfl rfl ?_
  refine nx_getI rfl rfl rfl (by decide) ?_
  refine nx_icmp rfl rfl (by rfl) H (fun H => ?_) (fun H => ?_)
  · refine nx_eq (bc' := (bc) + 1) (bs' := (bs) + 150) (by omega) (by omega) ?_
    exact TB_X12_payShares_48 hW    _ _ _ _ H
  refine nx_ld rfl rfl rfl rfl ?_
  refine nx_ld rfl rfl rfl rfl ?_
  refine nx_getFix rfl rfl rfl (by decide) (by rw [hW]; rfl) rfl ?_
  refine nx_ld rfl rfl rfl rfl ?_
  refine nx_iald (p := (3209, 0)) rfl rfl (Nat.le_of_ble_eq_true rfl) (Nat.le_of_ble_eq_true rfl) rfl H (fun H => ?_)
  refine nx_ii rfl rfl ?_
  refine nx_st (ls' := [some (eR (some (12, 0))), some (eR (some (6, v1))), some (eI (v2 + (tA t 3209 0 v3.toNatClampNeg))), some (eI v3)]) rfl rfl rfl (Nat.le_of_ble_eq_true rfl) rfl ?_
  show nX _ _ _ _ _ _ 42 _ _ _ _ _
  refine nx_iinc2 1 (ls' := [some (eR (some (12, 0))), some (eR (some (6, v1))), some (eI (v2 + (tA t 3209 0 v3.toNatClampNeg))), some (eI (v3 + 1))]) rfl rfl rfl rfl rfl ?_
  refine nx_goto rfl rfl ?_
  refine nx_eq (bc' := (bc) + 1) (bs' := (bs) + 150) (by omega) (by omega) ?_
  exact hk25 (bc) (bs) (by omega) (by omega) _ _ _ _ H
def B_X12_payShares_25 : Nat → TS → Nat → Int32 → Int32 → Option TS
  | 0 => fun _ _ _ _ => none
  | n + 1 => fun t v1 v2 v3 => BB_X12_payShares_25 (B_X12_payShares_25 n) t v1 v2 v3
theorem TB_X12_payShares_25 {W : NW} {d : Nat} {Q : Option NV → TS → Prop} {a0 : Nat → Nat → Nat} {e0 : Nat → Nat → Bool} {bc bs : Nat} (hW : W.2.2.2 = mm_fx) : ∀ (n : Nat) (b0 s0 : Nat) (_ : bc ≤ b0) (_ : bs ≤ s0) (t : TS) (v1 : Nat) (v2 : Int32) (v3 : Int32), wp (B_X12_payShares_25 n t v1 v2 v3) (fun r => Q none r) → nX W (d + 2) tX12_payShares Q a0 e0 25 [some (eR (some (12, 0))), some (eR (some (6, v1))), some (eI v2), some (eI v3)] [] t (b0 + 0 * n + 1) (s0 + 0 * n + 150) := by
  intro n
  induction n with
  | zero => intro b0 s0 g1 g2 t v1 v2 v3 H; exact (wp_none H).elim
  | succ n ih =>
    intro b0 s0 g1 g2 t v1 v2 v3 H
    refine nx_eq (bc' := (b0 + 0 * n) + 1) (bs' := (s0 + 0 * n) + 150) (by omega) (by omega) ?_
    refine TBB_X12_payShares_25 (bc := b0 + 0 * n) (bs := s0 + 0 * n) hW    (fun b' s' g3 g4 => ?_) t v1 v2 v3 H
    intro t v1 v2 v3 H
    refine nx_eq (bc' := (b' - 0 * n) + 0 * n + 1) (bs' := (s' - 0 * n) + 0 * n + 150) (by omega) (by omega) ?_
    exact ih (b' - 0 * n) (s' - 0 * n) (by omega) (by omega) t v1 v2 v3 H
def F_X12_payShares (t : TS) (o1 : Option Nat) : Option TS := (oc o1 none (fun j21 => (nxt (tR t 601 j21) (fun o22 => (Option.bind (F_X12_countTeaching t o22) (fun r23 => (nxt (tR r23 602 j21) (fun o24 => (oc o24 none (fun j25 => (gd (tI r23 100 j25) (tL r23 3209 0) (nxt (uA r23 3209 0 (tI r23 100 j25).toNatClampNeg 0) (fun t26 => (B_X12_payShares_25  10000 t26 j21 0 0))))))))))))))
theorem TF_X12_payShares {W : NW} {d : Nat} {t : TS} {o1 : Option Nat} {Q : Option NV → TS → Prop} {bc bs : Nat} (hW : W.2.2.2 = mm_fx) (H : wp (F_X12_payShares t o1) (fun r => Q none r)) : nC W (d + 3) 140 [eR (some (12, 0)), eO 6 o1] t (bc + 1) (bs + 150) Q := by
  refine nC_in (d := (d + 2)) (T := tX12_payShares) (ls := [some (eR (some (12, 0))), some (eO 6 o1), none, none]) rfl (Nat.le_of_ble_eq_true rfl) rfl (fun a0 e0 => ?_)
  unfold F_X12_payShares at H
  refine nx_ld rfl rfl rfl rfl ?_
  refine nx_ld rfl rfl rfl rfl ?_
  rcases o1 with _ | j21
  · exact (wp_none (oc_no H)).elim
  replace H := oc_so H
  refine nx_getR rfl rfl rfl (by decide) rfl H (fun o22 H => ?_)
  refine nx_cVVt (as := [eO 1 o22]) (st' := []) rfl rfl (Nat.le_of_ble_eq_true rfl) rfl rfl (Nat.le_of_ble_eq_true rfl) (c0 := 12) rfl (by decide) H (fun Q H => TF_X12_countTeaching hW  H) (fun r23 H => ?_)
  refine nx_ld rfl rfl rfl rfl ?_
  refine nx_getFix rfl rfl rfl (by decide) (by rw [hW]; rfl) rfl ?_
  refine nx_ld rfl rfl rfl rfl ?_
  show nX _ _ _ _ _ _ 13 _ _ _ _ _
  refine nx_getR rfl rfl rfl (by decide) rfl H (fun o24 H => ?_)
  rcases o24 with _ | j25
  · exact (wp_none (oc_no H)).elim
  replace H := oc_so H
  refine nx_getI rfl rfl rfl (by decide) ?_
  refine nx_int (x := 0) rfl rfl ?_
  refine nx_iast (p := (3209, 0)) rfl rfl (Nat.le_of_ble_eq_true rfl) (Nat.le_of_ble_eq_true rfl) rfl H (fun t26 H => ?_)
  refine nx_int (x := 0) rfl rfl ?_
  refine nx_st (ls' := [some (eR (some (12, 0))), some (eR (some (6, j21))), some (eI 0), none]) rfl rfl rfl (Nat.le_of_ble_eq_true rfl) rfl ?_
  refine nx_int (x := 0) rfl rfl ?_
  refine nx_st (ls' := [some (eR (some (12, 0))), some (eR (some (6, j21))), some (eI 0), some (eI 0)]) rfl rfl rfl (Nat.le_of_ble_eq_true rfl) rfl ?_
  refine nx_eq (bc' := (bc) + 0 * 10000 + 1) (bs' := (bs) + 0 * 10000 + 150) (by omega) (by omega) ?_
  exact TB_X12_payShares_25 (bc := bc) (bs := bs) hW    10000 (bc) (bs) (by omega) (by omega) _ _ _ _ H
def F_X12_enter (t : TS) (o1 : Option Nat) : Option (Int32 × TS) := (oc o1 none (fun j21 => (nxt (tR t 607 j21) (fun o22 => (oc o22 none (fun j23 => (nxt (uR t 1107 j23 (some j21)) (fun t24 => (gd (tI t24 1207 0) (tL t24 3206 0) (nxt (uQ t24 3206 0 (tI t24 1207 0).toNatClampNeg (some j21)) (fun t25 => (nxt (uI t25 1207 0 ((tI t25 1207 0) + 1)) (fun t26 => (some ((tI t26 600 j21), t26)))))))))))))))
theorem TF_X12_enter {W : NW} {d : Nat} {t : TS} {o1 : Option Nat} {Q : Option NV → TS → Prop} {bc bs : Nat} (hW : W.2.2.2 = mm_fx) (H : wp (F_X12_enter t o1) (fun r => Q (some (eI r.1)) r.2)) : nC W (d + 1) 137 [eR (some (12, 0)), eO 6 o1] t bc bs Q := by
  refine nC_in (d := d) (T := tX12_enter) (ls := [some (eR (some (12, 0))), some (eO 6 o1)]) rfl (Nat.le_of_ble_eq_true rfl) rfl (fun a0 e0 => ?_)
  unfold F_X12_enter at H
  refine nx_ld rfl rfl rfl rfl ?_
  rcases o1 with _ | j21
  · exact (wp_none (oc_no H)).elim
  replace H := oc_so H
  refine nx_getR rfl rfl rfl (by decide) rfl H (fun o22 H => ?_)
  refine nx_ld rfl rfl rfl rfl ?_
  rcases o22 with _ | j23
  · exact (wp_none (oc_no H)).elim
  replace H := oc_so H
  refine nx_putR (f := 1107) (o := (some j21)) rfl rfl rfl (by decide) (by rw [hW]; rfl) rfl (by decide) H (fun t24 H => ?_)
  refine nx_ld rfl rfl rfl rfl ?_
  refine nx_getFix rfl rfl rfl (by decide) (by rw [hW]; rfl) rfl ?_
  refine nx_ld rfl rfl rfl rfl ?_
  show nX _ _ _ _ _ _ 13 _ _ _ _ _
  refine nx_getI rfl rfl rfl (by decide) ?_
  refine nx_ld rfl rfl rfl rfl ?_
  refine nx_aast (c := 3206) (i := 0) (e := 6) (o := (some j21)) rfl rfl (Nat.le_of_ble_eq_true rfl) (Nat.le_of_ble_eq_true rfl) (Nat.le_of_ble_eq_true rfl) rfl (by decide) H (fun t25 H => ?_)
  refine nx_ld rfl rfl rfl rfl ?_
  refine nx_dup rfl rfl (Nat.ne_of_beq_eq_false rfl) ?_
  refine nx_getI rfl rfl rfl (by decide) ?_
  refine nx_int (x := 1) rfl rfl ?_
  refine nx_ii rfl rfl ?_
  show nX _ _ _ _ _ _ 25 _ _ _ _ _
  refine nx_putI rfl rfl rfl (by decide) H (fun t26 H => ?_)
  refine nx_ld rfl rfl rfl rfl ?_
  refine nx_getI rfl rfl rfl (by decide) ?_
  exact nx_rit rfl rfl H
def B_X12_makeSale_123 (t : TS) (v1 : Nat) (v2 : Option Nat) (v3 : Int32) (v6 : Nat) (s0 : Int32) (s1 : Nat) : Option (Int32 × TS) := (nxt (uI t 615 s1 s0) (fun t21 => (nxt (tR t21 602 v6) (fun o22 => (oc o22 none (fun j23 => (nxt (uI t21 103 j23 ((tI t21 103 j23) + ((v3 - (tI t21 611 v6)) - (tI t21 613 v6)))) (fun t24 => (oc v2 none (fun j25 => (nxt (uI t24 103 j25 ((tI t24 103 j25) - (v3 + (tI t24 615 v6)))) (fun t26 => (gd (1 : Int32) (tL t26 3208 0) (ob2 (F_X12_addSpan t26 (some v1) (some j25) 1 (tI t26 1200 0) (tA t26 3208 0 (1 : Int32).toNatClampNeg)) (fun o28 t29 => (nxt (uR t29 607 v6 o28) (fun t30 => (nxt (tR t30 607 v6) (fun o31 => (gd (2 : Int32) (tL t30 3208 0) (oc o31 none (fun j32 => (nxt (uI t30 1105 j32 (tA t30 3208 0 (2 : Int32).toNatClampNeg)) (fun t33 => (ob2 (F_X12_enter t33 (some v6)) (fun x35 t36 => (some (x35, t36))))))))))))))))))))))))))))
theorem TB_X12_makeSale_123 {W : NW} {d : Nat} {Q : Option NV → TS → Prop} {a0 : Nat → Nat → Nat} {e0 : Nat → Nat → Bool} {bc bs : Nat} (hW : W.2.2.2 = mm_fx) : ∀ (t : TS) (v1 : Nat) (v2 : Option Nat) (v3 : Int32) (v4 : Int32) (v5 : Nat) (v6 : Nat) (s0 : Int32) (s1 : Nat), wp (B_X12_makeSale_123 t v1 v2 v3 v6 s0 s1) (fun r => Q (some (eI r.1)) r.2) → nX W (d + 3) tX12_makeSale Q a0 e0 123 [some (eR (some (12, 0))), some (eR (some (1, v1))), some (eO 1 v2), some (eI v3), some (eI v4), some (eR (some (11, v5))), some (eR (some (6, v6)))] [eI s0, eR (some (6, s1))] t (bc + 1) (bs + 9) := by
  intro t v1 v2 v3 v4 v5 v6 s0 s1 H
  unfold B_X12_makeSale_123 at H
  refine nx_putI rfl rfl rfl (by decide) H (fun t21 H => ?_)
  refine nx_ld rfl rfl rfl rfl ?_
  refine nx_getR rfl rfl rfl (by decide) rfl H (fun o22 H => ?_)
  refine nx_dup rfl rfl (Nat.ne_of_beq_eq_false rfl) ?_
  rcases o22 with _ | j23
  · exact (wp_none (oc_no H)).elim
  replace H := oc_so H
  refine nx_getI rfl rfl rfl (by decide) ?_
  refine nx_ld rfl rfl rfl rfl ?_
  refine nx_ld rfl rfl rfl rfl ?_
  show nX _ _ _ _ _ _ 138 _ _ _ _ _
  refine nx_getI rfl rfl rfl (by decide) ?_
  refine nx_ii rfl rfl ?_
  refine nx_ld rfl rfl rfl rfl ?_
  refine nx_getI rfl rfl rfl (by decide) ?_
  refine nx_ii rfl rfl ?_
  refine nx_ii rfl rfl ?_
  refine nx_putI rfl rfl rfl (by decide) H (fun t24 H => ?_)
  refine nx_ld rfl rfl rfl rfl ?_
  show nX _ _ _ _ _ _ 153 _ _ _ _ _
  refine nx_dup rfl rfl (Nat.ne_of_beq_eq_false rfl) ?_
  rcases v2 with _ | j25
  · exact (wp_none (oc_no H)).elim
  replace H := oc_so H
  refine nx_getI rfl rfl rfl (by decide) ?_
  refine nx_ld rfl rfl rfl rfl ?_
  refine nx_ld rfl rfl rfl rfl ?_
  refine nx_getI rfl rfl rfl (by decide) ?_
  refine nx_ii rfl rfl ?_
  refine nx_ii rfl rfl ?_
  refine nx_putI rfl rfl rfl (by decide) H (fun t26 H => ?_)
  show nX _ _ _ _ _ _ 168 _ _ _ _ _
  refine nx_ld rfl rfl rfl rfl ?_
  refine nx_ld rfl rfl rfl rfl ?_
  refine nx_ld rfl rfl rfl rfl ?_
  refine nx_ld rfl rfl rfl rfl ?_
  refine nx_int (x := 1) rfl rfl ?_
  refine nx_ld rfl rfl rfl rfl ?_
  refine nx_getI rfl rfl rfl (by decide) ?_
  refine nx_ld rfl rfl rfl rfl ?_
  show nX _ _ _ _ _ _ 179 _ _ _ _ _
  refine nx_getFix rfl rfl rfl (by decide) (by rw [hW]; rfl) rfl ?_
  refine nx_int (x := 1) rfl rfl ?_
  refine nx_iald (p := (3208, 0)) rfl rfl (Nat.le_of_ble_eq_true rfl) (Nat.le_of_ble_eq_true rfl) rfl H (fun H => ?_)
  refine nx_aVO2 11 1 9 (as := [eO 1 (some v1), eO 1 (some j25), eI 1, eI (tI t26 1200 0), eI (tA t26 3208 0 (1 : Int32).toNatClampNeg)]) (st' := [eR (some (6, v6))]) rfl rfl (Nat.le_of_ble_eq_true rfl) rfl rfl (Nat.le_of_ble_eq_true rfl) (c0 := 12) rfl (by decide) (by omega) (by omega) H (fun Q H => TF_X12_addSpan hW  H) (fun o28 t29 H => ?_)
  refine nx_eq (bc' := bc) (bs' := bs) (by omega) (by omega) ?_
  refine nx_putR (f := 607) (o := o28) rfl rfl rfl (by decide) (by rw [hW]; rfl) rfl (by decide) H (fun t30 H => ?_)
  refine nx_ld rfl rfl rfl rfl ?_
  refine nx_getR rfl rfl rfl (by decide) rfl H (fun o31 H => ?_)
  refine nx_ld rfl rfl rfl rfl ?_
  show nX _ _ _ _ _ _ 196 _ _ _ _ _
  refine nx_getFix rfl rfl rfl (by decide) (by rw [hW]; rfl) rfl ?_
  refine nx_int (x := 2) rfl rfl ?_
  refine nx_iald (p := (3208, 0)) rfl rfl (Nat.le_of_ble_eq_true rfl) (Nat.le_of_ble_eq_true rfl) rfl H (fun H => ?_)
  rcases o31 with _ | j32
  · exact (wp_none (oc_no H)).elim
  replace H := oc_so H
  refine nx_putI rfl rfl rfl (by decide) H (fun t33 H => ?_)
  refine nx_ld rfl rfl rfl rfl ?_
  refine nx_ld rfl rfl rfl rfl ?_
  refine nx_cVI2 (as := [eO 6 (some v6)]) (st' := []) rfl rfl (Nat.le_of_ble_eq_true rfl) rfl rfl (Nat.le_of_ble_eq_true rfl) (c0 := 12) rfl (by decide) H (fun Q H => TF_X12_enter hW  H) (fun x35 t36 H => ?_)
  exact nx_rit rfl rfl H
def B_X12_makeSale_89 (t : TS) (v1 : Nat) (v2 : Option Nat) (v3 : Int32) (v5 : Nat) (v6 : Nat) : Option (Int32 × TS) := (nxt (tR t 1107 v5) (fun o21 => (Option.bind (F_X12_payKept t (some v6) o21) (fun r22 => (Option.bind (F_X12_payShares r22 (some v6)) (fun r23 => (nxt (tR r23 107 v1) (fun o24 => (oc o24 (B_X12_makeSale_123  r23 v1 v2 v3 v6 0 v6) (fun j25 => (Option.bind (F_X12_hundredths r23 3 v3) (fun r26 => (B_X12_makeSale_123  r23 v1 v2 v3 v6 r26 v6)))))))))))))
theorem TB_X12_makeSale_89 {W : NW} {d : Nat} {Q : Option NV → TS → Prop} {a0 : Nat → Nat → Nat} {e0 : Nat → Nat → Bool} {bc bs : Nat} (hW : W.2.2.2 = mm_fx) : ∀ (t : TS) (v1 : Nat) (v2 : Option Nat) (v3 : Int32) (v4 : Int32) (v5 : Nat) (v6 : Nat), wp (B_X12_makeSale_89 t v1 v2 v3 v5 v6) (fun r => Q (some (eI r.1)) r.2) → nX W (d + 3) tX12_makeSale Q a0 e0 89 [some (eR (some (12, 0))), some (eR (some (1, v1))), some (eO 1 v2), some (eI v3), some (eI v4), some (eR (some (11, v5))), some (eR (some (6, v6)))] [] t (bc + 2) (bs + 159) := by
  intro t v1 v2 v3 v4 v5 v6 H
  unfold B_X12_makeSale_89 at H
  refine nx_ld rfl rfl rfl rfl ?_
  refine nx_ld rfl rfl rfl rfl ?_
  refine nx_getR rfl rfl rfl (by decide) rfl H (fun o21 H => ?_)
  refine nx_cSVt (as := [eO 6 (some v6), eO 6 o21]) (st' := []) rfl rfl (Nat.le_of_ble_eq_true rfl) rfl rfl (Nat.le_of_ble_eq_true rfl) H (fun Q H => TF_X12_payKept hW  H) (fun r22 H => ?_)
  refine nx_ld rfl rfl rfl rfl ?_
  refine nx_ld rfl rfl rfl rfl ?_
  refine nx_aVVt 1 150 (as := [eO 6 (some v6)]) (st' := []) rfl rfl (Nat.le_of_ble_eq_true rfl) rfl rfl (Nat.le_of_ble_eq_true rfl) (c0 := 12) rfl (by decide) (by omega) (by omega) H (fun Q H => TF_X12_payShares hW  H) (fun r23 H => ?_)
  refine nx_eq (bc' := bc + 1) (bs' := bs + 9) (by omega) (by omega) ?_
  show nX _ _ _ _ _ _ 105 _ _ _ _ _
  refine nx_ld rfl rfl rfl rfl ?_
  refine nx_ld rfl rfl rfl rfl ?_
  refine nx_getR rfl rfl rfl (by decide) rfl H (fun o24 H => ?_)
  rcases o24 with _ | j25
  · replace H := oc_no H
    refine nx_non0 (c := 1) rfl rfl ?_
    refine nx_int (x := 0) rfl rfl ?_
    refine nx_goto rfl rfl ?_
    refine nx_eq (bc' := (bc) + 1) (bs' := (bs) + 9) (by omega) (by omega) ?_
    exact TB_X12_makeSale_123 hW    _ _ _ _ _ _ _ _ _ H
  replace H := oc_so H
  refine nx_non1 rfl rfl ?_
  refine nx_int (x := 3) rfl rfl ?_
  refine nx_ld rfl rfl rfl rfl ?_
  refine nx_cSI (as := [eI 3, eI v3]) (st' := [eR (some (6, v6))]) rfl rfl (Nat.le_of_ble_eq_true rfl) rfl rfl (Nat.le_of_ble_eq_true rfl) H (fun Q H => TF_X12_hundredths hW  H) (fun r26 H => ?_)
  refine nx_eq (bc' := (bc) + 1) (bs' := (bs) + 9) (by omega) (by omega) ?_
  exact TB_X12_makeSale_123 hW    _ _ _ _ _ _ _ _ _ H
def F_X12_makeSale (t : TS) (o1 : Option Nat) (o2 : Option Nat) (x3 : Int32) (x4 : Int32) : Option (Int32 × TS) := (oc o1 none (fun j21 => (Option.bind (F_X1_owning t j21 (tI t 1200 0)) (fun r22 => (oc r22 (some ((-2), t)) (fun j23 => (gE (tE t 6 ((tI t 1207 0).toNatClampNeg)) (nxt (uO t 6 ((tI t 1207 0).toNatClampNeg)) (fun t24 => (nxt (tR t24 1101 j23) (fun o25 => (Option.bind (F_X6_init t24 ((tI t 1207 0).toNatClampNeg) (tI t24 1207 0) (some j21) o25 o2 x3) (fun r26 => (gd (3 : Int32) (tL r26 3208 0) (nxt (uI r26 609 ((tI t 1207 0).toNatClampNeg) (tA r26 3208 0 (3 : Int32).toNatClampNeg)) (fun t27 => (gd (6 : Int32) (tL t27 3208 0) (nxt (uI t27 617 ((tI t 1207 0).toNatClampNeg) (tA t27 3208 0 (6 : Int32).toNatClampNeg)) (fun t28 => (if ¬ x4 = 0 then (B_X12_makeSale_89  t28 j21 o2 x3 j23 ((tI t 1207 0).toNatClampNeg)) else (gd (4 : Int32) (tL t28 3208 0) (nxt (uI t28 610 ((tI t 1207 0).toNatClampNeg) (tA t28 3208 0 (4 : Int32).toNatClampNeg)) (fun t29 => (gd (5 : Int32) (tL t29 3208 0) (nxt (uI t29 616 ((tI t 1207 0).toNatClampNeg) (tA t29 3208 0 (5 : Int32).toNatClampNeg)) (fun t30 => (B_X12_makeSale_89  t30 j21 o2 x3 j23 ((tI t 1207 0).toNatClampNeg))))))))))))))))))))))))))))
theorem TF_X12_makeSale {W : NW} {d : Nat} {t : TS} {o1 : Option Nat} {o2 : Option Nat} {x3 : Int32} {x4 : Int32} {Q : Option NV → TS → Prop} {bc bs : Nat} (hW : W.2.2.2 = mm_fx) (H : wp (F_X12_makeSale t o1 o2 x3 x4) (fun r => Q (some (eI r.1)) r.2)) : nC W (d + 4) 135 [eR (some (12, 0)), eO 1 o1, eO 1 o2, eI x3, eI x4] t (bc + 3) (bs + 179) Q := by
  refine nC_in (d := (d + 3)) (T := tX12_makeSale) (ls := [some (eR (some (12, 0))), some (eO 1 o1), some (eO 1 o2), some (eI x3), some (eI x4), none, none]) rfl (Nat.le_of_ble_eq_true rfl) rfl (fun a0 e0 => ?_)
  unfold F_X12_makeSale at H
  refine nx_ld rfl rfl rfl rfl ?_
  refine nx_ld rfl rfl rfl rfl ?_
  refine nx_getI rfl rfl rfl (by decide) ?_
  rcases o1 with _ | j21
  · exact (wp_none (oc_no H)).elim
  replace H := oc_so H
  refine nx_cVO 11 (as := [eI (tI t 1200 0)]) (st' := []) rfl rfl (Nat.le_of_ble_eq_true rfl) rfl rfl (Nat.le_of_ble_eq_true rfl) (c0 := 1) rfl (by decide) H (fun Q H => TF_X1_owning hW  H) (fun r22 H => ?_)
  refine nx_st (ls' := [some (eR (some (12, 0))), some (eR (some (1, j21))), some (eO 1 o2), some (eI x3), some (eI x4), some (eO 11 r22), none]) rfl rfl rfl (Nat.le_of_ble_eq_true rfl) rfl ?_
  refine nx_ld rfl rfl rfl rfl ?_
  rcases r22 with _ | j23
  · replace H := oc_no H
    refine nx_non0 (c := 11) rfl rfl ?_
    refine nx_int (x := (-2)) rfl rfl ?_
    exact nx_rit rfl rfl H
  replace H := oc_so H
  refine nx_non1 rfl rfl ?_
  refine nx_new ((tI t 1207 0).toNatClampNeg) (n := 20) rfl rfl (by decide) (by rw [hW]; exact mm_fx_no (by decide)) (by omega) (by omega) H (fun t24 H => ?_)
  refine nx_eq (bc' := bc + 2) (bs' := bs + 159) (by omega) (by omega) ?_
  refine nx_dup rfl rfl (Nat.ne_of_beq_eq_false rfl) ?_
  refine nx_ld rfl rfl rfl rfl ?_
  refine nx_getI rfl rfl rfl (by decide) ?_
  refine nx_ld rfl rfl rfl rfl ?_
  refine nx_ld rfl rfl rfl rfl ?_
  refine nx_getR rfl rfl rfl (by decide) rfl H (fun o25 H => ?_)
  show nX _ _ _ _ _ _ 32 _ _ _ _ _
  refine nx_ld rfl rfl rfl rfl ?_
  refine nx_ld rfl rfl rfl rfl ?_
  refine nx_cVVt (as := [eI (tI t24 1207 0), eO 1 (some j21), eO 1 o25, eO 1 o2, eI x3]) (st' := [eR (some (6, ((tI t 1207 0).toNatClampNeg)))]) rfl rfl (Nat.le_of_ble_eq_true rfl) rfl rfl (Nat.le_of_ble_eq_true rfl) (c0 := 6) rfl (by decide) H (fun Q H => TF_X6_init hW  H) (fun r26 H => ?_)
  refine nx_st (ls' := [some (eR (some (12, 0))), some (eR (some (1, j21))), some (eO 1 o2), some (eI x3), some (eI x4), some (eR (some (11, j23))), some (eR (some (6, ((tI t 1207 0).toNatClampNeg))))]) rfl rfl rfl (Nat.le_of_ble_eq_true rfl) rfl ?_
  refine nx_ld rfl rfl rfl rfl ?_
  refine nx_ld rfl rfl rfl rfl ?_
  refine nx_getFix rfl rfl rfl (by decide) (by rw [hW]; rfl) rfl ?_
  refine nx_int (x := 3) rfl rfl ?_
  show nX _ _ _ _ _ _ 46 _ _ _ _ _
  refine nx_iald (p := (3208, 0)) rfl rfl (Nat.le_of_ble_eq_true rfl) (Nat.le_of_ble_eq_true rfl) rfl H (fun H => ?_)
  refine nx_putI rfl rfl rfl (by decide) H (fun t27 H => ?_)
  refine nx_ld rfl rfl rfl rfl ?_
  refine nx_ld rfl rfl rfl rfl ?_
  refine nx_getFix rfl rfl rfl (by decide) (by rw [hW]; rfl) rfl ?_
  refine nx_int (x := 6) rfl rfl ?_
  refine nx_iald (p := (3208, 0)) rfl rfl (Nat.le_of_ble_eq_true rfl) (Nat.le_of_ble_eq_true rfl) rfl H (fun H => ?_)
  refine nx_putI rfl rfl rfl (by decide) H (fun t28 H => ?_)
  show nX _ _ _ _ _ _ 62 _ _ _ _ _
  refine nx_ld rfl rfl rfl rfl ?_
  refine nx_if rfl rfl (by rfl) H (fun H => ?_) (fun H => ?_)
  · refine nx_eq (bc' := (bc) + 2) (bs' := (bs) + 159) (by omega) (by omega) ?_
    exact TB_X12_makeSale_89 hW    _ _ _ _ _ _ _ H
  refine nx_ld rfl rfl rfl rfl ?_
  refine nx_ld rfl rfl rfl rfl ?_
  refine nx_getFix rfl rfl rfl (by decide) (by rw [hW]; rfl) rfl ?_
  refine nx_int (x := 4) rfl rfl ?_
  refine nx_iald (p := (3208, 0)) rfl rfl (Nat.le_of_ble_eq_true rfl) (Nat.le_of_ble_eq_true rfl) rfl H (fun H => ?_)
  refine nx_putI rfl rfl rfl (by decide) H (fun t29 H => ?_)
  refine nx_ld rfl rfl rfl rfl ?_
  show nX _ _ _ _ _ _ 80 _ _ _ _ _
  refine nx_ld rfl rfl rfl rfl ?_
  refine nx_getFix rfl rfl rfl (by decide) (by rw [hW]; rfl) rfl ?_
  refine nx_int (x := 5) rfl rfl ?_
  refine nx_iald (p := (3208, 0)) rfl rfl (Nat.le_of_ble_eq_true rfl) (Nat.le_of_ble_eq_true rfl) rfl H (fun H => ?_)
  refine nx_putI rfl rfl rfl (by decide) H (fun t30 H => ?_)
  refine nx_eq (bc' := (bc) + 2) (bs' := (bs) + 159) (by omega) (by omega) ?_
  exact TB_X12_makeSale_89 hW    _ _ _ _ _ _ _ H
def F_X12_sell (t : TS) (x1 : Int32) (x2 : Int32) : Option (Int32 × TS) := (Option.bind (F_X12_playerAt t x1) (fun r21 => (Option.bind (F_X12_clubAt t x2) (fun r22 => (oc r21 (some ((-1), t)) (fun j23 => (oc r22 (some ((-1), t)) (fun j24 => (gd (1 : Int32) (tL t 3208 0) (if (tI t 1200 0) ≤ (tA t 3208 0 (1 : Int32).toNatClampNeg) then (gd (0 : Int32) (tL t 3208 0) (ob2 (F_X12_whyNot t (some j23) (some j24) (tA t 3208 0 (0 : Int32).toNatClampNeg) 0) (fun x26 t27 => (if x26 = 0 then (Option.bind (F_X12_movesOrSpansAreFull t27) (fun r28 => (if r28 = 0 then (gd (0 : Int32) (tL t27 3208 0) (ob2 (F_X12_makeSale t27 (some j23) (some j24) (tA t27 3208 0 (0 : Int32).toNatClampNeg) 0) (fun x30 t31 => (some (x30, t31))))) else (some ((-3), t27))))) else (Option.bind (F_X12_refusal t27 x26) (fun r32 => (some (r32, t27)))))))) else (some ((-1), t))))))))))))
theorem TF_X12_sell {W : NW} {d : Nat} {t : TS} {x1 : Int32} {x2 : Int32} {Q : Option NV → TS → Prop} {bc bs : Nat} (hW : W.2.2.2 = mm_fx) (H : wp (F_X12_sell t x1 x2) (fun r => Q (some (eI r.1)) r.2)) : nC W (d + 210) 81 [eR (some (12, 0)), eI x1, eI x2] t (bc + 3) (bs + 179) Q := by
  refine nC_in (d := (d + 209)) (T := tX12_sell) (ls := [some (eR (some (12, 0))), some (eI x1), some (eI x2), none, none, none]) rfl (Nat.le_of_ble_eq_true rfl) rfl (fun a0 e0 => ?_)
  unfold F_X12_sell at H
  refine nx_ld rfl rfl rfl rfl ?_
  refine nx_ld rfl rfl rfl rfl ?_
  refine nx_cVO 1 (as := [eI x1]) (st' := []) rfl rfl (Nat.le_of_ble_eq_true rfl) rfl rfl (Nat.le_of_ble_eq_true rfl) (c0 := 12) rfl (by decide) H (fun Q H => TF_X12_playerAt hW  H) (fun r21 H => ?_)
  refine nx_st (ls' := [some (eR (some (12, 0))), some (eI x1), some (eI x2), some (eO 1 r21), none, none]) rfl rfl rfl (Nat.le_of_ble_eq_true rfl) rfl ?_
  refine nx_ld rfl rfl rfl rfl ?_
  refine nx_ld rfl rfl rfl rfl ?_
  refine nx_cVO 1 (as := [eI x2]) (st' := []) rfl rfl (Nat.le_of_ble_eq_true rfl) rfl rfl (Nat.le_of_ble_eq_true rfl) (c0 := 12) rfl (by decide) H (fun Q H => TF_X12_clubAt hW  H) (fun r22 H => ?_)
  show nX _ _ _ _ _ _ 11 _ _ _ _ _
  refine nx_st (ls' := [some (eR (some (12, 0))), some (eI x1), some (eI x2), some (eO 1 r21), some (eO 1 r22), none]) rfl rfl rfl (Nat.le_of_ble_eq_true rfl) rfl ?_
  refine nx_ld rfl rfl rfl rfl ?_
  rcases r21 with _ | j23
  · replace H := oc_no H
    refine nx_null0 (c := 1) rfl rfl ?_
    refine nx_int (x := (-1)) rfl rfl ?_
    exact nx_rit rfl rfl H
  replace H := oc_so H
  refine nx_null1 rfl rfl ?_
  refine nx_ld rfl rfl rfl rfl ?_
  rcases r22 with _ | j24
  · replace H := oc_no H
    refine nx_null0 (c := 1) rfl rfl ?_
    refine nx_int (x := (-1)) rfl rfl ?_
    exact nx_rit rfl rfl H
  replace H := oc_so H
  refine nx_null1 rfl rfl ?_
  refine nx_ld rfl rfl rfl rfl ?_
  refine nx_getFix rfl rfl rfl (by decide) (by rw [hW]; rfl) rfl ?_
  refine nx_int (x := 1) rfl rfl ?_
  refine nx_iald (p := (3208, 0)) rfl rfl (Nat.le_of_ble_eq_true rfl) (Nat.le_of_ble_eq_true rfl) rfl H (fun H => ?_)
  refine nx_ld rfl rfl rfl rfl ?_
  refine nx_getI rfl rfl rfl (by decide) ?_
  refine nx_icmp rfl rfl (by rfl) H (fun H => ?_) (fun H => ?_)
  · refine nx_ld rfl rfl rfl rfl ?_
    refine nx_ld rfl rfl rfl rfl ?_
    refine nx_ld rfl rfl rfl rfl ?_
    refine nx_ld rfl rfl rfl rfl ?_
    refine nx_getFix rfl rfl rfl (by decide) (by rw [hW]; rfl) rfl ?_
    refine nx_int (x := 0) rfl rfl ?_
    refine nx_iald (p := (3208, 0)) rfl rfl (Nat.le_of_ble_eq_true rfl) (Nat.le_of_ble_eq_true rfl) rfl H (fun H => ?_)
    show nX _ _ _ _ _ _ 47 _ _ _ _ _
    refine nx_int (x := 0) rfl rfl ?_
    refine nx_cVI2 (as := [eO 1 (some j23), eO 1 (some j24), eI (tA t 3208 0 (0 : Int32).toNatClampNeg), eI 0]) (st' := []) rfl rfl (Nat.le_of_ble_eq_true rfl) rfl rfl (Nat.le_of_ble_eq_true rfl) (c0 := 12) rfl (by decide) H (fun Q H => TF_X12_whyNot hW  H) (fun x26 t27 H => ?_)
    refine nx_st (ls' := [some (eR (some (12, 0))), some (eI x1), some (eI x2), some (eR (some (1, j23))), some (eR (some (1, j24))), some (eI x26)]) rfl rfl rfl (Nat.le_of_ble_eq_true rfl) rfl ?_
    refine nx_ld rfl rfl rfl rfl ?_
    refine nx_if rfl rfl (by rfl) H (fun H => ?_) (fun H => ?_)
    · refine nx_ld rfl rfl rfl rfl ?_
      refine nx_cVI (as := []) (st' := []) rfl rfl (Nat.le_of_ble_eq_true rfl) rfl rfl (Nat.le_of_ble_eq_true rfl) (c0 := 12) rfl (by decide) H (fun Q H => TF_X12_movesOrSpansAreFull hW  H) (fun r28 H => ?_)
      refine nx_if rfl rfl (by rfl) H (fun H => ?_) (fun H => ?_)
      · refine nx_ld rfl rfl rfl rfl ?_
        refine nx_ld rfl rfl rfl rfl ?_
        refine nx_ld rfl rfl rfl rfl ?_
        refine nx_ld rfl rfl rfl rfl ?_
        refine nx_getFix rfl rfl rfl (by decide) (by rw [hW]; rfl) rfl ?_
        refine nx_int (x := 0) rfl rfl ?_
        refine nx_iald (p := (3208, 0)) rfl rfl (Nat.le_of_ble_eq_true rfl) (Nat.le_of_ble_eq_true rfl) rfl H (fun H => ?_)
        show nX _ _ _ _ _ _ 86 _ _ _ _ _
        refine nx_int (x := 0) rfl rfl ?_
        refine nx_aVI2 3 179 (as := [eO 1 (some j23), eO 1 (some j24), eI (tA t27 3208 0 (0 : Int32).toNatClampNeg), eI 0]) (st' := []) rfl rfl (Nat.le_of_ble_eq_true rfl) rfl rfl (Nat.le_of_ble_eq_true rfl) (c0 := 12) rfl (by decide) (by omega) (by omega) H (fun Q H => TF_X12_makeSale hW  H) (fun x30 t31 H => ?_)
        refine nx_eq (bc' := bc) (bs' := bs) (by omega) (by omega) ?_
        exact nx_rit rfl rfl H
      refine nx_int (x := (-3)) rfl rfl ?_
      refine nx_goto rfl rfl ?_
      exact nx_rit rfl rfl H
    refine nx_ld rfl rfl rfl rfl ?_
    refine nx_cSI (as := [eI x26]) (st' := []) rfl rfl (Nat.le_of_ble_eq_true rfl) rfl rfl (Nat.le_of_ble_eq_true rfl) H (fun Q H => TF_X12_refusal hW  H) (fun r32 H => ?_)
    exact nx_rit rfl rfl H
  refine nx_int (x := (-1)) rfl rfl ?_
  exact nx_rit rfl rfl H
def F_X12_makeLoan (t : TS) (o1 : Option Nat) (o2 : Option Nat) : Option (Int32 × TS) := (oc o1 none (fun j21 => (Option.bind (F_X1_owning t j21 (tI t 1200 0)) (fun r22 => (oc r22 (some ((-2), t)) (fun j23 => (gE (tE t 6 ((tI t 1207 0).toNatClampNeg)) (nxt (uO t 6 ((tI t 1207 0).toNatClampNeg)) (fun t24 => (nxt (tR t24 1101 j23) (fun o25 => (gd (0 : Int32) (tL t24 3208 0) (Option.bind (F_X6_init t24 ((tI t 1207 0).toNatClampNeg) (tI t24 1207 0) (some j21) o25 o2 (tA t24 3208 0 (0 : Int32).toNatClampNeg)) (fun r26 => (nxt (uI r26 605 ((tI t 1207 0).toNatClampNeg) 1) (fun t27 => (gd (8 : Int32) (tL t27 3208 0) (nxt (uI t27 606 ((tI t 1207 0).toNatClampNeg) (tA t27 3208 0 (8 : Int32).toNatClampNeg)) (fun t28 => (nxt (tR t28 602 ((tI t 1207 0).toNatClampNeg)) (fun o29 => (oc o29 none (fun j30 => (nxt (uI t28 103 j30 ((tI t28 103 j30) + (tI t28 604 ((tI t 1207 0).toNatClampNeg)))) (fun t31 => (oc o2 none (fun j32 => (nxt (uI t31 103 j32 ((tI t31 103 j32) - (tI t31 604 ((tI t 1207 0).toNatClampNeg)))) (fun t33 => (gd (7 : Int32) (tL t33 3208 0) (ob2 (F_X12_addSpan t33 (some j21) (some j32) 2 (tI t33 1200 0) (tA t33 3208 0 (7 : Int32).toNatClampNeg)) (fun o35 t36 => (nxt (uR t36 607 ((tI t 1207 0).toNatClampNeg) o35) (fun t37 => (ob2 (F_X12_enter t37 (some ((tI t 1207 0).toNatClampNeg))) (fun x39 t40 => (some (x39, t40))))))))))))))))))))))))))))))))))))))
theorem TF_X12_makeLoan {W : NW} {d : Nat} {t : TS} {o1 : Option Nat} {o2 : Option Nat} {Q : Option NV → TS → Prop} {bc bs : Nat} (hW : W.2.2.2 = mm_fx) (H : wp (F_X12_makeLoan t o1 o2) (fun r => Q (some (eI r.1)) r.2)) : nC W (d + 3) 136 [eR (some (12, 0)), eO 1 o1, eO 1 o2] t (bc + 2) (bs + 29) Q := by
  refine nC_in (d := (d + 2)) (T := tX12_makeLoan) (ls := [some (eR (some (12, 0))), some (eO 1 o1), some (eO 1 o2), none, none]) rfl (Nat.le_of_ble_eq_true rfl) rfl (fun a0 e0 => ?_)
  unfold F_X12_makeLoan at H
  refine nx_ld rfl rfl rfl rfl ?_
  refine nx_ld rfl rfl rfl rfl ?_
  refine nx_getI rfl rfl rfl (by decide) ?_
  rcases o1 with _ | j21
  · exact (wp_none (oc_no H)).elim
  replace H := oc_so H
  refine nx_cVO 11 (as := [eI (tI t 1200 0)]) (st' := []) rfl rfl (Nat.le_of_ble_eq_true rfl) rfl rfl (Nat.le_of_ble_eq_true rfl) (c0 := 1) rfl (by decide) H (fun Q H => TF_X1_owning hW  H) (fun r22 H => ?_)
  refine nx_st (ls' := [some (eR (some (12, 0))), some (eR (some (1, j21))), some (eO 1 o2), some (eO 11 r22), none]) rfl rfl rfl (Nat.le_of_ble_eq_true rfl) rfl ?_
  refine nx_ld rfl rfl rfl rfl ?_
  rcases r22 with _ | j23
  · replace H := oc_no H
    refine nx_non0 (c := 11) rfl rfl ?_
    refine nx_int (x := (-2)) rfl rfl ?_
    exact nx_rit rfl rfl H
  replace H := oc_so H
  refine nx_non1 rfl rfl ?_
  refine nx_new ((tI t 1207 0).toNatClampNeg) (n := 20) rfl rfl (by decide) (by rw [hW]; exact mm_fx_no (by decide)) (by omega) (by omega) H (fun t24 H => ?_)
  refine nx_eq (bc' := bc + 1) (bs' := bs + 9) (by omega) (by omega) ?_
  refine nx_dup rfl rfl (Nat.ne_of_beq_eq_false rfl) ?_
  refine nx_ld rfl rfl rfl rfl ?_
  refine nx_getI rfl rfl rfl (by decide) ?_
  refine nx_ld rfl rfl rfl rfl ?_
  refine nx_ld rfl rfl rfl rfl ?_
  refine nx_getR rfl rfl rfl (by decide) rfl H (fun o25 H => ?_)
  show nX _ _ _ _ _ _ 29 _ _ _ _ _
  refine nx_ld rfl rfl rfl rfl ?_
  refine nx_ld rfl rfl rfl rfl ?_
  refine nx_getFix rfl rfl rfl (by decide) (by rw [hW]; rfl) rfl ?_
  refine nx_int (x := 0) rfl rfl ?_
  refine nx_iald (p := (3208, 0)) rfl rfl (Nat.le_of_ble_eq_true rfl) (Nat.le_of_ble_eq_true rfl) rfl H (fun H => ?_)
  refine nx_cVVt (as := [eI (tI t24 1207 0), eO 1 (some j21), eO 1 o25, eO 1 o2, eI (tA t24 3208 0 (0 : Int32).toNatClampNeg)]) (st' := [eR (some (6, ((tI t 1207 0).toNatClampNeg)))]) rfl rfl (Nat.le_of_ble_eq_true rfl) rfl rfl (Nat.le_of_ble_eq_true rfl) (c0 := 6) rfl (by decide) H (fun Q H => TF_X6_init hW  H) (fun r26 H => ?_)
  refine nx_st (ls' := [some (eR (some (12, 0))), some (eR (some (1, j21))), some (eO 1 o2), some (eR (some (11, j23))), some (eR (some (6, ((tI t 1207 0).toNatClampNeg))))]) rfl rfl rfl (Nat.le_of_ble_eq_true rfl) rfl ?_
  refine nx_ld rfl rfl rfl rfl ?_
  show nX _ _ _ _ _ _ 43 _ _ _ _ _
  refine nx_int (x := 1) rfl rfl ?_
  refine nx_putZL rfl rfl rfl (by decide) (by decide) H (fun t27 H => ?_)
  refine nx_ld rfl rfl rfl rfl ?_
  refine nx_ld rfl rfl rfl rfl ?_
  refine nx_getFix rfl rfl rfl (by decide) (by rw [hW]; rfl) rfl ?_
  refine nx_int (x := 8) rfl rfl ?_
  refine nx_iald (p := (3208, 0)) rfl rfl (Nat.le_of_ble_eq_true rfl) (Nat.le_of_ble_eq_true rfl) rfl H (fun H => ?_)
  refine nx_putI rfl rfl rfl (by decide) H (fun t28 H => ?_)
  show nX _ _ _ _ _ _ 59 _ _ _ _ _
  refine nx_ld rfl rfl rfl rfl ?_
  refine nx_getR rfl rfl rfl (by decide) rfl H (fun o29 H => ?_)
  refine nx_dup rfl rfl (Nat.ne_of_beq_eq_false rfl) ?_
  rcases o29 with _ | j30
  · exact (wp_none (oc_no H)).elim
  replace H := oc_so H
  refine nx_getI rfl rfl rfl (by decide) ?_
  refine nx_ld rfl rfl rfl rfl ?_
  refine nx_getI rfl rfl rfl (by decide) ?_
  refine nx_ii rfl rfl ?_
  refine nx_putI rfl rfl rfl (by decide) H (fun t31 H => ?_)
  show nX _ _ _ _ _ _ 77 _ _ _ _ _
  refine nx_ld rfl rfl rfl rfl ?_
  refine nx_dup rfl rfl (Nat.ne_of_beq_eq_false rfl) ?_
  rcases o2 with _ | j32
  · exact (wp_none (oc_no H)).elim
  replace H := oc_so H
  refine nx_getI rfl rfl rfl (by decide) ?_
  refine nx_ld rfl rfl rfl rfl ?_
  refine nx_getI rfl rfl rfl (by decide) ?_
  refine nx_ii rfl rfl ?_
  refine nx_putI rfl rfl rfl (by decide) H (fun t33 H => ?_)
  refine nx_ld rfl rfl rfl rfl ?_
  show nX _ _ _ _ _ _ 93 _ _ _ _ _
  refine nx_ld rfl rfl rfl rfl ?_
  refine nx_ld rfl rfl rfl rfl ?_
  refine nx_ld rfl rfl rfl rfl ?_
  refine nx_int (x := 2) rfl rfl ?_
  refine nx_ld rfl rfl rfl rfl ?_
  refine nx_getI rfl rfl rfl (by decide) ?_
  refine nx_ld rfl rfl rfl rfl ?_
  refine nx_getFix rfl rfl rfl (by decide) (by rw [hW]; rfl) rfl ?_
  show nX _ _ _ _ _ _ 105 _ _ _ _ _
  refine nx_int (x := 7) rfl rfl ?_
  refine nx_iald (p := (3208, 0)) rfl rfl (Nat.le_of_ble_eq_true rfl) (Nat.le_of_ble_eq_true rfl) rfl H (fun H => ?_)
  refine nx_aVO2 11 1 9 (as := [eO 1 (some j21), eO 1 (some j32), eI 2, eI (tI t33 1200 0), eI (tA t33 3208 0 (7 : Int32).toNatClampNeg)]) (st' := [eR (some (6, ((tI t 1207 0).toNatClampNeg)))]) rfl rfl (Nat.le_of_ble_eq_true rfl) rfl rfl (Nat.le_of_ble_eq_true rfl) (c0 := 12) rfl (by decide) (by omega) (by omega) H (fun Q H => TF_X12_addSpan hW  H) (fun o35 t36 H => ?_)
  refine nx_eq (bc' := bc) (bs' := bs) (by omega) (by omega) ?_
  refine nx_putR (f := 607) (o := o35) rfl rfl rfl (by decide) (by rw [hW]; rfl) rfl (by decide) H (fun t37 H => ?_)
  refine nx_ld rfl rfl rfl rfl ?_
  refine nx_ld rfl rfl rfl rfl ?_
  refine nx_cVI2 (as := [eO 6 (some ((tI t 1207 0).toNatClampNeg))]) (st' := []) rfl rfl (Nat.le_of_ble_eq_true rfl) rfl rfl (Nat.le_of_ble_eq_true rfl) (c0 := 12) rfl (by decide) H (fun Q H => TF_X12_enter hW  H) (fun x39 t40 H => ?_)
  exact nx_rit rfl rfl H
def F_X12_lend (t : TS) (x1 : Int32) (x2 : Int32) : Option (Int32 × TS) := (Option.bind (F_X12_playerAt t x1) (fun r21 => (Option.bind (F_X12_clubAt t x2) (fun r22 => (oc r21 (some ((-1), t)) (fun j23 => (oc r22 (some ((-1), t)) (fun j24 => (gd (7 : Int32) (tL t 3208 0) (if (tI t 1200 0) ≤ (tA t 3208 0 (7 : Int32).toNatClampNeg) then (gd (0 : Int32) (tL t 3208 0) (ob2 (F_X12_whyNot t (some j23) (some j24) (tA t 3208 0 (0 : Int32).toNatClampNeg) 1) (fun x26 t27 => (if x26 = 0 then (Option.bind (F_X12_movesOrSpansAreFull t27) (fun r28 => (if r28 = 0 then (ob2 (F_X12_makeLoan t27 (some j23) (some j24)) (fun x30 t31 => (some (x30, t31)))) else (some ((-3), t27))))) else (Option.bind (F_X12_refusal t27 x26) (fun r32 => (some (r32, t27)))))))) else (some ((-1), t))))))))))))
theorem TF_X12_lend {W : NW} {d : Nat} {t : TS} {x1 : Int32} {x2 : Int32} {Q : Option NV → TS → Prop} {bc bs : Nat} (hW : W.2.2.2 = mm_fx) (H : wp (F_X12_lend t x1 x2) (fun r => Q (some (eI r.1)) r.2)) : nC W (d + 210) 82 [eR (some (12, 0)), eI x1, eI x2] t (bc + 2) (bs + 29) Q := by
  refine nC_in (d := (d + 209)) (T := tX12_lend) (ls := [some (eR (some (12, 0))), some (eI x1), some (eI x2), none, none, none]) rfl (Nat.le_of_ble_eq_true rfl) rfl (fun a0 e0 => ?_)
  unfold F_X12_lend at H
  refine nx_ld rfl rfl rfl rfl ?_
  refine nx_ld rfl rfl rfl rfl ?_
  refine nx_cVO 1 (as := [eI x1]) (st' := []) rfl rfl (Nat.le_of_ble_eq_true rfl) rfl rfl (Nat.le_of_ble_eq_true rfl) (c0 := 12) rfl (by decide) H (fun Q H => TF_X12_playerAt hW  H) (fun r21 H => ?_)
  refine nx_st (ls' := [some (eR (some (12, 0))), some (eI x1), some (eI x2), some (eO 1 r21), none, none]) rfl rfl rfl (Nat.le_of_ble_eq_true rfl) rfl ?_
  refine nx_ld rfl rfl rfl rfl ?_
  refine nx_ld rfl rfl rfl rfl ?_
  refine nx_cVO 1 (as := [eI x2]) (st' := []) rfl rfl (Nat.le_of_ble_eq_true rfl) rfl rfl (Nat.le_of_ble_eq_true rfl) (c0 := 12) rfl (by decide) H (fun Q H => TF_X12_clubAt hW  H) (fun r22 H => ?_)
  show nX _ _ _ _ _ _ 11 _ _ _ _ _
  refine nx_st (ls' := [some (eR (some (12, 0))), some (eI x1), some (eI x2), some (eO 1 r21), some (eO 1 r22), none]) rfl rfl rfl (Nat.le_of_ble_eq_true rfl) rfl ?_
  refine nx_ld rfl rfl rfl rfl ?_
  rcases r21 with _ | j23
  · replace H := oc_no H
    refine nx_null0 (c := 1) rfl rfl ?_
    refine nx_int (x := (-1)) rfl rfl ?_
    exact nx_rit rfl rfl H
  replace H := oc_so H
  refine nx_null1 rfl rfl ?_
  refine nx_ld rfl rfl rfl rfl ?_
  rcases r22 with _ | j24
  · replace H := oc_no H
    refine nx_null0 (c := 1) rfl rfl ?_
    refine nx_int (x := (-1)) rfl rfl ?_
    exact nx_rit rfl rfl H
  replace H := oc_so H
  refine nx_null1 rfl rfl ?_
  refine nx_ld rfl rfl rfl rfl ?_
  refine nx_getFix rfl rfl rfl (by decide) (by rw [hW]; rfl) rfl ?_
  refine nx_int (x := 7) rfl rfl ?_
  refine nx_iald (p := (3208, 0)) rfl rfl (Nat.le_of_ble_eq_true rfl) (Nat.le_of_ble_eq_true rfl) rfl H (fun H => ?_)
  refine nx_ld rfl rfl rfl rfl ?_
  refine nx_getI rfl rfl rfl (by decide) ?_
  refine nx_icmp rfl rfl (by rfl) H (fun H => ?_) (fun H => ?_)
  · refine nx_ld rfl rfl rfl rfl ?_
    refine nx_ld rfl rfl rfl rfl ?_
    refine nx_ld rfl rfl rfl rfl ?_
    refine nx_ld rfl rfl rfl rfl ?_
    refine nx_getFix rfl rfl rfl (by decide) (by rw [hW]; rfl) rfl ?_
    refine nx_int (x := 0) rfl rfl ?_
    refine nx_iald (p := (3208, 0)) rfl rfl (Nat.le_of_ble_eq_true rfl) (Nat.le_of_ble_eq_true rfl) rfl H (fun H => ?_)
    show nX _ _ _ _ _ _ 48 _ _ _ _ _
    refine nx_int (x := 1) rfl rfl ?_
    refine nx_cVI2 (as := [eO 1 (some j23), eO 1 (some j24), eI (tA t 3208 0 (0 : Int32).toNatClampNeg), eI 1]) (st' := []) rfl rfl (Nat.le_of_ble_eq_true rfl) rfl rfl (Nat.le_of_ble_eq_true rfl) (c0 := 12) rfl (by decide) H (fun Q H => TF_X12_whyNot hW  H) (fun x26 t27 H => ?_)
    refine nx_st (ls' := [some (eR (some (12, 0))), some (eI x1), some (eI x2), some (eR (some (1, j23))), some (eR (some (1, j24))), some (eI x26)]) rfl rfl rfl (Nat.le_of_ble_eq_true rfl) rfl ?_
    refine nx_ld rfl rfl rfl rfl ?_
    refine nx_if rfl rfl (by rfl) H (fun H => ?_) (fun H => ?_)
    · refine nx_ld rfl rfl rfl rfl ?_
      refine nx_cVI (as := []) (st' := []) rfl rfl (Nat.le_of_ble_eq_true rfl) rfl rfl (Nat.le_of_ble_eq_true rfl) (c0 := 12) rfl (by decide) H (fun Q H => TF_X12_movesOrSpansAreFull hW  H) (fun r28 H => ?_)
      refine nx_if rfl rfl (by rfl) H (fun H => ?_) (fun H => ?_)
      · refine nx_ld rfl rfl rfl rfl ?_
        refine nx_ld rfl rfl rfl rfl ?_
        refine nx_ld rfl rfl rfl rfl ?_
        refine nx_aVI2 2 29 (as := [eO 1 (some j23), eO 1 (some j24)]) (st' := []) rfl rfl (Nat.le_of_ble_eq_true rfl) rfl rfl (Nat.le_of_ble_eq_true rfl) (c0 := 12) rfl (by decide) (by omega) (by omega) H (fun Q H => TF_X12_makeLoan hW  H) (fun x30 t31 H => ?_)
        refine nx_eq (bc' := bc) (bs' := bs) (by omega) (by omega) ?_
        exact nx_rit rfl rfl H
      refine nx_int (x := (-3)) rfl rfl ?_
      refine nx_goto rfl rfl ?_
      exact nx_rit rfl rfl H
    refine nx_ld rfl rfl rfl rfl ?_
    refine nx_cSI (as := [eI x26]) (st' := []) rfl rfl (Nat.le_of_ble_eq_true rfl) rfl rfl (Nat.le_of_ble_eq_true rfl) H (fun Q H => TF_X12_refusal hW  H) (fun r32 H => ?_)
    exact nx_rit rfl rfl H
  refine nx_int (x := (-1)) rfl rfl ?_
  exact nx_rit rfl rfl H
def F_X12_moveAt (t : TS) (x1 : Int32) : Option (Option Nat) := (Option.bind (F_X12_within t x1 0 ((tI t 1207 0) - 1)) (fun r21 => (if r21 = 0 then (some none) else (gd x1 (tL t 3206 0) (nxt (tQ t 3206 0 x1.toNatClampNeg) (fun o22 => (some o22)))))))
theorem TF_X12_moveAt {W : NW} {d : Nat} {t : TS} {x1 : Int32} {Q : Option NV → TS → Prop} {bc bs : Nat} (hW : W.2.2.2 = mm_fx) (H : wp (F_X12_moveAt t x1) (fun r => Q (some (eO 6 r)) t)) : nC W (d + 2) 119 [eR (some (12, 0)), eI x1] t bc bs Q := by
  refine nC_in (d := (d + 1)) (T := tX12_moveAt) (ls := [some (eR (some (12, 0))), some (eI x1)]) rfl (Nat.le_of_ble_eq_true rfl) rfl (fun a0 e0 => ?_)
  unfold F_X12_moveAt at H
  refine nx_ld rfl rfl rfl rfl ?_
  refine nx_int (x := 0) rfl rfl ?_
  refine nx_ld rfl rfl rfl rfl ?_
  refine nx_getI rfl rfl rfl (by decide) ?_
  refine nx_int (x := 1) rfl rfl ?_
  refine nx_ii rfl rfl ?_
  refine nx_cSI (as := [eI x1, eI 0, eI ((tI t 1207 0) - 1)]) (st' := []) rfl rfl (Nat.le_of_ble_eq_true rfl) rfl rfl (Nat.le_of_ble_eq_true rfl) H (fun Q H => TF_X12_within hW  H) (fun r21 H => ?_)
  show nX _ _ _ _ _ _ 11 _ _ _ _ _
  refine nx_if rfl rfl (by rfl) H (fun H => ?_) (fun H => ?_)
  · refine nx_nul 6 rfl rfl ?_
    exact nx_ro 6 none rfl rfl H
  refine nx_ld rfl rfl rfl rfl ?_
  refine nx_getFix rfl rfl rfl (by decide) (by rw [hW]; rfl) rfl ?_
  refine nx_ld rfl rfl rfl rfl ?_
  refine nx_aald (c := 3206) (i := 0) rfl rfl (Nat.le_of_ble_eq_true rfl) (Nat.le_of_ble_eq_true rfl) (Nat.le_of_ble_eq_true rfl) rfl H (fun o22 H => ?_)
  refine nx_goto rfl rfl ?_
  exact nx_ro 6 o22 rfl rfl H
def F_X12_option (t : TS) (x1 : Int32) : Option (Int32 × TS) := (Option.bind (F_X12_moveAt t x1) (fun r21 => (oc r21 (some ((-1), t)) (fun j22 => (gd (1 : Int32) (tL t 3208 0) (if (tI t 1200 0) ≤ (tA t 3208 0 (1 : Int32).toNatClampNeg) then (if (tI t 605 j22) = 0 then (some ((-2), t)) else (if (tI t 606 j22) = 0 then (some ((-2), t)) else (if ¬ (tI t 608 j22) = 0 then (some ((-2), t)) else (nxt (tR t 607 j22) (fun o23 => (oc o23 none (fun j24 => (if ((tI t 1200 0) - 1) ≤ (tI t 1104 j24) then (nxt (tR t 601 j22) (fun o25 => (oc o25 none (fun j26 => (Option.bind (F_X1_owning t j26 (tI t 1200 0)) (fun r27 => (oc r27 (some ((-2), t)) (fun j28 => (nxt (tR t 1101 j28) (fun o29 => (nxt (tR t 602 j22) (fun o30 => (if (o29 : Option Nat) = o30 then (nxt (tR t 601 j22) (fun o31 => (nxt (tR t 603 j22) (fun o32 => (ob2 (F_X12_whyNot t o31 o32 (tI t 606 j22) 2) (fun x34 t35 => (if x34 = 0 then (Option.bind (F_X12_movesOrSpansAreFull t35) (fun r36 => (if r36 = 0 then (nxt (tR t35 601 j22) (fun o37 => (nxt (tR t35 603 j22) (fun o38 => (ob2 (F_X12_makeSale t35 o37 o38 (tI t35 606 j22) 2) (fun x40 t41 => (some (x40, t41)))))))) else (some ((-3), t35))))) else (Option.bind (F_X12_refusal t35 x34) (fun r42 => (some (r42, t35))))))))))) else (some ((-2), t))))))))))))))) else (some ((-2), t)))))))))) else (some ((-1), t))))))))
theorem TF_X12_option {W : NW} {d : Nat} {t : TS} {x1 : Int32} {Q : Option NV → TS → Prop} {bc bs : Nat} (hW : W.2.2.2 = mm_fx) (H : wp (F_X12_option t x1) (fun r => Q (some (eI r.1)) r.2)) : nC W (d + 210) 83 [eR (some (12, 0)), eI x1] t (bc + 3) (bs + 179) Q := by
  refine nC_in (d := (d + 209)) (T := tX12_option) (ls := [some (eR (some (12, 0))), some (eI x1), none, none, none]) rfl (Nat.le_of_ble_eq_true rfl) rfl (fun a0 e0 => ?_)
  unfold F_X12_option at H
  refine nx_ld rfl rfl rfl rfl ?_
  refine nx_ld rfl rfl rfl rfl ?_
  refine nx_cVO 6 (as := [eI x1]) (st' := []) rfl rfl (Nat.le_of_ble_eq_true rfl) rfl rfl (Nat.le_of_ble_eq_true rfl) (c0 := 12) rfl (by decide) H (fun Q H => TF_X12_moveAt hW  H) (fun r21 H => ?_)
  refine nx_st (ls' := [some (eR (some (12, 0))), some (eI x1), some (eO 6 r21), none, none]) rfl rfl rfl (Nat.le_of_ble_eq_true rfl) rfl ?_
  refine nx_ld rfl rfl rfl rfl ?_
  rcases r21 with _ | j22
  · replace H := oc_no H
    refine nx_null0 (c := 6) rfl rfl ?_
    refine nx_int (x := (-1)) rfl rfl ?_
    exact nx_rit rfl rfl H
  replace H := oc_so H
  refine nx_null1 rfl rfl ?_
  refine nx_ld rfl rfl rfl rfl ?_
  refine nx_getFix rfl rfl rfl (by decide) (by rw [hW]; rfl) rfl ?_
  refine nx_int (x := 1) rfl rfl ?_
  refine nx_iald (p := (3208, 0)) rfl rfl (Nat.le_of_ble_eq_true rfl) (Nat.le_of_ble_eq_true rfl) rfl H (fun H => ?_)
  refine nx_ld rfl rfl rfl rfl ?_
  refine nx_getI rfl rfl rfl (by decide) ?_
  refine nx_icmp rfl rfl (by rfl) H (fun H => ?_) (fun H => ?_)
  · refine nx_ld rfl rfl rfl rfl ?_
    refine nx_getI rfl rfl rfl (by decide) ?_
    refine nx_if rfl rfl (by rfl) H (fun H => ?_) (fun H => ?_)
    · refine nx_int (x := (-2)) rfl rfl ?_
      exact nx_rit rfl rfl H
    refine nx_ld rfl rfl rfl rfl ?_
    refine nx_getI rfl rfl rfl (by decide) ?_
    refine nx_if rfl rfl (by rfl) H (fun H => ?_) (fun H => ?_)
    · refine nx_int (x := (-2)) rfl rfl ?_
      exact nx_rit rfl rfl H
    refine nx_ld rfl rfl rfl rfl ?_
    refine nx_getI rfl rfl rfl (by decide) ?_
    refine nx_if rfl rfl (by rfl) H (fun H => ?_) (fun H => ?_)
    · refine nx_int (x := (-2)) rfl rfl ?_
      exact nx_rit rfl rfl H
    refine nx_ld rfl rfl rfl rfl ?_
    refine nx_getI rfl rfl rfl (by decide) ?_
    refine nx_int (x := 1) rfl rfl ?_
    refine nx_ii rfl rfl ?_
    refine nx_ld rfl rfl rfl rfl ?_
    refine nx_getR rfl rfl rfl (by decide) rfl H (fun o23 H => ?_)
    rcases o23 with _ | j24
    · exact (wp_none (oc_no H)).elim
    replace H := oc_so H
    refine nx_getI rfl rfl rfl (by decide) ?_
    show nX _ _ _ _ _ _ 59 _ _ _ _ _
    refine nx_icmp rfl rfl (by rfl) H (fun H => ?_) (fun H => ?_)
    · refine nx_ld rfl rfl rfl rfl ?_
      refine nx_getR rfl rfl rfl (by decide) rfl H (fun o25 H => ?_)
      refine nx_ld rfl rfl rfl rfl ?_
      refine nx_getI rfl rfl rfl (by decide) ?_
      rcases o25 with _ | j26
      · exact (wp_none (oc_no H)).elim
      replace H := oc_so H
      refine nx_cVO 11 (as := [eI (tI t 1200 0)]) (st' := []) rfl rfl (Nat.le_of_ble_eq_true rfl) rfl rfl (Nat.le_of_ble_eq_true rfl) (c0 := 1) rfl (by decide) H (fun Q H => TF_X1_owning hW  H) (fun r27 H => ?_)
      refine nx_st (ls' := [some (eR (some (12, 0))), some (eI x1), some (eR (some (6, j22))), some (eO 11 r27), none]) rfl rfl rfl (Nat.le_of_ble_eq_true rfl) rfl ?_
      refine nx_ld rfl rfl rfl rfl ?_
      show nX _ _ _ _ _ _ 78 _ _ _ _ _
      rcases r27 with _ | j28
      · replace H := oc_no H
        refine nx_null0 (c := 11) rfl rfl ?_
        refine nx_int (x := (-2)) rfl rfl ?_
        exact nx_rit rfl rfl H
      replace H := oc_so H
      refine nx_null1 rfl rfl ?_
      refine nx_ld rfl rfl rfl rfl ?_
      refine nx_getR rfl rfl rfl (by decide) rfl H (fun o29 H => ?_)
      refine nx_ld rfl rfl rfl rfl ?_
      refine nx_getR rfl rfl rfl (by decide) rfl H (fun o30 H => ?_)
      refine nx_aeq (c := 1) (o1 := o29) (o2 := o30) rfl rfl (by decide) H (fun H => ?_) (fun H => ?_)
      · refine nx_ld rfl rfl rfl rfl ?_
        refine nx_ld rfl rfl rfl rfl ?_
        refine nx_getR rfl rfl rfl (by decide) rfl H (fun o31 H => ?_)
        refine nx_ld rfl rfl rfl rfl ?_
        refine nx_getR rfl rfl rfl (by decide) rfl H (fun o32 H => ?_)
        refine nx_ld rfl rfl rfl rfl ?_
        refine nx_getI rfl rfl rfl (by decide) ?_
        show nX _ _ _ _ _ _ 108 _ _ _ _ _
        refine nx_int (x := 2) rfl rfl ?_
        refine nx_cVI2 (as := [eO 1 o31, eO 1 o32, eI (tI t 606 j22), eI 2]) (st' := []) rfl rfl (Nat.le_of_ble_eq_true rfl) rfl rfl (Nat.le_of_ble_eq_true rfl) (c0 := 12) rfl (by decide) H (fun Q H => TF_X12_whyNot hW  H) (fun x34 t35 H => ?_)
        refine nx_st (ls' := [some (eR (some (12, 0))), some (eI x1), some (eR (some (6, j22))), some (eR (some (11, j28))), some (eI x34)]) rfl rfl rfl (Nat.le_of_ble_eq_true rfl) rfl ?_
        refine nx_ld rfl rfl rfl rfl ?_
        refine nx_if rfl rfl (by rfl) H (fun H => ?_) (fun H => ?_)
        · refine nx_ld rfl rfl rfl rfl ?_
          refine nx_cVI (as := []) (st' := []) rfl rfl (Nat.le_of_ble_eq_true rfl) rfl rfl (Nat.le_of_ble_eq_true rfl) (c0 := 12) rfl (by decide) H (fun Q H => TF_X12_movesOrSpansAreFull hW  H) (fun r36 H => ?_)
          refine nx_if rfl rfl (by rfl) H (fun H => ?_) (fun H => ?_)
          · refine nx_ld rfl rfl rfl rfl ?_
            refine nx_ld rfl rfl rfl rfl ?_
            refine nx_getR rfl rfl rfl (by decide) rfl H (fun o37 H => ?_)
            refine nx_ld rfl rfl rfl rfl ?_
            refine nx_getR rfl rfl rfl (by decide) rfl H (fun o38 H => ?_)
            refine nx_ld rfl rfl rfl rfl ?_
            refine nx_getI rfl rfl rfl (by decide) ?_
            show nX _ _ _ _ _ _ 150 _ _ _ _ _
            refine nx_int (x := 2) rfl rfl ?_
            refine nx_aVI2 3 179 (as := [eO 1 o37, eO 1 o38, eI (tI t35 606 j22), eI 2]) (st' := []) rfl rfl (Nat.le_of_ble_eq_true rfl) rfl rfl (Nat.le_of_ble_eq_true rfl) (c0 := 12) rfl (by decide) (by omega) (by omega) H (fun Q H => TF_X12_makeSale hW  H) (fun x40 t41 H => ?_)
            refine nx_eq (bc' := bc) (bs' := bs) (by omega) (by omega) ?_
            exact nx_rit rfl rfl H
          refine nx_int (x := (-3)) rfl rfl ?_
          refine nx_goto rfl rfl ?_
          exact nx_rit rfl rfl H
        refine nx_ld rfl rfl rfl rfl ?_
        refine nx_cSI (as := [eI x34]) (st' := []) rfl rfl (Nat.le_of_ble_eq_true rfl) rfl rfl (Nat.le_of_ble_eq_true rfl) H (fun Q H => TF_X12_refusal hW  H) (fun r42 H => ?_)
        exact nx_rit rfl rfl H
      refine nx_int (x := (-2)) rfl rfl ?_
      exact nx_rit rfl rfl H
    refine nx_int (x := (-2)) rfl rfl ?_
    exact nx_rit rfl rfl H
  refine nx_int (x := (-1)) rfl rfl ?_
  exact nx_rit rfl rfl H
def F_X12_ofMove (t : TS) (x1 : Int32) (x2 : Int32) : Option Int32 := (Option.bind (F_X12_moveAt t x1) (fun r21 => (oc r21 (some ((-2000000000))) (fun j22 => (swi x2 0 [(nxt (tR t 601 j22) (fun o23 => (oc o23 none (fun j24 => (some ((tI t 100 j24))))))), (nxt (tR t 602 j22) (fun o25 => (oc o25 none (fun j26 => (some ((tI t 100 j26))))))), (nxt (tR t 603 j22) (fun o27 => (oc o27 none (fun j28 => (some ((tI t 100 j28))))))), (some ((tI t 604 j22))), (nxt (tR t 607 j22) (fun o29 => (oc o29 none (fun j30 => (some ((tI t 1103 j30))))))), (Option.bind (F_X12_bit t (tI t 605 j22)) (fun r31 => (some (r31)))), (Option.bind (F_X12_bit t (tI t 608 j22)) (fun r32 => (some (r32)))), (some ((tI t 611 j22))), (some ((tI t 613 j22))), (some ((tI t 615 j22))), (some ((tI t 619 j22)))] (some ((-2000000000))))))))
theorem TF_X12_ofMove {W : NW} {d : Nat} {t : TS} {x1 : Int32} {x2 : Int32} {Q : Option NV → TS → Prop} {bc bs : Nat} (hW : W.2.2.2 = mm_fx) (H : wp (F_X12_ofMove t x1 x2) (fun r => Q (some (eI r)) t)) : nC W (d + 3) 84 [eR (some (12, 0)), eI x1, eI x2] t bc bs Q := by
  refine nC_in (d := (d + 2)) (T := tX12_ofMove) (ls := [some (eR (some (12, 0))), some (eI x1), some (eI x2), none]) rfl (Nat.le_of_ble_eq_true rfl) rfl (fun a0 e0 => ?_)
  unfold F_X12_ofMove at H
  refine nx_ld rfl rfl rfl rfl ?_
  refine nx_ld rfl rfl rfl rfl ?_
  refine nx_cVO 6 (as := [eI x1]) (st' := []) rfl rfl (Nat.le_of_ble_eq_true rfl) rfl rfl (Nat.le_of_ble_eq_true rfl) (c0 := 12) rfl (by decide) H (fun Q H => TF_X12_moveAt hW  H) (fun r21 H => ?_)
  refine nx_st (ls' := [some (eR (some (12, 0))), some (eI x1), some (eI x2), some (eO 6 r21)]) rfl rfl rfl (Nat.le_of_ble_eq_true rfl) rfl ?_
  refine nx_ld rfl rfl rfl rfl ?_
  rcases r21 with _ | j22
  · replace H := oc_no H
    refine nx_non0 (c := 6) rfl rfl ?_
    refine nx_int (x := (-2000000000)) rfl rfl ?_
    exact nx_ri rfl rfl H
  replace H := oc_so H
  refine nx_non1 rfl rfl ?_
  refine nx_ld rfl rfl rfl rfl ?_
  refine nx_tsw rfl rfl (by decide) (by decide) (by decide) H (fun H => ?_) ?_
  · show nX _ _ _ _ _ _ 145 _ _ _ _ _
    refine nx_int (x := (-2000000000)) rfl rfl ?_
    exact nx_ri rfl rfl H
  refine ⟨fun H => ?_, fun H => ?_, fun H => ?_, fun H => ?_, fun H => ?_, fun H => ?_, fun H => ?_, fun H => ?_, fun H => ?_, fun H => ?_, fun H => ?_, trivial⟩
  · show nX _ _ _ _ _ _ 72 _ _ _ _ _
    refine nx_ld rfl rfl rfl rfl ?_
    refine nx_getR rfl rfl rfl (by decide) rfl H (fun o23 H => ?_)
    rcases o23 with _ | j24
    · exact (wp_none (oc_no H)).elim
    replace H := oc_so H
    refine nx_getI rfl rfl rfl (by decide) ?_
    exact nx_ri rfl rfl H
  · show nX _ _ _ _ _ _ 80 _ _ _ _ _
    refine nx_ld rfl rfl rfl rfl ?_
    refine nx_getR rfl rfl rfl (by decide) rfl H (fun o25 H => ?_)
    rcases o25 with _ | j26
    · exact (wp_none (oc_no H)).elim
    replace H := oc_so H
    refine nx_getI rfl rfl rfl (by decide) ?_
    exact nx_ri rfl rfl H
  · show nX _ _ _ _ _ _ 88 _ _ _ _ _
    refine nx_ld rfl rfl rfl rfl ?_
    refine nx_getR rfl rfl rfl (by decide) rfl H (fun o27 H => ?_)
    rcases o27 with _ | j28
    · exact (wp_none (oc_no H)).elim
    replace H := oc_so H
    refine nx_getI rfl rfl rfl (by decide) ?_
    exact nx_ri rfl rfl H
  · show nX _ _ _ _ _ _ 96 _ _ _ _ _
    refine nx_ld rfl rfl rfl rfl ?_
    refine nx_getI rfl rfl rfl (by decide) ?_
    exact nx_ri rfl rfl H
  · show nX _ _ _ _ _ _ 101 _ _ _ _ _
    refine nx_ld rfl rfl rfl rfl ?_
    refine nx_getR rfl rfl rfl (by decide) rfl H (fun o29 H => ?_)
    rcases o29 with _ | j30
    · exact (wp_none (oc_no H)).elim
    replace H := oc_so H
    refine nx_getI rfl rfl rfl (by decide) ?_
    exact nx_ri rfl rfl H
  · show nX _ _ _ _ _ _ 109 _ _ _ _ _
    refine nx_ld rfl rfl rfl rfl ?_
    refine nx_getI rfl rfl rfl (by decide) ?_
    refine nx_cSI (as := [eI (tI t 605 j22)]) (st' := []) rfl rfl (Nat.le_of_ble_eq_true rfl) rfl rfl (Nat.le_of_ble_eq_true rfl) H (fun Q H => TF_X12_bit hW  H) (fun r31 H => ?_)
    exact nx_ri rfl rfl H
  · show nX _ _ _ _ _ _ 117 _ _ _ _ _
    refine nx_ld rfl rfl rfl rfl ?_
    refine nx_getI rfl rfl rfl (by decide) ?_
    refine nx_cSI (as := [eI (tI t 608 j22)]) (st' := []) rfl rfl (Nat.le_of_ble_eq_true rfl) rfl rfl (Nat.le_of_ble_eq_true rfl) H (fun Q H => TF_X12_bit hW  H) (fun r32 H => ?_)
    exact nx_ri rfl rfl H
  · show nX _ _ _ _ _ _ 125 _ _ _ _ _
    refine nx_ld rfl rfl rfl rfl ?_
    refine nx_getI rfl rfl rfl (by decide) ?_
    exact nx_ri rfl rfl H
  · show nX _ _ _ _ _ _ 130 _ _ _ _ _
    refine nx_ld rfl rfl rfl rfl ?_
    refine nx_getI rfl rfl rfl (by decide) ?_
    exact nx_ri rfl rfl H
  · show nX _ _ _ _ _ _ 135 _ _ _ _ _
    refine nx_ld rfl rfl rfl rfl ?_
    refine nx_getI rfl rfl rfl (by decide) ?_
    exact nx_ri rfl rfl H
  · show nX _ _ _ _ _ _ 140 _ _ _ _ _
    refine nx_ld rfl rfl rfl rfl ?_
    refine nx_getI rfl rfl rfl (by decide) ?_
    exact nx_ri rfl rfl H
def F_X12_share (t : TS) (x1 : Int32) (x2 : Int32) : Option Int32 := (Option.bind (F_X12_moveAt t x1) (fun r21 => (Option.bind (F_X12_clubAt t x2) (fun r22 => (oc r21 (some ((-1))) (fun j23 => (oc r22 (some ((-1))) (fun j24 => (Option.bind (F_X6_shareOf t j23 (tI t 100 j24)) (fun r25 => (some (r25))))))))))))
theorem TF_X12_share {W : NW} {d : Nat} {t : TS} {x1 : Int32} {x2 : Int32} {Q : Option NV → TS → Prop} {bc bs : Nat} (hW : W.2.2.2 = mm_fx) (H : wp (F_X12_share t x1 x2) (fun r => Q (some (eI r)) t)) : nC W (d + 4) 85 [eR (some (12, 0)), eI x1, eI x2] t bc bs Q := by
  refine nC_in (d := (d + 3)) (T := tX12_share) (ls := [some (eR (some (12, 0))), some (eI x1), some (eI x2), none, none]) rfl (Nat.le_of_ble_eq_true rfl) rfl (fun a0 e0 => ?_)
  unfold F_X12_share at H
  refine nx_ld rfl rfl rfl rfl ?_
  refine nx_ld rfl rfl rfl rfl ?_
  refine nx_cVO 6 (as := [eI x1]) (st' := []) rfl rfl (Nat.le_of_ble_eq_true rfl) rfl rfl (Nat.le_of_ble_eq_true rfl) (c0 := 12) rfl (by decide) H (fun Q H => TF_X12_moveAt hW  H) (fun r21 H => ?_)
  refine nx_st (ls' := [some (eR (some (12, 0))), some (eI x1), some (eI x2), some (eO 6 r21), none]) rfl rfl rfl (Nat.le_of_ble_eq_true rfl) rfl ?_
  refine nx_ld rfl rfl rfl rfl ?_
  refine nx_ld rfl rfl rfl rfl ?_
  refine nx_cVO 1 (as := [eI x2]) (st' := []) rfl rfl (Nat.le_of_ble_eq_true rfl) rfl rfl (Nat.le_of_ble_eq_true rfl) (c0 := 12) rfl (by decide) H (fun Q H => TF_X12_clubAt hW  H) (fun r22 H => ?_)
  show nX _ _ _ _ _ _ 11 _ _ _ _ _
  refine nx_st (ls' := [some (eR (some (12, 0))), some (eI x1), some (eI x2), some (eO 6 r21), some (eO 1 r22)]) rfl rfl rfl (Nat.le_of_ble_eq_true rfl) rfl ?_
  refine nx_ld rfl rfl rfl rfl ?_
  rcases r21 with _ | j23
  · replace H := oc_no H
    refine nx_null0 (c := 6) rfl rfl ?_
    refine nx_int (x := (-1)) rfl rfl ?_
    exact nx_ri rfl rfl H
  replace H := oc_so H
  refine nx_null1 rfl rfl ?_
  refine nx_ld rfl rfl rfl rfl ?_
  rcases r22 with _ | j24
  · replace H := oc_no H
    refine nx_non0 (c := 1) rfl rfl ?_
    refine nx_int (x := (-1)) rfl rfl ?_
    exact nx_ri rfl rfl H
  replace H := oc_so H
  refine nx_non1 rfl rfl ?_
  refine nx_ld rfl rfl rfl rfl ?_
  refine nx_ld rfl rfl rfl rfl ?_
  refine nx_getI rfl rfl rfl (by decide) ?_
  refine nx_cVI (as := [eI (tI t 100 j24)]) (st' := []) rfl rfl (Nat.le_of_ble_eq_true rfl) rfl rfl (Nat.le_of_ble_eq_true rfl) (c0 := 6) rfl (by decide) H (fun Q H => TF_X6_shareOf hW  H) (fun r25 H => ?_)
  exact nx_ri rfl rfl H
def B_X12_play_117 (t : TS) (v2 : Int32) (v3 : Nat) (v4 : Nat) : Option (Int32 × TS) := (nxt (tR t 112 v3) (fun o21 => (nxt (tR t 1101 v4) (fun o22 => (oc o22 none (fun j23 => (oc o21 none (fun j24 => (gd (tI t 100 j23) (tL t 2112 j24) (gd (tI t 100 j23) (tL t 2112 j24) (nxt (uA t 2112 j24 (tI t 100 j23).toNatClampNeg ((tA t 2112 j24 (tI t 100 j23).toNatClampNeg) + v2)) (fun t25 => (nxt (tR t25 112 v3) (fun o26 => (nxt (tR t25 1101 v4) (fun o27 => (oc o27 none (fun j28 => (oc o26 none (fun j29 => (gd (tI t25 100 j28) (tL t25 2112 j29) (some ((tA t25 2112 j29 (tI t25 100 j28).toNatClampNeg), t25)))))))))))))))))))))))
theorem TB_X12_play_117 {W : NW} {d : Nat} {Q : Option NV → TS → Prop} {a0 : Nat → Nat → Nat} {e0 : Nat → Nat → Bool} {bc bs : Nat} (hW : W.2.2.2 = mm_fx) : ∀ (t : TS) (v1 : Int32) (v2 : Int32) (v3 : Nat) (v4 : Nat) (v5 : Int32), wp (B_X12_play_117 t v2 v3 v4) (fun r => Q (some (eI r.1)) r.2) → nX W (d + 3) tX12_play Q a0 e0 117 [some (eR (some (12, 0))), some (eI v1), some (eI v2), some (eR (some (1, v3))), some (eR (some (11, v4))), some (eI v5)] [] t (bc) (bs) := by
  intro t v1 v2 v3 v4 v5 H
  unfold B_X12_play_117 at H
  refine nx_ld rfl rfl rfl rfl ?_
  refine nx_getR rfl rfl rfl (by decide) rfl H (fun o21 H => ?_)
  refine nx_ld rfl rfl rfl rfl ?_
  refine nx_getR rfl rfl rfl (by decide) rfl H (fun o22 H => ?_)
  rcases o22 with _ | j23
  · exact (wp_none (oc_no H)).elim
  replace H := oc_so H
  refine nx_getI rfl rfl rfl (by decide) ?_
  refine nx_dup2 rfl rfl (Nat.ne_of_beq_eq_false rfl) (Nat.ne_of_beq_eq_false rfl) ?_
  rcases o21 with _ | j24
  · exact (wp_none (oc_no H)).elim
  replace H := oc_so H
  refine nx_iald (p := (2112, j24)) rfl rfl (Nat.le_of_ble_eq_true rfl) (Nat.le_of_ble_eq_true rfl) rfl H (fun H => ?_)
  show nX _ _ _ _ _ _ 131 _ _ _ _ _
  refine nx_ld rfl rfl rfl rfl ?_
  refine nx_ii rfl rfl ?_
  refine nx_iast (p := (2112, j24)) rfl rfl (Nat.le_of_ble_eq_true rfl) (Nat.le_of_ble_eq_true rfl) rfl H (fun t25 H => ?_)
  refine nx_ld rfl rfl rfl rfl ?_
  refine nx_getR rfl rfl rfl (by decide) rfl H (fun o26 H => ?_)
  refine nx_ld rfl rfl rfl rfl ?_
  refine nx_getR rfl rfl rfl (by decide) rfl H (fun o27 H => ?_)
  rcases o27 with _ | j28
  · exact (wp_none (oc_no H)).elim
  replace H := oc_so H
  refine nx_getI rfl rfl rfl (by decide) ?_
  show nX _ _ _ _ _ _ 146 _ _ _ _ _
  rcases o26 with _ | j29
  · exact (wp_none (oc_no H)).elim
  replace H := oc_so H
  refine nx_iald (p := (2112, j29)) rfl rfl (Nat.le_of_ble_eq_true rfl) (Nat.le_of_ble_eq_true rfl) rfl H (fun H => ?_)
  exact nx_rit rfl rfl H
def B_X12_play_101 (t : TS) (v2 : Int32) (v3 : Nat) (v4 : Nat) : Option (Int32 × TS) := (nxt (tR t 112 v3) (fun o21 => (oc o21 (gE (tE t 2112 v3) (nxt (uN t 2112 v3 150) (fun t23 => (nxt (uR t23 112 v3 (some v3)) (fun t24 => (B_X12_play_117  t24 v2 v3 v4)))))) (fun j22 => (B_X12_play_117  t v2 v3 v4)))))
theorem TB_X12_play_101 {W : NW} {d : Nat} {Q : Option NV → TS → Prop} {a0 : Nat → Nat → Nat} {e0 : Nat → Nat → Bool} {bc bs : Nat} (hW : W.2.2.2 = mm_fx) : ∀ (t : TS) (v1 : Int32) (v2 : Int32) (v3 : Nat) (v4 : Nat) (v5 : Int32), wp (B_X12_play_101 t v2 v3 v4) (fun r => Q (some (eI r.1)) r.2) → nX W (d + 3) tX12_play Q a0 e0 101 [some (eR (some (12, 0))), some (eI v1), some (eI v2), some (eR (some (1, v3))), some (eR (some (11, v4))), some (eI v5)] [] t (bc + 1) (bs + 150) := by
  intro t v1 v2 v3 v4 v5 H
  unfold B_X12_play_101 at H
  refine nx_ld rfl rfl rfl rfl ?_
  refine nx_getR rfl rfl rfl (by decide) rfl H (fun o21 H => ?_)
  rcases o21 with _ | j22
  · replace H := oc_no H
    refine nx_non0 (c := 2112) rfl rfl ?_
    refine nx_ld rfl rfl rfl rfl ?_
    refine nx_int (x := 150) rfl rfl ?_
    refine nx_newaL 2112 v3 150 rfl rfl (Nat.le_of_ble_eq_true rfl) (Nat.le_of_ble_eq_true rfl) rfl rfl (by decide) (Nat.le_of_ble_eq_true rfl) (by omega) (by omega) H (fun t23 H => ?_)
    refine nx_eq (bc' := bc) (bs' := bs) (by omega) (by omega) ?_
    refine nx_putR (f := 112) (o := (some v3)) rfl rfl rfl (by decide) (by rw [hW]; rfl) rfl (by decide) H (fun t24 H => ?_)
    refine nx_eq (bc' := (bc) + 0) (bs' := (bs) + 0) (by omega) (by omega) ?_
    exact TB_X12_play_117 hW    _ _ _ _ _ _ H
  replace H := oc_so H
  refine nx_non1 rfl rfl ?_
  refine nx_eq (bc' := (bc + 1) + 0) (bs' := (bs + 150) + 0) (by omega) (by omega) ?_
  exact TB_X12_play_117 hW    _ _ _ _ _ _ H
def B_X12_play_95 (k43 : TS → Int32 → Nat → Nat → Int32 → Option (Int32 × TS)) (t : TS) (v2 : Int32) (v3 : Nat) (v4 : Nat) (v5 : Int32) : Option (Int32 × TS) := (k43 t v2 v3 v4 (v5 + 1))
theorem TB_X12_play_95 {W : NW} {d : Nat} {Q : Option NV → TS → Prop} {a0 : Nat → Nat → Nat} {e0 : Nat → Nat → Bool} {k43 : TS → Int32 → Nat → Nat → Int32 → Option (Int32 × TS)} {bc bs : Nat} (hW : W.2.2.2 = mm_fx) (hk43 : ∀ (b' s' : Nat) (_ : bc ≤ b') (_ : bs ≤ s') (t : TS) (v1 : Int32) (v2 : Int32) (v3 : Nat) (v4 : Nat) (v5 : Int32), wp (k43 t v2 v3 v4 v5) (fun r => Q (some (eI r.1)) r.2) → nX W (d + 3) tX12_play Q a0 e0 43 [some (eR (some (12, 0))), some (eI v1), some (eI v2), some (eR (some (1, v3))), some (eR (some (11, v4))), some (eI v5)] [] t (b' + 1) (s' + 150)) : ∀ (t : TS) (v1 : Int32) (v2 : Int32) (v3 : Nat) (v4 : Nat) (v5 : Int32), wp (B_X12_play_95 k43 t v2 v3 v4 v5) (fun r => Q (some (eI r.1)) r.2) → nX W (d + 3) tX12_play Q a0 e0 95 [some (eR (some (12, 0))), some (eI v1), some (eI v2), some (eR (some (1, v3))), some (eR (some (11, v4))), some (eI v5)] [] t (bc + 1) (bs + 150) := by
  intro t v1 v2 v3 v4 v5 H
  unfold B_X12_play_95 at H
  refine nx_iinc2 1 (ls' := [some (eR (some (12, 0))), some (eI v1), some (eI v2), some (eR (some (1, v3))), some (eR (some (11, v4))), some (eI (v5 + 1))]) rfl rfl rfl rfl rfl ?_
  refine nx_goto rfl rfl ?_
  refine nx_eq (bc' := (bc) + 1) (bs' := (bs) + 150) (by omega) (by omega) ?_
  exact hk43 (bc) (bs) (by omega) (by omega) _ _ _ _ _ _ H
def BB_X12_play_43 (k43 : TS → Int32 → Nat → Nat → Int32 → Option (Int32 × TS)) (t : TS) (v2 : Int32) (v3 : Nat) (v4 : Nat) (v5 : Int32) : Option (Int32 × TS) := (if (tI t 1207 0) ≤ v5 then (B_X12_play_101  t v2 v3 v4) else (gd v5 (tL t 3206 0) (nxt (tQ t 3206 0 v5.toNatClampNeg) (fun o21 => (oc o21 none (fun j22 => (nxt (tR t 601 j22) (fun o23 => (if (o23 : Option Nat) = (some v3) then (gd v5 (tL t 3206 0) (nxt (tQ t 3206 0 v5.toNatClampNeg) (fun o24 => (oc o24 none (fun j25 => (nxt (tR t 603 j25) (fun o26 => (nxt (tR t 1101 v4) (fun o27 => (if (o26 : Option Nat) = o27 then (gd v5 (tL t 3206 0) (nxt (tQ t 3206 0 v5.toNatClampNeg) (fun o28 => (oc o28 none (fun j29 => (Option.bind (F_X6_countMatches t j29 v2) (fun r30 => (B_X12_play_95 k43 r30 v2 v3 v4 v5)))))))) else (B_X12_play_95 k43 t v2 v3 v4 v5))))))))))) else (B_X12_play_95 k43 t v2 v3 v4 v5))))))))))
theorem TBB_X12_play_43 {W : NW} {d : Nat} {Q : Option NV → TS → Prop} {a0 : Nat → Nat → Nat} {e0 : Nat → Nat → Bool} {k43 : TS → Int32 → Nat → Nat → Int32 → Option (Int32 × TS)} {bc bs : Nat} (hW : W.2.2.2 = mm_fx) (hk43 : ∀ (b' s' : Nat) (_ : bc ≤ b') (_ : bs ≤ s') (t : TS) (v1 : Int32) (v2 : Int32) (v3 : Nat) (v4 : Nat) (v5 : Int32), wp (k43 t v2 v3 v4 v5) (fun r => Q (some (eI r.1)) r.2) → nX W (d + 3) tX12_play Q a0 e0 43 [some (eR (some (12, 0))), some (eI v1), some (eI v2), some (eR (some (1, v3))), some (eR (some (11, v4))), some (eI v5)] [] t (b' + 1) (s' + 150)) : ∀ (t : TS) (v1 : Int32) (v2 : Int32) (v3 : Nat) (v4 : Nat) (v5 : Int32), wp (BB_X12_play_43 k43 t v2 v3 v4 v5) (fun r => Q (some (eI r.1)) r.2) → nX W (d + 3) tX12_play Q a0 e0 43 [some (eR (some (12, 0))), some (eI v1), some (eI v2), some (eR (some (1, v3))), some (eR (some (11, v4))), some (eI v5)] [] t (bc + 1) (bs + 150) := by
  intro t v1 v2 v3 v4 v5 H
  unfold BB_X12_play_43 at H
  refine nx_ld rfl rfl rfl rfl ?_
  refine nx_ld rfl rfl rfl rfl ?_
  refine nx_getI rfl rfl rfl (by decide) ?_
  refine nx_icmp rfl rfl (by rfl) H (fun H => ?_) (fun H => ?_)
  · refine nx_eq (bc' := (bc) + 1) (bs' := (bs) + 150) (by omega) (by omega) ?_
    exact TB_X12_play_101 hW    _ _ _ _ _ _ H
  refine nx_ld rfl rfl rfl rfl ?_
  refine nx_getFix rfl rfl rfl (by decide) (by rw [hW]; rfl) rfl ?_
  refine nx_ld rfl rfl rfl rfl ?_
  refine nx_aald (c := 3206) (i := 0) rfl rfl (Nat.le_of_ble_eq_true rfl) (Nat.le_of_ble_eq_true rfl) (Nat.le_of_ble_eq_true rfl) rfl H (fun o21 H => ?_)
  rcases o21 with _ | j22
  · exact (wp_none (oc_no H)).elim
  replace H := oc_so H
  refine nx_getR rfl rfl rfl (by decide) rfl H (fun o23 H => ?_)
  refine nx_ld rfl rfl rfl rfl ?_
  refine nx_ane (c := 1) (o1 := o23) (o2 := (some v3)) rfl rfl (by decide) H (fun H => ?_) (fun H => ?_)
  · refine nx_eq (bc' := (bc) + 1) (bs' := (bs) + 150) (by omega) (by omega) ?_
    exact TB_X12_play_95 hW   (fun b' s' g1 g2 => hk43 b' s' (by omega) (by omega)) _ _ _ _ _ _ H
  refine nx_ld rfl rfl rfl rfl ?_
  refine nx_getFix rfl rfl rfl (by decide) (by rw [hW]; rfl) rfl ?_
  refine nx_ld rfl rfl rfl rfl ?_
  refine nx_aald (c := 3206) (i := 0) rfl rfl (Nat.le_of_ble_eq_true rfl) (Nat.le_of_ble_eq_true rfl) (Nat.le_of_ble_eq_true rfl) rfl H (fun o24 H => ?_)
  rcases o24 with _ | j25
  · exact (wp_none (oc_no H)).elim
  replace H := oc_so H
  refine nx_getR rfl rfl rfl (by decide) rfl H (fun o26 H => ?_)
  refine nx_ld rfl rfl rfl rfl ?_
  refine nx_getR rfl rfl rfl (by decide) rfl H (fun o27 H => ?_)
  show nX _ _ _ _ _ _ 81 _ _ _ _ _
  refine nx_ane (c := 1) (o1 := o26) (o2 := o27) rfl rfl (by decide) H (fun H => ?_) (fun H => ?_)
  · refine nx_eq (bc' := (bc) + 1) (bs' := (bs) + 150) (by omega) (by omega) ?_
    exact TB_X12_play_95 hW   (fun b' s' g1 g2 => hk43 b' s' (by omega) (by omega)) _ _ _ _ _ _ H
  refine nx_ld rfl rfl rfl rfl ?_
  refine nx_getFix rfl rfl rfl (by decide) (by rw [hW]; rfl) rfl ?_
  refine nx_ld rfl rfl rfl rfl ?_
  refine nx_aald (c := 3206) (i := 0) rfl rfl (Nat.le_of_ble_eq_true rfl) (Nat.le_of_ble_eq_true rfl) (Nat.le_of_ble_eq_true rfl) rfl H (fun o28 H => ?_)
  refine nx_ld rfl rfl rfl rfl ?_
  rcases o28 with _ | j29
  · exact (wp_none (oc_no H)).elim
  replace H := oc_so H
  refine nx_cVVt (as := [eI v2]) (st' := []) rfl rfl (Nat.le_of_ble_eq_true rfl) rfl rfl (Nat.le_of_ble_eq_true rfl) (c0 := 6) rfl (by decide) H (fun Q H => TF_X6_countMatches hW  H) (fun r30 H => ?_)
  refine nx_eq (bc' := (bc) + 1) (bs' := (bs) + 150) (by omega) (by omega) ?_
  exact TB_X12_play_95 hW   (fun b' s' g1 g2 => hk43 b' s' (by omega) (by omega)) _ _ _ _ _ _ H
def B_X12_play_43 : Nat → TS → Int32 → Nat → Nat → Int32 → Option (Int32 × TS)
  | 0 => fun _ _ _ _ _ => none
  | n + 1 => fun t v2 v3 v4 v5 => BB_X12_play_43 (B_X12_play_43 n) t v2 v3 v4 v5
theorem TB_X12_play_43 {W : NW} {d : Nat} {Q : Option NV → TS → Prop} {a0 : Nat → Nat → Nat} {e0 : Nat → Nat → Bool} {bc bs : Nat} (hW : W.2.2.2 = mm_fx) : ∀ (n : Nat) (b0 s0 : Nat) (_ : bc ≤ b0) (_ : bs ≤ s0) (t : TS) (v1 : Int32) (v2 : Int32) (v3 : Nat) (v4 : Nat) (v5 : Int32), wp (B_X12_play_43 n t v2 v3 v4 v5) (fun r => Q (some (eI r.1)) r.2) → nX W (d + 3) tX12_play Q a0 e0 43 [some (eR (some (12, 0))), some (eI v1), some (eI v2), some (eR (some (1, v3))), some (eR (some (11, v4))), some (eI v5)] [] t (b0 + 0 * n + 1) (s0 + 0 * n + 150) := by
  intro n
  induction n with
  | zero => intro b0 s0 g1 g2 t v1 v2 v3 v4 v5 H; exact (wp_none H).elim
  | succ n ih =>
    intro b0 s0 g1 g2 t v1 v2 v3 v4 v5 H
    refine nx_eq (bc' := (b0 + 0 * n) + 1) (bs' := (s0 + 0 * n) + 150) (by omega) (by omega) ?_
    refine TBB_X12_play_43 (bc := b0 + 0 * n) (bs := s0 + 0 * n) hW    (fun b' s' g3 g4 => ?_) t v1 v2 v3 v4 v5 H
    intro t v1 v2 v3 v4 v5 H
    refine nx_eq (bc' := (b' - 0 * n) + 0 * n + 1) (bs' := (s' - 0 * n) + 0 * n + 150) (by omega) (by omega) ?_
    exact ih (b' - 0 * n) (s' - 0 * n) (by omega) (by omega) t v1 v2 v3 v4 v5 H
def F_X12_play (t : TS) (x1 : Int32) (x2 : Int32) : Option (Int32 × TS) := (Option.bind (F_X12_playerAt t x1) (fun r21 => (oc r21 (some ((-1), t)) (fun j22 => (Option.bind (F_X12_within t x2 1 60) (fun r23 => (if ¬ r23 = 0 then (Option.bind (F_X1_holding t j22 (tI t 1200 0)) (fun r24 => (oc r24 (some ((-2), t)) (fun j25 => (B_X12_play_43  10000 t x2 j22 j25 0))))) else (some ((-1), t)))))))))
theorem TF_X12_play {W : NW} {d : Nat} {t : TS} {x1 : Int32} {x2 : Int32} {Q : Option NV → TS → Prop} {bc bs : Nat} (hW : W.2.2.2 = mm_fx) (H : wp (F_X12_play t x1 x2) (fun r => Q (some (eI r.1)) r.2)) : nC W (d + 4) 86 [eR (some (12, 0)), eI x1, eI x2] t (bc + 1) (bs + 150) Q := by
  refine nC_in (d := (d + 3)) (T := tX12_play) (ls := [some (eR (some (12, 0))), some (eI x1), some (eI x2), none, none, none]) rfl (Nat.le_of_ble_eq_true rfl) rfl (fun a0 e0 => ?_)
  unfold F_X12_play at H
  refine nx_ld rfl rfl rfl rfl ?_
  refine nx_ld rfl rfl rfl rfl ?_
  refine nx_cVO 1 (as := [eI x1]) (st' := []) rfl rfl (Nat.le_of_ble_eq_true rfl) rfl rfl (Nat.le_of_ble_eq_true rfl) (c0 := 12) rfl (by decide) H (fun Q H => TF_X12_playerAt hW  H) (fun r21 H => ?_)
  refine nx_st (ls' := [some (eR (some (12, 0))), some (eI x1), some (eI x2), some (eO 1 r21), none, none]) rfl rfl rfl (Nat.le_of_ble_eq_true rfl) rfl ?_
  refine nx_ld rfl rfl rfl rfl ?_
  rcases r21 with _ | j22
  · replace H := oc_no H
    refine nx_null0 (c := 1) rfl rfl ?_
    refine nx_int (x := (-1)) rfl rfl ?_
    exact nx_rit rfl rfl H
  replace H := oc_so H
  refine nx_null1 rfl rfl ?_
  refine nx_ld rfl rfl rfl rfl ?_
  refine nx_int (x := 1) rfl rfl ?_
  refine nx_int (x := 60) rfl rfl ?_
  refine nx_cSI (as := [eI x2, eI 1, eI 60]) (st' := []) rfl rfl (Nat.le_of_ble_eq_true rfl) rfl rfl (Nat.le_of_ble_eq_true rfl) H (fun Q H => TF_X12_within hW  H) (fun r23 H => ?_)
  refine nx_if rfl rfl (by rfl) H (fun H => ?_) (fun H => ?_)
  · refine nx_ld rfl rfl rfl rfl ?_
    refine nx_ld rfl rfl rfl rfl ?_
    refine nx_getI rfl rfl rfl (by decide) ?_
    refine nx_cVO 11 (as := [eI (tI t 1200 0)]) (st' := []) rfl rfl (Nat.le_of_ble_eq_true rfl) rfl rfl (Nat.le_of_ble_eq_true rfl) (c0 := 1) rfl (by decide) H (fun Q H => TF_X1_holding hW  H) (fun r24 H => ?_)
    refine nx_st (ls' := [some (eR (some (12, 0))), some (eI x1), some (eI x2), some (eR (some (1, j22))), some (eO 11 r24), none]) rfl rfl rfl (Nat.le_of_ble_eq_true rfl) rfl ?_
    refine nx_ld rfl rfl rfl rfl ?_
    rcases r24 with _ | j25
    · replace H := oc_no H
      refine nx_non0 (c := 11) rfl rfl ?_
      refine nx_int (x := (-2)) rfl rfl ?_
      exact nx_rit rfl rfl H
    replace H := oc_so H
    refine nx_non1 rfl rfl ?_
    refine nx_int (x := 0) rfl rfl ?_
    refine nx_st (ls' := [some (eR (some (12, 0))), some (eI x1), some (eI x2), some (eR (some (1, j22))), some (eR (some (11, j25))), some (eI 0)]) rfl rfl rfl (Nat.le_of_ble_eq_true rfl) rfl ?_
    refine nx_eq (bc' := (bc) + 0 * 10000 + 1) (bs' := (bs) + 0 * 10000 + 150) (by omega) (by omega) ?_
    exact TB_X12_play_43 (bc := bc) (bs := bs) hW    10000 (bc) (bs) (by omega) (by omega) _ _ _ _ _ _ H
  refine nx_int (x := (-1)) rfl rfl ?_
  exact nx_rit rfl rfl H
