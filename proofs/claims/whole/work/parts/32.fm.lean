/-! functions of methods over the typed heap, and that the runs follow them (by program: wip/whole/walk.py) -/
def F_X13_signs (t : TS) (x1 : Int32) (x2 : Int32) : Option (Int32 × TS) := (gd x1 (tL t 3308 0) (if ¬ (tA t 3308 0 x1.toNatClampNeg) = 3 then (gd x1 (tL t 3308 0) (Option.bind (F_X13_isUnder t (tA t 3308 0 x1.toNatClampNeg) 5) (fun r21 => (if r21 = 0 then (ob2 (F_X13_plainSigns t x1 x2) (fun x23 t24 => (some (x23, t24)))) else (ob2 (F_X13_clubSigns t x1 x2) (fun x26 t27 => (some (x26, t27)))))))) else (Option.bind (F_X13_ran t 41) (fun r28 => (ob2 (F_X13_plainSigns r28 x1 x2) (fun x30 t31 => (ob2 (F_X13_plays t31 x1 0) (fun x33 t34 => (some ((x30 + x33), t34))))))))))
theorem TF_X13_signs {W : NW} {d : Nat} {t : TS} {x1 : Int32} {x2 : Int32} {Q : Option NV → TS → Prop} {bc bs : Nat} (hW : W.2.2.2 = mm_fx) (H : wp (F_X13_signs t x1 x2) (fun r => Q (some (eI r.1)) r.2)) : nC W (d + 5) 259 [eR (some (13, 0)), eI x1, eI x2] t bc bs Q := by
  refine nC_in (d := (d + 4)) (T := tX13_signs) (ls := [some (eR (some (13, 0))), some (eI x1), some (eI x2), none]) rfl (Nat.le_of_ble_eq_true rfl) rfl (fun a0 e0 => ?_)
  unfold F_X13_signs at H
  refine nx_ld rfl rfl rfl rfl ?_
  refine nx_getFix rfl rfl rfl (by decide) (by rw [hW]; rfl) rfl ?_
  refine nx_ld rfl rfl rfl rfl ?_
  refine nx_iald (p := (3308, 0)) rfl rfl (Nat.le_of_ble_eq_true rfl) (Nat.le_of_ble_eq_true rfl) rfl H (fun H => ?_)
  refine nx_int (x := 3) rfl rfl ?_
  refine nx_icmp rfl rfl (by rfl) H (fun H => ?_) (fun H => ?_)
  · refine nx_ld rfl rfl rfl rfl ?_
    refine nx_getFix rfl rfl rfl (by decide) (by rw [hW]; rfl) rfl ?_
    refine nx_ld rfl rfl rfl rfl ?_
    refine nx_iald (p := (3308, 0)) rfl rfl (Nat.le_of_ble_eq_true rfl) (Nat.le_of_ble_eq_true rfl) rfl H (fun H => ?_)
    refine nx_int (x := 5) rfl rfl ?_
    refine nx_cSI (as := [eI (tA t 3308 0 x1.toNatClampNeg), eI 5]) (st' := []) rfl rfl (Nat.le_of_ble_eq_true rfl) rfl rfl (Nat.le_of_ble_eq_true rfl) H (fun Q H => TF_X13_isUnder hW  H) (fun r21 H => ?_)
    refine nx_if rfl rfl (by rfl) H (fun H => ?_) (fun H => ?_)
    · refine nx_ld rfl rfl rfl rfl ?_
      refine nx_ld rfl rfl rfl rfl ?_
      refine nx_ld rfl rfl rfl rfl ?_
      refine nx_cVI2 (as := [eI x1, eI x2]) (st' := []) rfl rfl (Nat.le_of_ble_eq_true rfl) rfl rfl (Nat.le_of_ble_eq_true rfl) (c0 := 13) rfl (by decide) H (fun Q H => TF_X13_plainSigns hW  H) (fun x23 t24 H => ?_)
      exact nx_rit rfl rfl H
    refine nx_ld rfl rfl rfl rfl ?_
    refine nx_ld rfl rfl rfl rfl ?_
    refine nx_ld rfl rfl rfl rfl ?_
    refine nx_cVI2 (as := [eI x1, eI x2]) (st' := []) rfl rfl (Nat.le_of_ble_eq_true rfl) rfl rfl (Nat.le_of_ble_eq_true rfl) (c0 := 13) rfl (by decide) H (fun Q H => TF_X13_clubSigns hW  H) (fun x26 t27 H => ?_)
    refine nx_goto rfl rfl ?_
    exact nx_rit rfl rfl H
  refine nx_ld rfl rfl rfl rfl ?_
  refine nx_int (x := 41) rfl rfl ?_
  refine nx_cVVt (as := [eI 41]) (st' := []) rfl rfl (Nat.le_of_ble_eq_true rfl) rfl rfl (Nat.le_of_ble_eq_true rfl) (c0 := 13) rfl (by decide) H (fun Q H => TF_X13_ran hW  H) (fun r28 H => ?_)
  refine nx_ld rfl rfl rfl rfl ?_
  refine nx_ld rfl rfl rfl rfl ?_
  refine nx_ld rfl rfl rfl rfl ?_
  refine nx_cVI2 (as := [eI x1, eI x2]) (st' := []) rfl rfl (Nat.le_of_ble_eq_true rfl) rfl rfl (Nat.le_of_ble_eq_true rfl) (c0 := 13) rfl (by decide) H (fun Q H => TF_X13_plainSigns hW  H) (fun x30 t31 H => ?_)
  show nX _ _ _ _ _ _ 22 _ _ _ _ _
  refine nx_st (ls' := [some (eR (some (13, 0))), some (eI x1), some (eI x2), some (eI x30)]) rfl rfl rfl (Nat.le_of_ble_eq_true rfl) rfl ?_
  refine nx_ld rfl rfl rfl rfl ?_
  refine nx_ld rfl rfl rfl rfl ?_
  refine nx_ld rfl rfl rfl rfl ?_
  refine nx_int (x := 0) rfl rfl ?_
  refine nx_cVI2 (as := [eI x1, eI 0]) (st' := [eI x30]) rfl rfl (Nat.le_of_ble_eq_true rfl) rfl rfl (Nat.le_of_ble_eq_true rfl) (c0 := 13) rfl (by decide) H (fun Q H => TF_X13_plays hW  H) (fun x33 t34 H => ?_)
  refine nx_ii rfl rfl ?_
  exact nx_rit rfl rfl H
def F_X13_plainTells (t : TS) (x1 : Int32) (x2 : Int32) : Option (Int32 × TS) := (Option.bind (F_X13_ran t 2) (fun r21 => (ob2 (F_X13_pays r21 x1 x2) (fun x23 t24 => (ob2 (F_X13_signs t24 x1 x23) (fun x26 t27 => (some (x26, t27))))))))
theorem TF_X13_plainTells {W : NW} {d : Nat} {t : TS} {x1 : Int32} {x2 : Int32} {Q : Option NV → TS → Prop} {bc bs : Nat} (hW : W.2.2.2 = mm_fx) (H : wp (F_X13_plainTells t x1 x2) (fun r => Q (some (eI r.1)) r.2)) : nC W (d + 8) 260 [eR (some (13, 0)), eI x1, eI x2] t bc bs Q := by
  refine nC_in (d := (d + 7)) (T := tX13_plainTells) (ls := [some (eR (some (13, 0))), some (eI x1), some (eI x2), none]) rfl (Nat.le_of_ble_eq_true rfl) rfl (fun a0 e0 => ?_)
  unfold F_X13_plainTells at H
  refine nx_ld rfl rfl rfl rfl ?_
  refine nx_int (x := 2) rfl rfl ?_
  refine nx_cVVt (as := [eI 2]) (st' := []) rfl rfl (Nat.le_of_ble_eq_true rfl) rfl rfl (Nat.le_of_ble_eq_true rfl) (c0 := 13) rfl (by decide) H (fun Q H => TF_X13_ran hW  H) (fun r21 H => ?_)
  refine nx_ld rfl rfl rfl rfl ?_
  refine nx_ld rfl rfl rfl rfl ?_
  refine nx_ld rfl rfl rfl rfl ?_
  refine nx_cVI2 (as := [eI x1, eI x2]) (st' := []) rfl rfl (Nat.le_of_ble_eq_true rfl) rfl rfl (Nat.le_of_ble_eq_true rfl) (c0 := 13) rfl (by decide) H (fun Q H => TF_X13_pays hW  H) (fun x23 t24 H => ?_)
  show nX _ _ _ _ _ _ 11 _ _ _ _ _
  refine nx_st (ls' := [some (eR (some (13, 0))), some (eI x1), some (eI x2), some (eI x23)]) rfl rfl rfl (Nat.le_of_ble_eq_true rfl) rfl ?_
  refine nx_ld rfl rfl rfl rfl ?_
  refine nx_ld rfl rfl rfl rfl ?_
  refine nx_ld rfl rfl rfl rfl ?_
  refine nx_cVI2 (as := [eI x1, eI x23]) (st' := []) rfl rfl (Nat.le_of_ble_eq_true rfl) rfl rfl (Nat.le_of_ble_eq_true rfl) (c0 := 13) rfl (by decide) H (fun Q H => TF_X13_signs hW  H) (fun x26 t27 H => ?_)
  exact nx_rit rfl rfl H
def F_X13_tells (t : TS) (x1 : Int32) (x2 : Int32) : Option (Int32 × TS) := (gd x1 (tL t 3308 0) (Option.bind (F_X13_isUnder t (tA t 3308 0 x1.toNatClampNeg) 2) (fun r21 => (if r21 = 0 then (gd x1 (tL t 3308 0) (if ¬ (tA t 3308 0 x1.toNatClampNeg) = 6 then (ob2 (F_X13_plainTells t x1 x2) (fun x23 t24 => (some (x23, t24)))) else (Option.bind (F_X13_ran t 70) (fun r25 => (ob2 (F_X13_plainTells r25 x1 x2) (fun x27 t28 => (ob2 (F_X13_plays t28 x1 1) (fun x30 t31 => (some ((x27 - x30), t31)))))))))) else (Option.bind (F_X13_ran t 31) (fun r32 => (ob2 (F_X13_plainTells r32 x1 x2) (fun x34 t35 => (some ((x34 + 1), t35))))))))))
theorem TF_X13_tells {W : NW} {d : Nat} {t : TS} {x1 : Int32} {x2 : Int32} {Q : Option NV → TS → Prop} {bc bs : Nat} (hW : W.2.2.2 = mm_fx) (H : wp (F_X13_tells t x1 x2) (fun r => Q (some (eI r.1)) r.2)) : nC W (d + 9) 261 [eR (some (13, 0)), eI x1, eI x2] t bc bs Q := by
  refine nC_in (d := (d + 8)) (T := tX13_tells) (ls := [some (eR (some (13, 0))), some (eI x1), some (eI x2), none]) rfl (Nat.le_of_ble_eq_true rfl) rfl (fun a0 e0 => ?_)
  unfold F_X13_tells at H
  refine nx_ld rfl rfl rfl rfl ?_
  refine nx_getFix rfl rfl rfl (by decide) (by rw [hW]; rfl) rfl ?_
  refine nx_ld rfl rfl rfl rfl ?_
  refine nx_iald (p := (3308, 0)) rfl rfl (Nat.le_of_ble_eq_true rfl) (Nat.le_of_ble_eq_true rfl) rfl H (fun H => ?_)
  refine nx_int (x := 2) rfl rfl ?_
  refine nx_cSI (as := [eI (tA t 3308 0 x1.toNatClampNeg), eI 2]) (st' := []) rfl rfl (Nat.le_of_ble_eq_true rfl) rfl rfl (Nat.le_of_ble_eq_true rfl) H (fun Q H => TF_X13_isUnder hW  H) (fun r21 H => ?_)
  refine nx_if rfl rfl (by rfl) H (fun H => ?_) (fun H => ?_)
  · refine nx_ld rfl rfl rfl rfl ?_
    refine nx_getFix rfl rfl rfl (by decide) (by rw [hW]; rfl) rfl ?_
    refine nx_ld rfl rfl rfl rfl ?_
    refine nx_iald (p := (3308, 0)) rfl rfl (Nat.le_of_ble_eq_true rfl) (Nat.le_of_ble_eq_true rfl) rfl H (fun H => ?_)
    refine nx_int (x := 6) rfl rfl ?_
    refine nx_icmp rfl rfl (by rfl) H (fun H => ?_) (fun H => ?_)
    · refine nx_ld rfl rfl rfl rfl ?_
      refine nx_ld rfl rfl rfl rfl ?_
      refine nx_ld rfl rfl rfl rfl ?_
      refine nx_cVI2 (as := [eI x1, eI x2]) (st' := []) rfl rfl (Nat.le_of_ble_eq_true rfl) rfl rfl (Nat.le_of_ble_eq_true rfl) (c0 := 13) rfl (by decide) H (fun Q H => TF_X13_plainTells hW  H) (fun x23 t24 H => ?_)
      exact nx_rit rfl rfl H
    refine nx_ld rfl rfl rfl rfl ?_
    refine nx_int (x := 70) rfl rfl ?_
    refine nx_cVVt (as := [eI 70]) (st' := []) rfl rfl (Nat.le_of_ble_eq_true rfl) rfl rfl (Nat.le_of_ble_eq_true rfl) (c0 := 13) rfl (by decide) H (fun Q H => TF_X13_ran hW  H) (fun r25 H => ?_)
    refine nx_ld rfl rfl rfl rfl ?_
    refine nx_ld rfl rfl rfl rfl ?_
    refine nx_ld rfl rfl rfl rfl ?_
    refine nx_cVI2 (as := [eI x1, eI x2]) (st' := []) rfl rfl (Nat.le_of_ble_eq_true rfl) rfl rfl (Nat.le_of_ble_eq_true rfl) (c0 := 13) rfl (by decide) H (fun Q H => TF_X13_plainTells hW  H) (fun x27 t28 H => ?_)
    show nX _ _ _ _ _ _ 51 _ _ _ _ _
    refine nx_st (ls' := [some (eR (some (13, 0))), some (eI x1), some (eI x2), some (eI x27)]) rfl rfl rfl (Nat.le_of_ble_eq_true rfl) rfl ?_
    refine nx_ld rfl rfl rfl rfl ?_
    refine nx_ld rfl rfl rfl rfl ?_
    refine nx_ld rfl rfl rfl rfl ?_
    refine nx_int (x := 1) rfl rfl ?_
    refine nx_cVI2 (as := [eI x1, eI 1]) (st' := [eI x27]) rfl rfl (Nat.le_of_ble_eq_true rfl) rfl rfl (Nat.le_of_ble_eq_true rfl) (c0 := 13) rfl (by decide) H (fun Q H => TF_X13_plays hW  H) (fun x30 t31 H => ?_)
    refine nx_ii rfl rfl ?_
    exact nx_rit rfl rfl H
  refine nx_ld rfl rfl rfl rfl ?_
  refine nx_int (x := 31) rfl rfl ?_
  refine nx_cVVt (as := [eI 31]) (st' := []) rfl rfl (Nat.le_of_ble_eq_true rfl) rfl rfl (Nat.le_of_ble_eq_true rfl) (c0 := 13) rfl (by decide) H (fun Q H => TF_X13_ran hW  H) (fun r32 H => ?_)
  refine nx_ld rfl rfl rfl rfl ?_
  refine nx_ld rfl rfl rfl rfl ?_
  refine nx_ld rfl rfl rfl rfl ?_
  refine nx_cVI2 (as := [eI x1, eI x2]) (st' := []) rfl rfl (Nat.le_of_ble_eq_true rfl) rfl rfl (Nat.le_of_ble_eq_true rfl) (c0 := 13) rfl (by decide) H (fun Q H => TF_X13_plainTells hW  H) (fun x34 t35 H => ?_)
  show nX _ _ _ _ _ _ 25 _ _ _ _ _
  refine nx_int (x := 1) rfl rfl ?_
  refine nx_ii rfl rfl ?_
  exact nx_rit rfl rfl H
def F_X13_act (t : TS) (x1 : Int32) (x2 : Int32) (x3 : Int32) : Option (Int32 × TS) := (nxt (uI t 1391 0 0) (fun t21 => (Option.bind (F_X13_isBody t21 x1) (fun r22 => (if r22 = 0 then (some (0, t21)) else (Option.bind (F_X13_in t21 x2 0 3) (fun r23 => (if ¬ r23 = 0 then (if ¬ x2 = 0 then (if ¬ x2 = 1 then (if ¬ x2 = 2 then (ob2 (F_X13_tells t21 x1 x3) (fun x25 t26 => (some (x25, t26)))) else (ob2 (F_X13_signs t21 x1 x3) (fun x28 t29 => (some (x28, t29))))) else (ob2 (F_X13_pays t21 x1 x3) (fun x31 t32 => (some (x31, t32))))) else (ob2 (F_X13_plays t21 x1 x3) (fun x34 t35 => (some (x34, t35))))) else (some (0, t21))))))))))
theorem TF_X13_act {W : NW} {d : Nat} {t : TS} {x1 : Int32} {x2 : Int32} {x3 : Int32} {Q : Option NV → TS → Prop} {bc bs : Nat} (hW : W.2.2.2 = mm_fx) (H : wp (F_X13_act t x1 x2 x3) (fun r => Q (some (eI r.1)) r.2)) : nC W (d + 10) 262 [eR (some (13, 0)), eI x1, eI x2, eI x3] t bc bs Q := by
  refine nC_in (d := (d + 9)) (T := tX13_act) (ls := [some (eR (some (13, 0))), some (eI x1), some (eI x2), some (eI x3)]) rfl (Nat.le_of_ble_eq_true rfl) rfl (fun a0 e0 => ?_)
  unfold F_X13_act at H
  refine nx_ld rfl rfl rfl rfl ?_
  refine nx_int (x := 0) rfl rfl ?_
  refine nx_putI rfl rfl rfl (by decide) H (fun t21 H => ?_)
  refine nx_ld rfl rfl rfl rfl ?_
  refine nx_ld rfl rfl rfl rfl ?_
  refine nx_cVI (as := [eI x1]) (st' := []) rfl rfl (Nat.le_of_ble_eq_true rfl) rfl rfl (Nat.le_of_ble_eq_true rfl) (c0 := 13) rfl (by decide) H (fun Q H => TF_X13_isBody hW  H) (fun r22 H => ?_)
  refine nx_if rfl rfl (by rfl) H (fun H => ?_) (fun H => ?_)
  · refine nx_int (x := 0) rfl rfl ?_
    exact nx_rit rfl rfl H
  refine nx_ld rfl rfl rfl rfl ?_
  refine nx_int (x := 0) rfl rfl ?_
  refine nx_int (x := 3) rfl rfl ?_
  refine nx_cSI (as := [eI x2, eI 0, eI 3]) (st' := []) rfl rfl (Nat.le_of_ble_eq_true rfl) rfl rfl (Nat.le_of_ble_eq_true rfl) H (fun Q H => TF_X13_in hW  H) (fun r23 H => ?_)
  refine nx_if rfl rfl (by rfl) H (fun H => ?_) (fun H => ?_)
  · refine nx_ld rfl rfl rfl rfl ?_
    refine nx_if rfl rfl (by rfl) H (fun H => ?_) (fun H => ?_)
    · refine nx_ld rfl rfl rfl rfl ?_
      refine nx_int (x := 1) rfl rfl ?_
      refine nx_icmp rfl rfl (by rfl) H (fun H => ?_) (fun H => ?_)
      · refine nx_ld rfl rfl rfl rfl ?_
        refine nx_int (x := 2) rfl rfl ?_
        refine nx_icmp rfl rfl (by rfl) H (fun H => ?_) (fun H => ?_)
        · refine nx_ld rfl rfl rfl rfl ?_
          refine nx_ld rfl rfl rfl rfl ?_
          refine nx_ld rfl rfl rfl rfl ?_
          refine nx_cVI2 (as := [eI x1, eI x3]) (st' := []) rfl rfl (Nat.le_of_ble_eq_true rfl) rfl rfl (Nat.le_of_ble_eq_true rfl) (c0 := 13) rfl (by decide) H (fun Q H => TF_X13_tells hW  H) (fun x25 t26 H => ?_)
          exact nx_rit rfl rfl H
        refine nx_ld rfl rfl rfl rfl ?_
        refine nx_ld rfl rfl rfl rfl ?_
        refine nx_ld rfl rfl rfl rfl ?_
        refine nx_cVI2 (as := [eI x1, eI x3]) (st' := []) rfl rfl (Nat.le_of_ble_eq_true rfl) rfl rfl (Nat.le_of_ble_eq_true rfl) (c0 := 13) rfl (by decide) H (fun Q H => TF_X13_signs hW  H) (fun x28 t29 H => ?_)
        refine nx_goto rfl rfl ?_
        exact nx_rit rfl rfl H
      refine nx_ld rfl rfl rfl rfl ?_
      refine nx_ld rfl rfl rfl rfl ?_
      refine nx_ld rfl rfl rfl rfl ?_
      refine nx_cVI2 (as := [eI x1, eI x3]) (st' := []) rfl rfl (Nat.le_of_ble_eq_true rfl) rfl rfl (Nat.le_of_ble_eq_true rfl) (c0 := 13) rfl (by decide) H (fun Q H => TF_X13_pays hW  H) (fun x31 t32 H => ?_)
      refine nx_goto rfl rfl ?_
      exact nx_rit rfl rfl H
    refine nx_ld rfl rfl rfl rfl ?_
    refine nx_ld rfl rfl rfl rfl ?_
    refine nx_ld rfl rfl rfl rfl ?_
    refine nx_cVI2 (as := [eI x1, eI x3]) (st' := []) rfl rfl (Nat.le_of_ble_eq_true rfl) rfl rfl (Nat.le_of_ble_eq_true rfl) (c0 := 13) rfl (by decide) H (fun Q H => TF_X13_plays hW  H) (fun x34 t35 H => ?_)
    refine nx_goto rfl rfl ?_
    exact nx_rit rfl rfl H
  refine nx_int (x := 0) rfl rfl ?_
  exact nx_rit rfl rfl H
def F_X13_trace (t : TS) (x1 : Int32) : Option Int32 := (if x1 < 0 then (some ((-1))) else (if (tI t 1391 0) ≤ x1 then (some ((-1))) else (if 24 ≤ x1 then (some ((-1))) else (gd x1 (tL t 3392 0) (some ((tA t 3392 0 x1.toNatClampNeg)))))))
theorem TF_X13_trace {W : NW} {d : Nat} {t : TS} {x1 : Int32} {Q : Option NV → TS → Prop} {bc bs : Nat} (hW : W.2.2.2 = mm_fx) (H : wp (F_X13_trace t x1) (fun r => Q (some (eI r)) t)) : nC W (d + 1) 263 [eR (some (13, 0)), eI x1] t bc bs Q := by
  refine nC_in (d := d) (T := tX13_trace) (ls := [some (eR (some (13, 0))), some (eI x1)]) rfl (Nat.le_of_ble_eq_true rfl) rfl (fun a0 e0 => ?_)
  unfold F_X13_trace at H
  refine nx_ld rfl rfl rfl rfl ?_
  refine nx_if rfl rfl (by rfl) H (fun H => ?_) (fun H => ?_)
  · refine nx_int (x := (-1)) rfl rfl ?_
    exact nx_ri rfl rfl H
  refine nx_ld rfl rfl rfl rfl ?_
  refine nx_ld rfl rfl rfl rfl ?_
  refine nx_getI rfl rfl rfl (by decide) ?_
  refine nx_icmp rfl rfl (by rfl) H (fun H => ?_) (fun H => ?_)
  · refine nx_int (x := (-1)) rfl rfl ?_
    exact nx_ri rfl rfl H
  refine nx_ld rfl rfl rfl rfl ?_
  refine nx_int (x := 24) rfl rfl ?_
  refine nx_icmp rfl rfl (by rfl) H (fun H => ?_) (fun H => ?_)
  · refine nx_int (x := (-1)) rfl rfl ?_
    exact nx_ri rfl rfl H
  refine nx_ld rfl rfl rfl rfl ?_
  refine nx_getFix rfl rfl rfl (by decide) (by rw [hW]; rfl) rfl ?_
  refine nx_ld rfl rfl rfl rfl ?_
  refine nx_iald (p := (3392, 0)) rfl rfl (Nat.le_of_ble_eq_true rfl) (Nat.le_of_ble_eq_true rfl) rfl H (fun H => ?_)
  refine nx_goto rfl rfl ?_
  exact nx_ri rfl rfl H
def B_X13_keep_22 (t : TS) (v1 : Int32) (v2 : Int32) : Option (Int32 × TS) := (gd v1 (tL t 3393 0) (nxt (uA t 3393 0 v1.toNatClampNeg v2) (fun t21 => (some (1, t21)))))
theorem TB_X13_keep_22 {W : NW} {d : Nat} {Q : Option NV → TS → Prop} {a0 : Nat → Nat → Nat} {e0 : Nat → Nat → Bool} {bc bs : Nat} (hW : W.2.2.2 = mm_fx) : ∀ (t : TS) (v1 : Int32) (v2 : Int32), wp (B_X13_keep_22 t v1 v2) (fun r => Q (some (eI r.1)) r.2) → nX W (d + 2) tX13_keep Q a0 e0 22 [some (eR (some (13, 0))), some (eI v1), some (eI v2)] [] t bc bs := by
  intro t v1 v2 H
  unfold B_X13_keep_22 at H
  refine nx_ld rfl rfl rfl rfl ?_
  refine nx_getFix rfl rfl rfl (by decide) (by rw [hW]; rfl) rfl ?_
  refine nx_ld rfl rfl rfl rfl ?_
  refine nx_ld rfl rfl rfl rfl ?_
  refine nx_iast (p := (3393, 0)) rfl rfl (Nat.le_of_ble_eq_true rfl) (Nat.le_of_ble_eq_true rfl) rfl H (fun t21 H => ?_)
  refine nx_int (x := 1) rfl rfl ?_
  exact nx_rit rfl rfl H
def F_X13_keep (t : TS) (x1 : Int32) (x2 : Int32) : Option (Int32 × TS) := (Option.bind (F_X13_isShelf t x1) (fun r21 => (if r21 = 0 then (some ((-1), t)) else (if x2 = (-1) then (B_X13_keep_22  t x1 x2) else (Option.bind (F_X13_isBody t x2) (fun r22 => (if ¬ r22 = 0 then (B_X13_keep_22  t x1 x2) else (some ((-1), t)))))))))
theorem TF_X13_keep {W : NW} {d : Nat} {t : TS} {x1 : Int32} {x2 : Int32} {Q : Option NV → TS → Prop} {bc bs : Nat} (hW : W.2.2.2 = mm_fx) (H : wp (F_X13_keep t x1 x2) (fun r => Q (some (eI r.1)) r.2)) : nC W (d + 3) 265 [eR (some (13, 0)), eI x1, eI x2] t bc bs Q := by
  refine nC_in (d := (d + 2)) (T := tX13_keep) (ls := [some (eR (some (13, 0))), some (eI x1), some (eI x2)]) rfl (Nat.le_of_ble_eq_true rfl) rfl (fun a0 e0 => ?_)
  unfold F_X13_keep at H
  refine nx_ld rfl rfl rfl rfl ?_
  refine nx_cSI (as := [eI x1]) (st' := []) rfl rfl (Nat.le_of_ble_eq_true rfl) rfl rfl (Nat.le_of_ble_eq_true rfl) H (fun Q H => TF_X13_isShelf hW  H) (fun r21 H => ?_)
  refine nx_if rfl rfl (by rfl) H (fun H => ?_) (fun H => ?_)
  · refine nx_int (x := (-1)) rfl rfl ?_
    exact nx_rit rfl rfl H
  refine nx_ld rfl rfl rfl rfl ?_
  refine nx_int (x := (-1)) rfl rfl ?_
  refine nx_icmp rfl rfl (by rfl) H (fun H => ?_) (fun H => ?_)
  · exact TB_X13_keep_22 hW    _ _ _ H
  refine nx_ld rfl rfl rfl rfl ?_
  refine nx_ld rfl rfl rfl rfl ?_
  refine nx_cVI (as := [eI x2]) (st' := []) rfl rfl (Nat.le_of_ble_eq_true rfl) rfl rfl (Nat.le_of_ble_eq_true rfl) (c0 := 13) rfl (by decide) H (fun Q H => TF_X13_isBody hW  H) (fun r22 H => ?_)
  refine nx_if rfl rfl (by rfl) H (fun H => ?_) (fun H => ?_)
  · exact TB_X13_keep_22 hW    _ _ _ H
  refine nx_int (x := (-1)) rfl rfl ?_
  exact nx_rit rfl rfl H
def BB_X13_row_54 (k54 : TS → Int32 → Int32 → Option (Int32 × TS)) (t : TS) (v1 : Int32) (v4 : Int32) : Option (Int32 × TS) := (if ((60 * v1) + 60) ≤ v4 then (some (1, t)) else (gd v4 (tL t 3395 0) (nxt (uJ t 3395 0 v4.toNatClampNeg 0) (fun t21 => (k54 t21 v1 (v4 + 1))))))
theorem TBB_X13_row_54 {W : NW} {d : Nat} {Q : Option NV → TS → Prop} {a0 : Nat → Nat → Nat} {e0 : Nat → Nat → Bool} {k54 : TS → Int32 → Int32 → Option (Int32 × TS)} {bc bs : Nat} (hW : W.2.2.2 = mm_fx) (hk54 : ∀ (t : TS) (v1 : Int32) (v2 : Int32) (v3 : Int32) (v4 : Int32), wp (k54 t v1 v4) (fun r => Q (some (eI r.1)) r.2) → nX W (d + 2) tX13_row Q a0 e0 54 [some (eR (some (13, 0))), some (eI v1), some (eI v2), some (eI v3), some (eI v4)] [] t bc bs) : ∀ (t : TS) (v1 : Int32) (v2 : Int32) (v3 : Int32) (v4 : Int32), wp (BB_X13_row_54 k54 t v1 v4) (fun r => Q (some (eI r.1)) r.2) → nX W (d + 2) tX13_row Q a0 e0 54 [some (eR (some (13, 0))), some (eI v1), some (eI v2), some (eI v3), some (eI v4)] [] t bc bs := by
  intro t v1 v2 v3 v4 H
  unfold BB_X13_row_54 at H
  refine nx_ld rfl rfl rfl rfl ?_
  refine nx_int (x := 60) rfl rfl ?_
  refine nx_ld rfl rfl rfl rfl ?_
  refine nx_ii rfl rfl ?_
  refine nx_int (x := 60) rfl rfl ?_
  refine nx_ii rfl rfl ?_
  refine nx_icmp rfl rfl (by rfl) H (fun H => ?_) (fun H => ?_)
  · refine nx_int (x := 1) rfl rfl ?_
    exact nx_rit rfl rfl H
  refine nx_ld rfl rfl rfl rfl ?_
  refine nx_getFix rfl rfl rfl (by decide) (by rw [hW]; rfl) rfl ?_
  refine nx_ld rfl rfl rfl rfl ?_
  refine nx_long (x := 0) rfl rfl ?_
  refine nx_last (c := 3395) (i := 0) rfl rfl (Nat.le_of_ble_eq_true rfl) (Nat.le_of_ble_eq_true rfl) rfl H (fun t21 H => ?_)
  refine nx_iinc2 1 (ls' := [some (eR (some (13, 0))), some (eI v1), some (eI v2), some (eI v3), some (eI (v4 + 1))]) rfl rfl rfl rfl rfl ?_
  refine nx_goto rfl rfl ?_
  exact hk54 _ _ _ _ _ H
def B_X13_row_54 : Nat → TS → Int32 → Int32 → Option (Int32 × TS)
  | 0 => fun _ _ _ => none
  | n + 1 => fun t v1 v4 => BB_X13_row_54 (B_X13_row_54 n) t v1 v4
theorem TB_X13_row_54 {W : NW} {d : Nat} {Q : Option NV → TS → Prop} {a0 : Nat → Nat → Nat} {e0 : Nat → Nat → Bool} {bc bs : Nat} (hW : W.2.2.2 = mm_fx) : ∀ (n : Nat) (t : TS) (v1 : Int32) (v2 : Int32) (v3 : Int32) (v4 : Int32), wp (B_X13_row_54 n t v1 v4) (fun r => Q (some (eI r.1)) r.2) → nX W (d + 2) tX13_row Q a0 e0 54 [some (eR (some (13, 0))), some (eI v1), some (eI v2), some (eI v3), some (eI v4)] [] t bc bs := by
  intro n
  induction n with
  | zero => intro t v1 v2 v3 v4 H; exact (wp_none H).elim
  | succ n ih =>
    intro t v1 v2 v3 v4 H
    exact TBB_X13_row_54 hW    ih t v1 v2 v3 v4 H
def F_X13_row (t : TS) (x1 : Int32) (x2 : Int32) (x3 : Int32) : Option (Int32 × TS) := (Option.bind (F_X13_isShelf t x1) (fun r21 => (if r21 = 0 then (some ((-1), t)) else (Option.bind (F_X13_in t x2 0 4) (fun r22 => (if r22 = 0 then (some ((-1), t)) else (if x3 ≤ 60 then (if 0 ≤ x3 then (gd x1 (tL t 3393 0) (nxt (uA t 3393 0 x1.toNatClampNeg ((-2) - x2)) (fun t23 => (gd x1 (tL t23 3394 0) (nxt (uA t23 3394 0 x1.toNatClampNeg x3) (fun t24 => (B_X13_row_54  10000 t24 x1 (60 * x1)))))))) else (some ((-14), t))) else (some ((-1), t)))))))))
theorem TF_X13_row {W : NW} {d : Nat} {t : TS} {x1 : Int32} {x2 : Int32} {x3 : Int32} {Q : Option NV → TS → Prop} {bc bs : Nat} (hW : W.2.2.2 = mm_fx) (H : wp (F_X13_row t x1 x2 x3) (fun r => Q (some (eI r.1)) r.2)) : nC W (d + 3) 266 [eR (some (13, 0)), eI x1, eI x2, eI x3] t bc bs Q := by
  refine nC_in (d := (d + 2)) (T := tX13_row) (ls := [some (eR (some (13, 0))), some (eI x1), some (eI x2), some (eI x3), none]) rfl (Nat.le_of_ble_eq_true rfl) rfl (fun a0 e0 => ?_)
  unfold F_X13_row at H
  refine nx_ld rfl rfl rfl rfl ?_
  refine nx_cSI (as := [eI x1]) (st' := []) rfl rfl (Nat.le_of_ble_eq_true rfl) rfl rfl (Nat.le_of_ble_eq_true rfl) H (fun Q H => TF_X13_isShelf hW  H) (fun r21 H => ?_)
  refine nx_if rfl rfl (by rfl) H (fun H => ?_) (fun H => ?_)
  · refine nx_int (x := (-1)) rfl rfl ?_
    exact nx_rit rfl rfl H
  refine nx_ld rfl rfl rfl rfl ?_
  refine nx_int (x := 0) rfl rfl ?_
  refine nx_int (x := 4) rfl rfl ?_
  refine nx_cSI (as := [eI x2, eI 0, eI 4]) (st' := []) rfl rfl (Nat.le_of_ble_eq_true rfl) rfl rfl (Nat.le_of_ble_eq_true rfl) H (fun Q H => TF_X13_in hW  H) (fun r22 H => ?_)
  refine nx_if rfl rfl (by rfl) H (fun H => ?_) (fun H => ?_)
  · refine nx_int (x := (-1)) rfl rfl ?_
    exact nx_rit rfl rfl H
  refine nx_ld rfl rfl rfl rfl ?_
  refine nx_int (x := 60) rfl rfl ?_
  refine nx_icmp rfl rfl (by rfl) H (fun H => ?_) (fun H => ?_)
  · refine nx_ld rfl rfl rfl rfl ?_
    refine nx_if rfl rfl (by rfl) H (fun H => ?_) (fun H => ?_)
    · refine nx_ld rfl rfl rfl rfl ?_
      refine nx_getFix rfl rfl rfl (by decide) (by rw [hW]; rfl) rfl ?_
      refine nx_ld rfl rfl rfl rfl ?_
      refine nx_int (x := (-2)) rfl rfl ?_
      refine nx_ld rfl rfl rfl rfl ?_
      refine nx_ii rfl rfl ?_
      refine nx_iast (p := (3393, 0)) rfl rfl (Nat.le_of_ble_eq_true rfl) (Nat.le_of_ble_eq_true rfl) rfl H (fun t23 H => ?_)
      show nX _ _ _ _ _ _ 41 _ _ _ _ _
      refine nx_ld rfl rfl rfl rfl ?_
      refine nx_getFix rfl rfl rfl (by decide) (by rw [hW]; rfl) rfl ?_
      refine nx_ld rfl rfl rfl rfl ?_
      refine nx_ld rfl rfl rfl rfl ?_
      refine nx_iast (p := (3394, 0)) rfl rfl (Nat.le_of_ble_eq_true rfl) (Nat.le_of_ble_eq_true rfl) rfl H (fun t24 H => ?_)
      refine nx_int (x := 60) rfl rfl ?_
      refine nx_ld rfl rfl rfl rfl ?_
      refine nx_ii rfl rfl ?_
      show nX _ _ _ _ _ _ 52 _ _ _ _ _
      refine nx_st (ls' := [some (eR (some (13, 0))), some (eI x1), some (eI x2), some (eI x3), some (eI (60 * x1))]) rfl rfl rfl (Nat.le_of_ble_eq_true rfl) rfl ?_
      exact TB_X13_row_54 hW    10000 _ _ _ _ _ H
    refine nx_int (x := (-14)) rfl rfl ?_
    exact nx_rit rfl rfl H
  refine nx_int (x := (-1)) rfl rfl ?_
  exact nx_rit rfl rfl H
def F_X13_whyNoPlace (t : TS) (x1 : Int32) (x2 : Int32) : Option Int32 := (Option.bind (F_X13_isShelf t x1) (fun r21 => (if ¬ r21 = 0 then (gd x1 (tL t 3393 0) (if ¬ (tA t 3393 0 x1.toNatClampNeg) = (-1) then (gd x1 (tL t 3393 0) (if (tA t 3393 0 x1.toNatClampNeg) < 0 then (gd x1 (tL t 3394 0) (Option.bind (F_X13_in t x2 0 ((tA t 3394 0 x1.toNatClampNeg) - 1)) (fun r22 => (if r22 = 0 then (some ((-13))) else (some (0)))))) else (some ((-12))))) else (some ((-11))))) else (some ((-1))))))
theorem TF_X13_whyNoPlace {W : NW} {d : Nat} {t : TS} {x1 : Int32} {x2 : Int32} {Q : Option NV → TS → Prop} {bc bs : Nat} (hW : W.2.2.2 = mm_fx) (H : wp (F_X13_whyNoPlace t x1 x2) (fun r => Q (some (eI r)) t)) : nC W (d + 3) 267 [eR (some (13, 0)), eI x1, eI x2] t bc bs Q := by
  refine nC_in (d := (d + 2)) (T := tX13_whyNoPlace) (ls := [some (eR (some (13, 0))), some (eI x1), some (eI x2)]) rfl (Nat.le_of_ble_eq_true rfl) rfl (fun a0 e0 => ?_)
  unfold F_X13_whyNoPlace at H
  refine nx_ld rfl rfl rfl rfl ?_
  refine nx_cSI (as := [eI x1]) (st' := []) rfl rfl (Nat.le_of_ble_eq_true rfl) rfl rfl (Nat.le_of_ble_eq_true rfl) H (fun Q H => TF_X13_isShelf hW  H) (fun r21 H => ?_)
  refine nx_if rfl rfl (by rfl) H (fun H => ?_) (fun H => ?_)
  · refine nx_ld rfl rfl rfl rfl ?_
    refine nx_getFix rfl rfl rfl (by decide) (by rw [hW]; rfl) rfl ?_
    refine nx_ld rfl rfl rfl rfl ?_
    refine nx_iald (p := (3393, 0)) rfl rfl (Nat.le_of_ble_eq_true rfl) (Nat.le_of_ble_eq_true rfl) rfl H (fun H => ?_)
    refine nx_int (x := (-1)) rfl rfl ?_
    refine nx_icmp rfl rfl (by rfl) H (fun H => ?_) (fun H => ?_)
    · refine nx_ld rfl rfl rfl rfl ?_
      refine nx_getFix rfl rfl rfl (by decide) (by rw [hW]; rfl) rfl ?_
      refine nx_ld rfl rfl rfl rfl ?_
      refine nx_iald (p := (3393, 0)) rfl rfl (Nat.le_of_ble_eq_true rfl) (Nat.le_of_ble_eq_true rfl) rfl H (fun H => ?_)
      refine nx_if rfl rfl (by rfl) H (fun H => ?_) (fun H => ?_)
      · refine nx_ld rfl rfl rfl rfl ?_
        refine nx_int (x := 0) rfl rfl ?_
        refine nx_ld rfl rfl rfl rfl ?_
        refine nx_getFix rfl rfl rfl (by decide) (by rw [hW]; rfl) rfl ?_
        refine nx_ld rfl rfl rfl rfl ?_
        refine nx_iald (p := (3394, 0)) rfl rfl (Nat.le_of_ble_eq_true rfl) (Nat.le_of_ble_eq_true rfl) rfl H (fun H => ?_)
        refine nx_int (x := 1) rfl rfl ?_
        show nX _ _ _ _ _ _ 43 _ _ _ _ _
        refine nx_ii rfl rfl ?_
        refine nx_cSI (as := [eI x2, eI 0, eI ((tA t 3394 0 x1.toNatClampNeg) - 1)]) (st' := []) rfl rfl (Nat.le_of_ble_eq_true rfl) rfl rfl (Nat.le_of_ble_eq_true rfl) H (fun Q H => TF_X13_in hW  H) (fun r22 H => ?_)
        refine nx_if rfl rfl (by rfl) H (fun H => ?_) (fun H => ?_)
        · refine nx_int (x := (-13)) rfl rfl ?_
          exact nx_ri rfl rfl H
        refine nx_int (x := 0) rfl rfl ?_
        refine nx_goto rfl rfl ?_
        exact nx_ri rfl rfl H
      refine nx_int (x := (-12)) rfl rfl ?_
      exact nx_ri rfl rfl H
    refine nx_int (x := (-11)) rfl rfl ?_
    exact nx_ri rfl rfl H
  refine nx_int (x := (-1)) rfl rfl ?_
  exact nx_ri rfl rfl H
def B_X13_put_95 (t : TS) (s0 : Int64) (s1 : Int32) : Option (Int32 × TS) := (gd s1 (tL t 3395 0) (nxt (uJ t 3395 0 s1.toNatClampNeg s0) (fun t21 => (some (1, t21)))))
theorem TB_X13_put_95 {W : NW} {d : Nat} {Q : Option NV → TS → Prop} {a0 : Nat → Nat → Nat} {e0 : Nat → Nat → Bool} {bc bs : Nat} (hW : W.2.2.2 = mm_fx) : ∀ (t : TS) (v1 : Int32) (v2 : Int32) (v3 : Int64) (v5 : Int32) (v6 : Int32) (s0 : Int64) (s1 : Int32), wp (B_X13_put_95 t s0 s1) (fun r => Q (some (eI r.1)) r.2) → nX W (d + 3) tX13_put Q a0 e0 95 [some (eR (some (13, 0))), some (eI v1), some (eI v2), some (eJ v3), none, some (eI v5), some (eI v6)] [eJ s0, eI s1, eR (some (3395, 0))] t bc bs := by
  intro t v1 v2 v3 v5 v6 s0 s1 H
  unfold B_X13_put_95 at H
  refine nx_last (c := 3395) (i := 0) rfl rfl (Nat.le_of_ble_eq_true rfl) (Nat.le_of_ble_eq_true rfl) rfl H (fun t21 H => ?_)
  refine nx_int (x := 1) rfl rfl ?_
  exact nx_rit rfl rfl H
def F_X13_put (t : TS) (x1 : Int32) (x2 : Int32) (x3 : Int64) : Option (Int32 × TS) := (Option.bind (F_X13_whyNoPlace t x1 x2) (fun r21 => (if 0 ≤ r21 then (gd x1 (tL t 3393 0) (if ¬ ((-2) - (tA t 3393 0 x1.toNatClampNeg)) = 0 then (if ¬ ((-2) - (tA t 3393 0 x1.toNatClampNeg)) = 1 then (if ¬ ((-2) - (tA t 3393 0 x1.toNatClampNeg)) = 2 then (if ¬ ((-2) - (tA t 3393 0 x1.toNatClampNeg)) = 3 then (if (lg_cmp x3 0) = 0 then (B_X13_put_95  t 0 ((60 * x1) + x2)) else (B_X13_put_95  t 1 ((60 * x1) + x2))) else (B_X13_put_95  t x3 ((60 * x1) + x2))) else (B_X13_put_95  t ((x3.toInt32).toInt64) ((60 * x1) + x2))) else (B_X13_put_95  t (((x3.toInt32).toInt16.toInt32).toInt64) ((60 * x1) + x2))) else (B_X13_put_95  t (((x3.toInt32).toInt8.toInt32).toInt64) ((60 * x1) + x2)))) else (some (r21, t)))))
theorem TF_X13_put {W : NW} {d : Nat} {t : TS} {x1 : Int32} {x2 : Int32} {x3 : Int64} {Q : Option NV → TS → Prop} {bc bs : Nat} (hW : W.2.2.2 = mm_fx) (H : wp (F_X13_put t x1 x2 x3) (fun r => Q (some (eI r.1)) r.2)) : nC W (d + 4) 268 [eR (some (13, 0)), eI x1, eI x2, eJ x3] t bc bs Q := by
  refine nC_in (d := (d + 3)) (T := tX13_put) (ls := [some (eR (some (13, 0))), some (eI x1), some (eI x2), some (eJ x3), none, none, none]) rfl (Nat.le_of_ble_eq_true rfl) rfl (fun a0 e0 => ?_)
  unfold F_X13_put at H
  refine nx_ld rfl rfl rfl rfl ?_
  refine nx_ld rfl rfl rfl rfl ?_
  refine nx_ld rfl rfl rfl rfl ?_
  refine nx_cVI (as := [eI x1, eI x2]) (st' := []) rfl rfl (Nat.le_of_ble_eq_true rfl) rfl rfl (Nat.le_of_ble_eq_true rfl) (c0 := 13) rfl (by decide) H (fun Q H => TF_X13_whyNoPlace hW  H) (fun r21 H => ?_)
  refine nx_st (ls' := [some (eR (some (13, 0))), some (eI x1), some (eI x2), some (eJ x3), none, some (eI r21), none]) rfl rfl rfl (Nat.le_of_ble_eq_true rfl) rfl ?_
  refine nx_ld rfl rfl rfl rfl ?_
  refine nx_if rfl rfl (by rfl) H (fun H => ?_) (fun H => ?_)
  · refine nx_int (x := (-2)) rfl rfl ?_
    refine nx_ld rfl rfl rfl rfl ?_
    refine nx_getFix rfl rfl rfl (by decide) (by rw [hW]; rfl) rfl ?_
    refine nx_ld rfl rfl rfl rfl ?_
    refine nx_iald (p := (3393, 0)) rfl rfl (Nat.le_of_ble_eq_true rfl) (Nat.le_of_ble_eq_true rfl) rfl H (fun H => ?_)
    refine nx_ii rfl rfl ?_
    refine nx_st (ls' := [some (eR (some (13, 0))), some (eI x1), some (eI x2), some (eJ x3), none, some (eI r21), some (eI ((-2) - (tA t 3393 0 x1.toNatClampNeg)))]) rfl rfl rfl (Nat.le_of_ble_eq_true rfl) rfl ?_
    show nX _ _ _ _ _ _ 27 _ _ _ _ _
    refine nx_ld rfl rfl rfl rfl ?_
    refine nx_getFix rfl rfl rfl (by decide) (by rw [hW]; rfl) rfl ?_
    refine nx_int (x := 60) rfl rfl ?_
    refine nx_ld rfl rfl rfl rfl ?_
    refine nx_ii rfl rfl ?_
    refine nx_ld rfl rfl rfl rfl ?_
    refine nx_ii rfl rfl ?_
    refine nx_ld rfl rfl rfl rfl ?_
    show nX _ _ _ _ _ _ 39 _ _ _ _ _
    refine nx_if rfl rfl (by rfl) H (fun H => ?_) (fun H => ?_)
    · refine nx_ld rfl rfl rfl rfl ?_
      refine nx_int (x := 1) rfl rfl ?_
      refine nx_icmp rfl rfl (by rfl) H (fun H => ?_) (fun H => ?_)
      · refine nx_ld rfl rfl rfl rfl ?_
        refine nx_int (x := 2) rfl rfl ?_
        refine nx_icmp rfl rfl (by rfl) H (fun H => ?_) (fun H => ?_)
        · refine nx_ld rfl rfl rfl rfl ?_
          refine nx_int (x := 3) rfl rfl ?_
          refine nx_icmp rfl rfl (by rfl) H (fun H => ?_) (fun H => ?_)
          · refine nx_ld rfl rfl rfl rfl ?_
            refine nx_long (x := 0) rfl rfl ?_
            refine nx_lcmp rfl rfl ?_
            refine nx_if rfl rfl (by rfl) H (fun H => ?_) (fun H => ?_)
            · refine nx_long (x := 0) rfl rfl ?_
              exact TB_X13_put_95 hW    _ _ _ _ _ _ _ _ H
            refine nx_long (x := 1) rfl rfl ?_
            refine nx_goto rfl rfl ?_
            exact TB_X13_put_95 hW    _ _ _ _ _ _ _ _ H
          refine nx_ld rfl rfl rfl rfl ?_
          refine nx_goto rfl rfl ?_
          exact TB_X13_put_95 hW    _ _ _ _ _ _ _ _ H
        refine nx_ld rfl rfl rfl rfl ?_
        refine nx_l2i rfl rfl ?_
        refine nx_i2l rfl rfl ?_
        refine nx_goto rfl rfl ?_
        exact TB_X13_put_95 hW    _ _ _ _ _ _ _ _ H
      refine nx_ld rfl rfl rfl rfl ?_
      refine nx_l2i rfl rfl ?_
      refine nx_i1 rfl rfl ?_
      refine nx_i2l rfl rfl ?_
      refine nx_goto rfl rfl ?_
      exact TB_X13_put_95 hW    _ _ _ _ _ _ _ _ H
    refine nx_ld rfl rfl rfl rfl ?_
    refine nx_l2i rfl rfl ?_
    refine nx_i1 rfl rfl ?_
    refine nx_i2l rfl rfl ?_
    refine nx_goto rfl rfl ?_
    exact TB_X13_put_95 hW    _ _ _ _ _ _ _ _ H
  refine nx_ld rfl rfl rfl rfl ?_
  exact nx_rit rfl rfl H
def F_X13_element (t : TS) (x1 : Int32) (x2 : Int32) : Option Int64 := (Option.bind (F_X13_whyNoPlace t x1 x2) (fun r21 => (if 0 ≤ r21 then (gd ((60 * x1) + x2) (tL t 3395 0) (some (tJ t 3395 0 ((60 * x1) + x2).toNatClampNeg))) else (some (-9223372036854775808)))))
theorem TF_X13_element {W : NW} {d : Nat} {t : TS} {x1 : Int32} {x2 : Int32} {Q : Option NV → TS → Prop} {bc bs : Nat} (hW : W.2.2.2 = mm_fx) (H : wp (F_X13_element t x1 x2) (fun r => Q (some (eJ r)) t)) : nC W (d + 4) 269 [eR (some (13, 0)), eI x1, eI x2] t bc bs Q := by
  refine nC_in (d := (d + 3)) (T := tX13_element) (ls := [some (eR (some (13, 0))), some (eI x1), some (eI x2)]) rfl (Nat.le_of_ble_eq_true rfl) rfl (fun a0 e0 => ?_)
  unfold F_X13_element at H
  refine nx_ld rfl rfl rfl rfl ?_
  refine nx_ld rfl rfl rfl rfl ?_
  refine nx_ld rfl rfl rfl rfl ?_
  refine nx_cVI (as := [eI x1, eI x2]) (st' := []) rfl rfl (Nat.le_of_ble_eq_true rfl) rfl rfl (Nat.le_of_ble_eq_true rfl) (c0 := 13) rfl (by decide) H (fun Q H => TF_X13_whyNoPlace hW  H) (fun r21 H => ?_)
  refine nx_if rfl rfl (by rfl) H (fun H => ?_) (fun H => ?_)
  · refine nx_ld rfl rfl rfl rfl ?_
    refine nx_getFix rfl rfl rfl (by decide) (by rw [hW]; rfl) rfl ?_
    refine nx_int (x := 60) rfl rfl ?_
    refine nx_ld rfl rfl rfl rfl ?_
    refine nx_ii rfl rfl ?_
    refine nx_ld rfl rfl rfl rfl ?_
    refine nx_ii rfl rfl ?_
    show nX _ _ _ _ _ _ 25 _ _ _ _ _
    refine nx_lald (c := 3395) (i := 0) rfl rfl (Nat.le_of_ble_eq_true rfl) (Nat.le_of_ble_eq_true rfl) rfl H (fun H => ?_)
    exact nx_rj rfl rfl H
  refine nx_long (x := (-9223372036854775808)) rfl rfl ?_
  refine nx_goto rfl rfl ?_
  exact nx_rj rfl rfl H
def BB_X13_shift_150 (k150 : TS → Int32 → Int32 → Int32 → Int32 → Option (Int32 × TS)) (t : TS) (v3 : Int32) (v4 : Int32) (v5 : Int32) (v6 : Int32) : Option (Int32 × TS) := (if v5 ≤ v6 then (some (v5, t)) else (gd v6 (tL t 3396 0) (gd (((60 * v3) + v4) + v6) (tL t 3395 0) (nxt (uJ t 3395 0 (((60 * v3) + v4) + v6).toNatClampNeg (tJ t 3396 0 v6.toNatClampNeg)) (fun t21 => (k150 t21 v3 v4 v5 (v6 + 1)))))))
theorem TBB_X13_shift_150 {W : NW} {d : Nat} {Q : Option NV → TS → Prop} {a0 : Nat → Nat → Nat} {e0 : Nat → Nat → Bool} {k150 : TS → Int32 → Int32 → Int32 → Int32 → Option (Int32 × TS)} {bc bs : Nat} (hW : W.2.2.2 = mm_fx) (hk150 : ∀ (t : TS) (v1 : Int32) (v2 : Int32) (v3 : Int32) (v4 : Int32) (v5 : Int32) (v6 : Int32), wp (k150 t v3 v4 v5 v6) (fun r => Q (some (eI r.1)) r.2) → nX W (d + 2) tX13_shift Q a0 e0 150 [some (eR (some (13, 0))), some (eI v1), some (eI v2), some (eI v3), some (eI v4), some (eI v5), some (eI v6)] [] t bc bs) : ∀ (t : TS) (v1 : Int32) (v2 : Int32) (v3 : Int32) (v4 : Int32) (v5 : Int32) (v6 : Int32), wp (BB_X13_shift_150 k150 t v3 v4 v5 v6) (fun r => Q (some (eI r.1)) r.2) → nX W (d + 2) tX13_shift Q a0 e0 150 [some (eR (some (13, 0))), some (eI v1), some (eI v2), some (eI v3), some (eI v4), some (eI v5), some (eI v6)] [] t bc bs := by
  intro t v1 v2 v3 v4 v5 v6 H
  unfold BB_X13_shift_150 at H
  refine nx_ld rfl rfl rfl rfl ?_
  refine nx_ld rfl rfl rfl rfl ?_
  refine nx_icmp rfl rfl (by rfl) H (fun H => ?_) (fun H => ?_)
  · refine nx_ld rfl rfl rfl rfl ?_
    exact nx_rit rfl rfl H
  refine nx_ld rfl rfl rfl rfl ?_
  refine nx_getFix rfl rfl rfl (by decide) (by rw [hW]; rfl) rfl ?_
  refine nx_int (x := 60) rfl rfl ?_
  refine nx_ld rfl rfl rfl rfl ?_
  refine nx_ii rfl rfl ?_
  refine nx_ld rfl rfl rfl rfl ?_
  refine nx_ii rfl rfl ?_
  show nX _ _ _ _ _ _ 168 _ _ _ _ _
  refine nx_ld rfl rfl rfl rfl ?_
  refine nx_ii rfl rfl ?_
  refine nx_ld rfl rfl rfl rfl ?_
  refine nx_getFix rfl rfl rfl (by decide) (by rw [hW]; rfl) rfl ?_
  refine nx_ld rfl rfl rfl rfl ?_
  refine nx_lald (c := 3396) (i := 0) rfl rfl (Nat.le_of_ble_eq_true rfl) (Nat.le_of_ble_eq_true rfl) rfl H (fun H => ?_)
  refine nx_last (c := 3395) (i := 0) rfl rfl (Nat.le_of_ble_eq_true rfl) (Nat.le_of_ble_eq_true rfl) rfl H (fun t21 H => ?_)
  refine nx_iinc2 1 (ls' := [some (eR (some (13, 0))), some (eI v1), some (eI v2), some (eI v3), some (eI v4), some (eI v5), some (eI (v6 + 1))]) rfl rfl rfl rfl rfl ?_
  show nX _ _ _ _ _ _ 182 _ _ _ _ _
  refine nx_goto rfl rfl ?_
  exact hk150 _ _ _ _ _ _ _ H
def B_X13_shift_150 : Nat → TS → Int32 → Int32 → Int32 → Int32 → Option (Int32 × TS)
  | 0 => fun _ _ _ _ _ => none
  | n + 1 => fun t v3 v4 v5 v6 => BB_X13_shift_150 (B_X13_shift_150 n) t v3 v4 v5 v6
theorem TB_X13_shift_150 {W : NW} {d : Nat} {Q : Option NV → TS → Prop} {a0 : Nat → Nat → Nat} {e0 : Nat → Nat → Bool} {bc bs : Nat} (hW : W.2.2.2 = mm_fx) : ∀ (n : Nat) (t : TS) (v1 : Int32) (v2 : Int32) (v3 : Int32) (v4 : Int32) (v5 : Int32) (v6 : Int32), wp (B_X13_shift_150 n t v3 v4 v5 v6) (fun r => Q (some (eI r.1)) r.2) → nX W (d + 2) tX13_shift Q a0 e0 150 [some (eR (some (13, 0))), some (eI v1), some (eI v2), some (eI v3), some (eI v4), some (eI v5), some (eI v6)] [] t bc bs := by
  intro n
  induction n with
  | zero => intro t v1 v2 v3 v4 v5 v6 H; exact (wp_none H).elim
  | succ n ih =>
    intro t v1 v2 v3 v4 v5 v6 H
    exact TBB_X13_shift_150 hW    ih t v1 v2 v3 v4 v5 v6 H
def B_X13_shift_147 (t : TS) (v3 : Int32) (v4 : Int32) (v5 : Int32) : Option (Int32 × TS) := (B_X13_shift_150  10000 t v3 v4 v5 0)
theorem TB_X13_shift_147 {W : NW} {d : Nat} {Q : Option NV → TS → Prop} {a0 : Nat → Nat → Nat} {e0 : Nat → Nat → Bool} {bc bs : Nat} (hW : W.2.2.2 = mm_fx) : ∀ (t : TS) (v1 : Int32) (v2 : Int32) (v3 : Int32) (v4 : Int32) (v5 : Int32) (v6 : Int32), wp (B_X13_shift_147 t v3 v4 v5) (fun r => Q (some (eI r.1)) r.2) → nX W (d + 2) tX13_shift Q a0 e0 147 [some (eR (some (13, 0))), some (eI v1), some (eI v2), some (eI v3), some (eI v4), some (eI v5), some (eI v6)] [] t bc bs := by
  intro t v1 v2 v3 v4 v5 v6 H
  unfold B_X13_shift_147 at H
  refine nx_int (x := 0) rfl rfl ?_
  refine nx_st (ls' := [some (eR (some (13, 0))), some (eI v1), some (eI v2), some (eI v3), some (eI v4), some (eI v5), some (eI 0)]) rfl rfl rfl (Nat.le_of_ble_eq_true rfl) rfl ?_
  exact TB_X13_shift_150 hW    10000 _ _ _ _ _ _ _ H
def BB_X13_shift_113 (k113 : TS → Int32 → Int32 → Int32 → Int32 → Int32 → Int32 → Option (Int32 × TS)) (t : TS) (v1 : Int32) (v2 : Int32) (v3 : Int32) (v4 : Int32) (v5 : Int32) (v6 : Int32) : Option (Int32 × TS) := (if v5 ≤ v6 then (B_X13_shift_147  t v3 v4 v5) else (gd (((60 * v1) + v2) + v6) (tL t 3395 0) (gd v6 (tL t 3396 0) (nxt (uJ t 3396 0 v6.toNatClampNeg (tJ t 3395 0 (((60 * v1) + v2) + v6).toNatClampNeg)) (fun t21 => (k113 t21 v1 v2 v3 v4 v5 (v6 + 1)))))))
theorem TBB_X13_shift_113 {W : NW} {d : Nat} {Q : Option NV → TS → Prop} {a0 : Nat → Nat → Nat} {e0 : Nat → Nat → Bool} {k113 : TS → Int32 → Int32 → Int32 → Int32 → Int32 → Int32 → Option (Int32 × TS)} {bc bs : Nat} (hW : W.2.2.2 = mm_fx) (hk113 : ∀ (t : TS) (v1 : Int32) (v2 : Int32) (v3 : Int32) (v4 : Int32) (v5 : Int32) (v6 : Int32), wp (k113 t v1 v2 v3 v4 v5 v6) (fun r => Q (some (eI r.1)) r.2) → nX W (d + 2) tX13_shift Q a0 e0 113 [some (eR (some (13, 0))), some (eI v1), some (eI v2), some (eI v3), some (eI v4), some (eI v5), some (eI v6)] [] t bc bs) : ∀ (t : TS) (v1 : Int32) (v2 : Int32) (v3 : Int32) (v4 : Int32) (v5 : Int32) (v6 : Int32), wp (BB_X13_shift_113 k113 t v1 v2 v3 v4 v5 v6) (fun r => Q (some (eI r.1)) r.2) → nX W (d + 2) tX13_shift Q a0 e0 113 [some (eR (some (13, 0))), some (eI v1), some (eI v2), some (eI v3), some (eI v4), some (eI v5), some (eI v6)] [] t bc bs := by
  intro t v1 v2 v3 v4 v5 v6 H
  unfold BB_X13_shift_113 at H
  refine nx_ld rfl rfl rfl rfl ?_
  refine nx_ld rfl rfl rfl rfl ?_
  refine nx_icmp rfl rfl (by rfl) H (fun H => ?_) (fun H => ?_)
  · exact TB_X13_shift_147 hW    _ _ _ _ _ _ _ H
  refine nx_ld rfl rfl rfl rfl ?_
  refine nx_getFix rfl rfl rfl (by decide) (by rw [hW]; rfl) rfl ?_
  refine nx_ld rfl rfl rfl rfl ?_
  refine nx_ld rfl rfl rfl rfl ?_
  refine nx_getFix rfl rfl rfl (by decide) (by rw [hW]; rfl) rfl ?_
  refine nx_int (x := 60) rfl rfl ?_
  refine nx_ld rfl rfl rfl rfl ?_
  show nX _ _ _ _ _ _ 133 _ _ _ _ _
  refine nx_ii rfl rfl ?_
  refine nx_ld rfl rfl rfl rfl ?_
  refine nx_ii rfl rfl ?_
  refine nx_ld rfl rfl rfl rfl ?_
  refine nx_ii rfl rfl ?_
  refine nx_lald (c := 3395) (i := 0) rfl rfl (Nat.le_of_ble_eq_true rfl) (Nat.le_of_ble_eq_true rfl) rfl H (fun H => ?_)
  refine nx_last (c := 3396) (i := 0) rfl rfl (Nat.le_of_ble_eq_true rfl) (Nat.le_of_ble_eq_true rfl) rfl H (fun t21 H => ?_)
  refine nx_iinc2 1 (ls' := [some (eR (some (13, 0))), some (eI v1), some (eI v2), some (eI v3), some (eI v4), some (eI v5), some (eI (v6 + 1))]) rfl rfl rfl rfl rfl ?_
  show nX _ _ _ _ _ _ 144 _ _ _ _ _
  refine nx_goto rfl rfl ?_
  exact hk113 _ _ _ _ _ _ _ H
def B_X13_shift_113 : Nat → TS → Int32 → Int32 → Int32 → Int32 → Int32 → Int32 → Option (Int32 × TS)
  | 0 => fun _ _ _ _ _ _ _ => none
  | n + 1 => fun t v1 v2 v3 v4 v5 v6 => BB_X13_shift_113 (B_X13_shift_113 n) t v1 v2 v3 v4 v5 v6
theorem TB_X13_shift_113 {W : NW} {d : Nat} {Q : Option NV → TS → Prop} {a0 : Nat → Nat → Nat} {e0 : Nat → Nat → Bool} {bc bs : Nat} (hW : W.2.2.2 = mm_fx) : ∀ (n : Nat) (t : TS) (v1 : Int32) (v2 : Int32) (v3 : Int32) (v4 : Int32) (v5 : Int32) (v6 : Int32), wp (B_X13_shift_113 n t v1 v2 v3 v4 v5 v6) (fun r => Q (some (eI r.1)) r.2) → nX W (d + 2) tX13_shift Q a0 e0 113 [some (eR (some (13, 0))), some (eI v1), some (eI v2), some (eI v3), some (eI v4), some (eI v5), some (eI v6)] [] t bc bs := by
  intro n
  induction n with
  | zero => intro t v1 v2 v3 v4 v5 v6 H; exact (wp_none H).elim
  | succ n ih =>
    intro t v1 v2 v3 v4 v5 v6 H
    exact TBB_X13_shift_113 hW    ih t v1 v2 v3 v4 v5 v6 H
def F_X13_shift (t : TS) (x1 : Int32) (x2 : Int32) (x3 : Int32) (x4 : Int32) (x5 : Int32) : Option (Int32 × TS) := (Option.bind (F_X13_isShelf t x1) (fun r21 => (if r21 = 0 then (some ((-1), t)) else (Option.bind (F_X13_isShelf t x3) (fun r22 => (if ¬ r22 = 0 then (gd x1 (tL t 3393 0) (if (tA t 3393 0 x1.toNatClampNeg) = (-1) then (some ((-11), t)) else (gd x3 (tL t 3393 0) (if ¬ (tA t 3393 0 x3.toNatClampNeg) = (-1) then (gd x1 (tL t 3393 0) (if 0 ≤ (tA t 3393 0 x1.toNatClampNeg) then (some ((-12), t)) else (gd x1 (tL t 3393 0) (gd x3 (tL t 3393 0) (if (tA t 3393 0 x1.toNatClampNeg) = (tA t 3393 0 x3.toNatClampNeg) then (if x5 < 0 then (some ((-13), t)) else (if x2 < 0 then (some ((-13), t)) else (if x4 < 0 then (some ((-13), t)) else (gd x1 (tL t 3394 0) (if ((tA t 3394 0 x1.toNatClampNeg) - x5) < x2 then (some ((-13), t)) else (gd x3 (tL t 3394 0) (if x4 ≤ ((tA t 3394 0 x3.toNatClampNeg) - x5) then (B_X13_shift_113  10000 t x1 x2 x3 x4 x5 0) else (some ((-13), t))))))))) else (some ((-12), t))))))) else (some ((-11), t)))))) else (some ((-1), t))))))))
theorem TF_X13_shift {W : NW} {d : Nat} {t : TS} {x1 : Int32} {x2 : Int32} {x3 : Int32} {x4 : Int32} {x5 : Int32} {Q : Option NV → TS → Prop} {bc bs : Nat} (hW : W.2.2.2 = mm_fx) (H : wp (F_X13_shift t x1 x2 x3 x4 x5) (fun r => Q (some (eI r.1)) r.2)) : nC W (d + 3) 270 [eR (some (13, 0)), eI x1, eI x2, eI x3, eI x4, eI x5] t bc bs Q := by
  refine nC_in (d := (d + 2)) (T := tX13_shift) (ls := [some (eR (some (13, 0))), some (eI x1), some (eI x2), some (eI x3), some (eI x4), some (eI x5), none]) rfl (Nat.le_of_ble_eq_true rfl) rfl (fun a0 e0 => ?_)
  unfold F_X13_shift at H
  refine nx_ld rfl rfl rfl rfl ?_
  refine nx_cSI (as := [eI x1]) (st' := []) rfl rfl (Nat.le_of_ble_eq_true rfl) rfl rfl (Nat.le_of_ble_eq_true rfl) H (fun Q H => TF_X13_isShelf hW  H) (fun r21 H => ?_)
  refine nx_if rfl rfl (by rfl) H (fun H => ?_) (fun H => ?_)
  · refine nx_int (x := (-1)) rfl rfl ?_
    exact nx_rit rfl rfl H
  refine nx_ld rfl rfl rfl rfl ?_
  refine nx_cSI (as := [eI x3]) (st' := []) rfl rfl (Nat.le_of_ble_eq_true rfl) rfl rfl (Nat.le_of_ble_eq_true rfl) H (fun Q H => TF_X13_isShelf hW  H) (fun r22 H => ?_)
  refine nx_if rfl rfl (by rfl) H (fun H => ?_) (fun H => ?_)
  · refine nx_ld rfl rfl rfl rfl ?_
    refine nx_getFix rfl rfl rfl (by decide) (by rw [hW]; rfl) rfl ?_
    refine nx_ld rfl rfl rfl rfl ?_
    refine nx_iald (p := (3393, 0)) rfl rfl (Nat.le_of_ble_eq_true rfl) (Nat.le_of_ble_eq_true rfl) rfl H (fun H => ?_)
    refine nx_int (x := (-1)) rfl rfl ?_
    refine nx_icmp rfl rfl (by rfl) H (fun H => ?_) (fun H => ?_)
    · refine nx_int (x := (-11)) rfl rfl ?_
      exact nx_rit rfl rfl H
    refine nx_ld rfl rfl rfl rfl ?_
    refine nx_getFix rfl rfl rfl (by decide) (by rw [hW]; rfl) rfl ?_
    refine nx_ld rfl rfl rfl rfl ?_
    refine nx_iald (p := (3393, 0)) rfl rfl (Nat.le_of_ble_eq_true rfl) (Nat.le_of_ble_eq_true rfl) rfl H (fun H => ?_)
    refine nx_int (x := (-1)) rfl rfl ?_
    refine nx_icmp rfl rfl (by rfl) H (fun H => ?_) (fun H => ?_)
    · refine nx_ld rfl rfl rfl rfl ?_
      refine nx_getFix rfl rfl rfl (by decide) (by rw [hW]; rfl) rfl ?_
      refine nx_ld rfl rfl rfl rfl ?_
      refine nx_iald (p := (3393, 0)) rfl rfl (Nat.le_of_ble_eq_true rfl) (Nat.le_of_ble_eq_true rfl) rfl H (fun H => ?_)
      refine nx_if rfl rfl (by rfl) H (fun H => ?_) (fun H => ?_)
      · refine nx_int (x := (-12)) rfl rfl ?_
        exact nx_rit rfl rfl H
      refine nx_ld rfl rfl rfl rfl ?_
      refine nx_getFix rfl rfl rfl (by decide) (by rw [hW]; rfl) rfl ?_
      refine nx_ld rfl rfl rfl rfl ?_
      refine nx_iald (p := (3393, 0)) rfl rfl (Nat.le_of_ble_eq_true rfl) (Nat.le_of_ble_eq_true rfl) rfl H (fun H => ?_)
      refine nx_ld rfl rfl rfl rfl ?_
      refine nx_getFix rfl rfl rfl (by decide) (by rw [hW]; rfl) rfl ?_
      refine nx_ld rfl rfl rfl rfl ?_
      show nX _ _ _ _ _ _ 59 _ _ _ _ _
      refine nx_iald (p := (3393, 0)) rfl rfl (Nat.le_of_ble_eq_true rfl) (Nat.le_of_ble_eq_true rfl) rfl H (fun H => ?_)
      refine nx_icmp rfl rfl (by rfl) H (fun H => ?_) (fun H => ?_)
      · refine nx_ld rfl rfl rfl rfl ?_
        refine nx_if rfl rfl (by rfl) H (fun H => ?_) (fun H => ?_)
        · refine nx_int (x := (-13)) rfl rfl ?_
          exact nx_rit rfl rfl H
        refine nx_ld rfl rfl rfl rfl ?_
        refine nx_if rfl rfl (by rfl) H (fun H => ?_) (fun H => ?_)
        · refine nx_int (x := (-13)) rfl rfl ?_
          exact nx_rit rfl rfl H
        refine nx_ld rfl rfl rfl rfl ?_
        refine nx_if rfl rfl (by rfl) H (fun H => ?_) (fun H => ?_)
        · refine nx_int (x := (-13)) rfl rfl ?_
          exact nx_rit rfl rfl H
        refine nx_ld rfl rfl rfl rfl ?_
        refine nx_ld rfl rfl rfl rfl ?_
        refine nx_getFix rfl rfl rfl (by decide) (by rw [hW]; rfl) rfl ?_
        refine nx_ld rfl rfl rfl rfl ?_
        refine nx_iald (p := (3394, 0)) rfl rfl (Nat.le_of_ble_eq_true rfl) (Nat.le_of_ble_eq_true rfl) rfl H (fun H => ?_)
        refine nx_ld rfl rfl rfl rfl ?_
        refine nx_ii rfl rfl ?_
        show nX _ _ _ _ _ _ 90 _ _ _ _ _
        refine nx_icmp rfl rfl (by rfl) H (fun H => ?_) (fun H => ?_)
        · refine nx_int (x := (-13)) rfl rfl ?_
          exact nx_rit rfl rfl H
        refine nx_ld rfl rfl rfl rfl ?_
        refine nx_ld rfl rfl rfl rfl ?_
        refine nx_getFix rfl rfl rfl (by decide) (by rw [hW]; rfl) rfl ?_
        refine nx_ld rfl rfl rfl rfl ?_
        refine nx_iald (p := (3394, 0)) rfl rfl (Nat.le_of_ble_eq_true rfl) (Nat.le_of_ble_eq_true rfl) rfl H (fun H => ?_)
        refine nx_ld rfl rfl rfl rfl ?_
        refine nx_ii rfl rfl ?_
        show nX _ _ _ _ _ _ 104 _ _ _ _ _
        refine nx_icmp rfl rfl (by rfl) H (fun H => ?_) (fun H => ?_)
        · refine nx_int (x := 0) rfl rfl ?_
          refine nx_st (ls' := [some (eR (some (13, 0))), some (eI x1), some (eI x2), some (eI x3), some (eI x4), some (eI x5), some (eI 0)]) rfl rfl rfl (Nat.le_of_ble_eq_true rfl) rfl ?_
          exact TB_X13_shift_113 hW    10000 _ _ _ _ _ _ _ H
        refine nx_int (x := (-13)) rfl rfl ?_
        exact nx_rit rfl rfl H
      refine nx_int (x := (-12)) rfl rfl ?_
      exact nx_rit rfl rfl H
    refine nx_int (x := (-11)) rfl rfl ?_
    exact nx_rit rfl rfl H
  refine nx_int (x := (-1)) rfl rfl ?_
  exact nx_rit rfl rfl H
def F_X13_taken (t : TS) (x1 : Int32) (x2 : Int32) : Option Int32 := (Option.bind (F_X13_isShelf t x1) (fun r21 => (if r21 = 0 then (some ((-1))) else (Option.bind (F_X13_in t x2 0 7) (fun r22 => (if ¬ r22 = 0 then (gd x1 (tL t 3393 0) (if ¬ (tA t 3393 0 x1.toNatClampNeg) = (-1) then (gd x1 (tL t 3393 0) (if (tA t 3393 0 x1.toNatClampNeg) < 0 then (some ((-12))) else (gd x1 (tL t 3393 0) (gd (tA t 3393 0 x1.toNatClampNeg) (tL t 3308 0) (Option.bind (F_X13_isUnder t (tA t 3308 0 (tA t 3393 0 x1.toNatClampNeg).toNatClampNeg) x2) (fun r23 => (if r23 = 0 then (some ((-12))) else (gd x1 (tL t 3393 0) (gd (tA t 3393 0 x1.toNatClampNeg) (tL t 3308 0) (some ((tA t 3308 0 (tA t 3393 0 x1.toNatClampNeg).toNatClampNeg)))))))))))) else (some ((-11))))) else (some ((-1)))))))))
theorem TF_X13_taken {W : NW} {d : Nat} {t : TS} {x1 : Int32} {x2 : Int32} {Q : Option NV → TS → Prop} {bc bs : Nat} (hW : W.2.2.2 = mm_fx) (H : wp (F_X13_taken t x1 x2) (fun r => Q (some (eI r)) t)) : nC W (d + 3) 271 [eR (some (13, 0)), eI x1, eI x2] t bc bs Q := by
  refine nC_in (d := (d + 2)) (T := tX13_taken) (ls := [some (eR (some (13, 0))), some (eI x1), some (eI x2)]) rfl (Nat.le_of_ble_eq_true rfl) rfl (fun a0 e0 => ?_)
  unfold F_X13_taken at H
  refine nx_ld rfl rfl rfl rfl ?_
  refine nx_cSI (as := [eI x1]) (st' := []) rfl rfl (Nat.le_of_ble_eq_true rfl) rfl rfl (Nat.le_of_ble_eq_true rfl) H (fun Q H => TF_X13_isShelf hW  H) (fun r21 H => ?_)
  refine nx_if rfl rfl (by rfl) H (fun H => ?_) (fun H => ?_)
  · refine nx_int (x := (-1)) rfl rfl ?_
    exact nx_ri rfl rfl H
  refine nx_ld rfl rfl rfl rfl ?_
  refine nx_int (x := 0) rfl rfl ?_
  refine nx_int (x := 7) rfl rfl ?_
  refine nx_cSI (as := [eI x2, eI 0, eI 7]) (st' := []) rfl rfl (Nat.le_of_ble_eq_true rfl) rfl rfl (Nat.le_of_ble_eq_true rfl) H (fun Q H => TF_X13_in hW  H) (fun r22 H => ?_)
  refine nx_if rfl rfl (by rfl) H (fun H => ?_) (fun H => ?_)
  · refine nx_ld rfl rfl rfl rfl ?_
    refine nx_getFix rfl rfl rfl (by decide) (by rw [hW]; rfl) rfl ?_
    refine nx_ld rfl rfl rfl rfl ?_
    refine nx_iald (p := (3393, 0)) rfl rfl (Nat.le_of_ble_eq_true rfl) (Nat.le_of_ble_eq_true rfl) rfl H (fun H => ?_)
    refine nx_int (x := (-1)) rfl rfl ?_
    refine nx_icmp rfl rfl (by rfl) H (fun H => ?_) (fun H => ?_)
    · refine nx_ld rfl rfl rfl rfl ?_
      refine nx_getFix rfl rfl rfl (by decide) (by rw [hW]; rfl) rfl ?_
      refine nx_ld rfl rfl rfl rfl ?_
      refine nx_iald (p := (3393, 0)) rfl rfl (Nat.le_of_ble_eq_true rfl) (Nat.le_of_ble_eq_true rfl) rfl H (fun H => ?_)
      refine nx_if rfl rfl (by rfl) H (fun H => ?_) (fun H => ?_)
      · refine nx_int (x := (-12)) rfl rfl ?_
        exact nx_ri rfl rfl H
      refine nx_ld rfl rfl rfl rfl ?_
      refine nx_getFix rfl rfl rfl (by decide) (by rw [hW]; rfl) rfl ?_
      refine nx_ld rfl rfl rfl rfl ?_
      refine nx_getFix rfl rfl rfl (by decide) (by rw [hW]; rfl) rfl ?_
      refine nx_ld rfl rfl rfl rfl ?_
      refine nx_iald (p := (3393, 0)) rfl rfl (Nat.le_of_ble_eq_true rfl) (Nat.le_of_ble_eq_true rfl) rfl H (fun H => ?_)
      refine nx_iald (p := (3308, 0)) rfl rfl (Nat.le_of_ble_eq_true rfl) (Nat.le_of_ble_eq_true rfl) rfl H (fun H => ?_)
      show nX _ _ _ _ _ _ 52 _ _ _ _ _
      refine nx_ld rfl rfl rfl rfl ?_
      refine nx_cSI (as := [eI (tA t 3308 0 (tA t 3393 0 x1.toNatClampNeg).toNatClampNeg), eI x2]) (st' := []) rfl rfl (Nat.le_of_ble_eq_true rfl) rfl rfl (Nat.le_of_ble_eq_true rfl) H (fun Q H => TF_X13_isUnder hW  H) (fun r23 H => ?_)
      refine nx_if rfl rfl (by rfl) H (fun H => ?_) (fun H => ?_)
      · refine nx_int (x := (-12)) rfl rfl ?_
        exact nx_ri rfl rfl H
      refine nx_ld rfl rfl rfl rfl ?_
      refine nx_getFix rfl rfl rfl (by decide) (by rw [hW]; rfl) rfl ?_
      refine nx_ld rfl rfl rfl rfl ?_
      refine nx_getFix rfl rfl rfl (by decide) (by rw [hW]; rfl) rfl ?_
      refine nx_ld rfl rfl rfl rfl ?_
      refine nx_iald (p := (3393, 0)) rfl rfl (Nat.le_of_ble_eq_true rfl) (Nat.le_of_ble_eq_true rfl) rfl H (fun H => ?_)
      refine nx_iald (p := (3308, 0)) rfl rfl (Nat.le_of_ble_eq_true rfl) (Nat.le_of_ble_eq_true rfl) rfl H (fun H => ?_)
      show nX _ _ _ _ _ _ 70 _ _ _ _ _
      refine nx_goto rfl rfl ?_
      exact nx_ri rfl rfl H
    refine nx_int (x := (-11)) rfl rfl ?_
    exact nx_ri rfl rfl H
  refine nx_int (x := (-1)) rfl rfl ?_
  exact nx_ri rfl rfl H
def B_X13_count_89 (k67 : TS → Int32 → Int32 → Option Int32) (t : TS) (v3 : Int32) (s0 : Int32) (s1 : Int32) : Option Int32 := (k67 t (s1 + s0) (v3 + 1))
theorem TB_X13_count_89 {W : NW} {d : Nat} {Q : Option NV → TS → Prop} {a0 : Nat → Nat → Nat} {e0 : Nat → Nat → Bool} {t : TS} {k67 : TS → Int32 → Int32 → Option Int32} {bc bs : Nat} (hW : W.2.2.2 = mm_fx) (hk67 : ∀ (v1 : Int32) (v2 : Int32) (v3 : Int32), wp (k67 t v2 v3) (fun r => Q (some (eI r)) t) → nX W (d + 3) tX13_count Q a0 e0 67 [some (eR (some (13, 0))), some (eI v1), some (eI v2), some (eI v3)] [] t bc bs) : ∀ (v1 : Int32) (v2 : Int32) (v3 : Int32) (s0 : Int32) (s1 : Int32), wp (B_X13_count_89 k67 t v3 s0 s1) (fun r => Q (some (eI r)) t) → nX W (d + 3) tX13_count Q a0 e0 89 [some (eR (some (13, 0))), some (eI v1), some (eI v2), some (eI v3)] [eI s0, eI s1] t bc bs := by
  intro v1 v2 v3 s0 s1 H
  unfold B_X13_count_89 at H
  refine nx_ii rfl rfl ?_
  refine nx_st (ls' := [some (eR (some (13, 0))), some (eI v1), some (eI (s1 + s0)), some (eI v3)]) rfl rfl rfl (Nat.le_of_ble_eq_true rfl) rfl ?_
  refine nx_iinc2 1 (ls' := [some (eR (some (13, 0))), some (eI v1), some (eI (s1 + s0)), some (eI (v3 + 1))]) rfl rfl rfl rfl rfl ?_
  refine nx_goto rfl rfl ?_
  exact hk67 _ _ _ H
def BB_X13_count_67 (k67 : TS → Int32 → Int32 → Option Int32) (t : TS) (v2 : Int32) (v3 : Int32) : Option Int32 := (if (tI t 1307 0) ≤ v3 then (some (v2)) else (Option.bind (F_X13_isClub t v3) (fun r21 => (if r21 = 0 then (B_X13_count_89 k67 t v3 0 v2) else (B_X13_count_89 k67 t v3 1 v2)))))
theorem TBB_X13_count_67 {W : NW} {d : Nat} {Q : Option NV → TS → Prop} {a0 : Nat → Nat → Nat} {e0 : Nat → Nat → Bool} {t : TS} {k67 : TS → Int32 → Int32 → Option Int32} {bc bs : Nat} (hW : W.2.2.2 = mm_fx) (hk67 : ∀ (v1 : Int32) (v2 : Int32) (v3 : Int32), wp (k67 t v2 v3) (fun r => Q (some (eI r)) t) → nX W (d + 3) tX13_count Q a0 e0 67 [some (eR (some (13, 0))), some (eI v1), some (eI v2), some (eI v3)] [] t bc bs) : ∀ (v1 : Int32) (v2 : Int32) (v3 : Int32), wp (BB_X13_count_67 k67 t v2 v3) (fun r => Q (some (eI r)) t) → nX W (d + 3) tX13_count Q a0 e0 67 [some (eR (some (13, 0))), some (eI v1), some (eI v2), some (eI v3)] [] t bc bs := by
  intro v1 v2 v3 H
  unfold BB_X13_count_67 at H
  refine nx_ld rfl rfl rfl rfl ?_
  refine nx_ld rfl rfl rfl rfl ?_
  refine nx_getI rfl rfl rfl (by decide) ?_
  refine nx_icmp rfl rfl (by rfl) H (fun H => ?_) (fun H => ?_)
  · refine nx_ld rfl rfl rfl rfl ?_
    exact nx_ri rfl rfl H
  refine nx_ld rfl rfl rfl rfl ?_
  refine nx_ld rfl rfl rfl rfl ?_
  refine nx_ld rfl rfl rfl rfl ?_
  refine nx_cVI (as := [eI v3]) (st' := [eI v2]) rfl rfl (Nat.le_of_ble_eq_true rfl) rfl rfl (Nat.le_of_ble_eq_true rfl) (c0 := 13) rfl (by decide) H (fun Q H => TF_X13_isClub hW  H) (fun r21 H => ?_)
  refine nx_if rfl rfl (by rfl) H (fun H => ?_) (fun H => ?_)
  · refine nx_int (x := 0) rfl rfl ?_
    exact TB_X13_count_89 hW   hk67 _ _ _ _ _ H
  refine nx_int (x := 1) rfl rfl ?_
  refine nx_goto rfl rfl ?_
  exact TB_X13_count_89 hW   hk67 _ _ _ _ _ H
def B_X13_count_67 : Nat → TS → Int32 → Int32 → Option Int32
  | 0 => fun _ _ _ => none
  | n + 1 => fun t v2 v3 => BB_X13_count_67 (B_X13_count_67 n) t v2 v3
theorem TB_X13_count_67 {W : NW} {d : Nat} {Q : Option NV → TS → Prop} {a0 : Nat → Nat → Nat} {e0 : Nat → Nat → Bool} {t : TS} {bc bs : Nat} (hW : W.2.2.2 = mm_fx) : ∀ (n : Nat) (v1 : Int32) (v2 : Int32) (v3 : Int32), wp (B_X13_count_67 n t v2 v3) (fun r => Q (some (eI r)) t) → nX W (d + 3) tX13_count Q a0 e0 67 [some (eR (some (13, 0))), some (eI v1), some (eI v2), some (eI v3)] [] t bc bs := by
  intro n
  induction n with
  | zero => intro v1 v2 v3 H; exact (wp_none H).elim
  | succ n ih =>
    intro v1 v2 v3 H
    exact TBB_X13_count_67 hW    ih v1 v2 v3 H
def B_X13_count_123 (k101 : TS → Int32 → Int32 → Option Int32) (t : TS) (v3 : Int32) (s0 : Int32) (s1 : Int32) : Option Int32 := (k101 t (s1 + s0) (v3 + 1))
theorem TB_X13_count_123 {W : NW} {d : Nat} {Q : Option NV → TS → Prop} {a0 : Nat → Nat → Nat} {e0 : Nat → Nat → Bool} {t : TS} {k101 : TS → Int32 → Int32 → Option Int32} {bc bs : Nat} (hW : W.2.2.2 = mm_fx) (hk101 : ∀ (v1 : Int32) (v2 : Int32) (v3 : Int32), wp (k101 t v2 v3) (fun r => Q (some (eI r)) t) → nX W (d + 3) tX13_count Q a0 e0 101 [some (eR (some (13, 0))), some (eI v1), some (eI v2), some (eI v3)] [] t bc bs) : ∀ (v1 : Int32) (v2 : Int32) (v3 : Int32) (s0 : Int32) (s1 : Int32), wp (B_X13_count_123 k101 t v3 s0 s1) (fun r => Q (some (eI r)) t) → nX W (d + 3) tX13_count Q a0 e0 123 [some (eR (some (13, 0))), some (eI v1), some (eI v2), some (eI v3)] [eI s0, eI s1] t bc bs := by
  intro v1 v2 v3 s0 s1 H
  unfold B_X13_count_123 at H
  refine nx_ii rfl rfl ?_
  refine nx_st (ls' := [some (eR (some (13, 0))), some (eI v1), some (eI (s1 + s0)), some (eI v3)]) rfl rfl rfl (Nat.le_of_ble_eq_true rfl) rfl ?_
  refine nx_iinc2 1 (ls' := [some (eR (some (13, 0))), some (eI v1), some (eI (s1 + s0)), some (eI (v3 + 1))]) rfl rfl rfl rfl rfl ?_
  refine nx_goto rfl rfl ?_
  exact hk101 _ _ _ H
def BB_X13_count_101 (k101 : TS → Int32 → Int32 → Option Int32) (t : TS) (v2 : Int32) (v3 : Int32) : Option Int32 := (if (tI t 1307 0) ≤ v3 then (some (v2)) else (Option.bind (F_X13_isPlayer t v3) (fun r21 => (if r21 = 0 then (B_X13_count_123 k101 t v3 0 v2) else (B_X13_count_123 k101 t v3 1 v2)))))
theorem TBB_X13_count_101 {W : NW} {d : Nat} {Q : Option NV → TS → Prop} {a0 : Nat → Nat → Nat} {e0 : Nat → Nat → Bool} {t : TS} {k101 : TS → Int32 → Int32 → Option Int32} {bc bs : Nat} (hW : W.2.2.2 = mm_fx) (hk101 : ∀ (v1 : Int32) (v2 : Int32) (v3 : Int32), wp (k101 t v2 v3) (fun r => Q (some (eI r)) t) → nX W (d + 3) tX13_count Q a0 e0 101 [some (eR (some (13, 0))), some (eI v1), some (eI v2), some (eI v3)] [] t bc bs) : ∀ (v1 : Int32) (v2 : Int32) (v3 : Int32), wp (BB_X13_count_101 k101 t v2 v3) (fun r => Q (some (eI r)) t) → nX W (d + 3) tX13_count Q a0 e0 101 [some (eR (some (13, 0))), some (eI v1), some (eI v2), some (eI v3)] [] t bc bs := by
  intro v1 v2 v3 H
  unfold BB_X13_count_101 at H
  refine nx_ld rfl rfl rfl rfl ?_
  refine nx_ld rfl rfl rfl rfl ?_
  refine nx_getI rfl rfl rfl (by decide) ?_
  refine nx_icmp rfl rfl (by rfl) H (fun H => ?_) (fun H => ?_)
  · refine nx_ld rfl rfl rfl rfl ?_
    exact nx_ri rfl rfl H
  refine nx_ld rfl rfl rfl rfl ?_
  refine nx_ld rfl rfl rfl rfl ?_
  refine nx_ld rfl rfl rfl rfl ?_
  refine nx_cVI (as := [eI v3]) (st' := [eI v2]) rfl rfl (Nat.le_of_ble_eq_true rfl) rfl rfl (Nat.le_of_ble_eq_true rfl) (c0 := 13) rfl (by decide) H (fun Q H => TF_X13_isPlayer hW  H) (fun r21 H => ?_)
  refine nx_if rfl rfl (by rfl) H (fun H => ?_) (fun H => ?_)
  · refine nx_int (x := 0) rfl rfl ?_
    exact TB_X13_count_123 hW   hk101 _ _ _ _ _ H
  refine nx_int (x := 1) rfl rfl ?_
  refine nx_goto rfl rfl ?_
  exact TB_X13_count_123 hW   hk101 _ _ _ _ _ H
def B_X13_count_101 : Nat → TS → Int32 → Int32 → Option Int32
  | 0 => fun _ _ _ => none
  | n + 1 => fun t v2 v3 => BB_X13_count_101 (B_X13_count_101 n) t v2 v3
theorem TB_X13_count_101 {W : NW} {d : Nat} {Q : Option NV → TS → Prop} {a0 : Nat → Nat → Nat} {e0 : Nat → Nat → Bool} {t : TS} {bc bs : Nat} (hW : W.2.2.2 = mm_fx) : ∀ (n : Nat) (v1 : Int32) (v2 : Int32) (v3 : Int32), wp (B_X13_count_101 n t v2 v3) (fun r => Q (some (eI r)) t) → nX W (d + 3) tX13_count Q a0 e0 101 [some (eR (some (13, 0))), some (eI v1), some (eI v2), some (eI v3)] [] t bc bs := by
  intro n
  induction n with
  | zero => intro v1 v2 v3 H; exact (wp_none H).elim
  | succ n ih =>
    intro v1 v2 v3 H
    exact TBB_X13_count_101 hW    ih v1 v2 v3 H
def B_X13_count_163 (k140 : TS → Int32 → Int32 → Option Int32) (t : TS) (v3 : Int32) (s0 : Int32) (s1 : Int32) : Option Int32 := (k140 t (s1 + s0) (v3 + 1))
theorem TB_X13_count_163 {W : NW} {d : Nat} {Q : Option NV → TS → Prop} {a0 : Nat → Nat → Nat} {e0 : Nat → Nat → Bool} {t : TS} {k140 : TS → Int32 → Int32 → Option Int32} {bc bs : Nat} (hW : W.2.2.2 = mm_fx) (hk140 : ∀ (v1 : Int32) (v2 : Int32) (v3 : Int32), wp (k140 t v2 v3) (fun r => Q (some (eI r)) t) → nX W (d + 3) tX13_count Q a0 e0 140 [some (eR (some (13, 0))), some (eI v1), some (eI v2), some (eI v3)] [] t bc bs) : ∀ (v1 : Int32) (v2 : Int32) (v3 : Int32) (s0 : Int32) (s1 : Int32), wp (B_X13_count_163 k140 t v3 s0 s1) (fun r => Q (some (eI r)) t) → nX W (d + 3) tX13_count Q a0 e0 163 [some (eR (some (13, 0))), some (eI v1), some (eI v2), some (eI v3)] [eI s0, eI s1] t bc bs := by
  intro v1 v2 v3 s0 s1 H
  unfold B_X13_count_163 at H
  refine nx_ii rfl rfl ?_
  refine nx_st (ls' := [some (eR (some (13, 0))), some (eI v1), some (eI (s1 + s0)), some (eI v3)]) rfl rfl rfl (Nat.le_of_ble_eq_true rfl) rfl ?_
  refine nx_iinc2 1 (ls' := [some (eR (some (13, 0))), some (eI v1), some (eI (s1 + s0)), some (eI (v3 + 1))]) rfl rfl rfl rfl rfl ?_
  refine nx_goto rfl rfl ?_
  exact hk140 _ _ _ H
def BB_X13_count_140 (k140 : TS → Int32 → Int32 → Option Int32) (t : TS) (v2 : Int32) (v3 : Int32) : Option Int32 := (if (tI t 1327 0) ≤ v3 then (some (v2)) else (gd v3 (tL t 3334 0) (if (tA t 3334 0 v3.toNatClampNeg) = 0 then (B_X13_count_163 k140 t v3 1 v2) else (B_X13_count_163 k140 t v3 0 v2))))
theorem TBB_X13_count_140 {W : NW} {d : Nat} {Q : Option NV → TS → Prop} {a0 : Nat → Nat → Nat} {e0 : Nat → Nat → Bool} {t : TS} {k140 : TS → Int32 → Int32 → Option Int32} {bc bs : Nat} (hW : W.2.2.2 = mm_fx) (hk140 : ∀ (v1 : Int32) (v2 : Int32) (v3 : Int32), wp (k140 t v2 v3) (fun r => Q (some (eI r)) t) → nX W (d + 3) tX13_count Q a0 e0 140 [some (eR (some (13, 0))), some (eI v1), some (eI v2), some (eI v3)] [] t bc bs) : ∀ (v1 : Int32) (v2 : Int32) (v3 : Int32), wp (BB_X13_count_140 k140 t v2 v3) (fun r => Q (some (eI r)) t) → nX W (d + 3) tX13_count Q a0 e0 140 [some (eR (some (13, 0))), some (eI v1), some (eI v2), some (eI v3)] [] t bc bs := by
  intro v1 v2 v3 H
  unfold BB_X13_count_140 at H
  refine nx_ld rfl rfl rfl rfl ?_
  refine nx_ld rfl rfl rfl rfl ?_
  refine nx_getI rfl rfl rfl (by decide) ?_
  refine nx_icmp rfl rfl (by rfl) H (fun H => ?_) (fun H => ?_)
  · refine nx_ld rfl rfl rfl rfl ?_
    exact nx_ri rfl rfl H
  refine nx_ld rfl rfl rfl rfl ?_
  refine nx_ld rfl rfl rfl rfl ?_
  refine nx_getFix rfl rfl rfl (by decide) (by rw [hW]; rfl) rfl ?_
  refine nx_ld rfl rfl rfl rfl ?_
  refine nx_bald (c := 3334) (i := 0) rfl rfl (Nat.le_of_ble_eq_true rfl) (Nat.le_of_ble_eq_true rfl) (Or.inr rfl) H (fun H => ?_)
  refine nx_if rfl rfl (by rfl) H (fun H => ?_) (fun H => ?_)
  · refine nx_int (x := 1) rfl rfl ?_
    exact TB_X13_count_163 hW   hk140 _ _ _ _ _ H
  refine nx_int (x := 0) rfl rfl ?_
  refine nx_goto rfl rfl ?_
  exact TB_X13_count_163 hW   hk140 _ _ _ _ _ H
def B_X13_count_140 : Nat → TS → Int32 → Int32 → Option Int32
  | 0 => fun _ _ _ => none
  | n + 1 => fun t v2 v3 => BB_X13_count_140 (B_X13_count_140 n) t v2 v3
theorem TB_X13_count_140 {W : NW} {d : Nat} {Q : Option NV → TS → Prop} {a0 : Nat → Nat → Nat} {e0 : Nat → Nat → Bool} {t : TS} {bc bs : Nat} (hW : W.2.2.2 = mm_fx) : ∀ (n : Nat) (v1 : Int32) (v2 : Int32) (v3 : Int32), wp (B_X13_count_140 n t v2 v3) (fun r => Q (some (eI r)) t) → nX W (d + 3) tX13_count Q a0 e0 140 [some (eR (some (13, 0))), some (eI v1), some (eI v2), some (eI v3)] [] t bc bs := by
  intro n
  induction n with
  | zero => intro v1 v2 v3 H; exact (wp_none H).elim
  | succ n ih =>
    intro v1 v2 v3 H
    exact TBB_X13_count_140 hW    ih v1 v2 v3 H
def B_X13_count_229 (k195 : TS → Int32 → Int32 → Option Int32) (t : TS) (v3 : Int32) (s0 : Int32) (s1 : Int32) : Option Int32 := (k195 t (s1 + s0) (v3 + 1))
theorem TB_X13_count_229 {W : NW} {d : Nat} {Q : Option NV → TS → Prop} {a0 : Nat → Nat → Nat} {e0 : Nat → Nat → Bool} {t : TS} {k195 : TS → Int32 → Int32 → Option Int32} {bc bs : Nat} (hW : W.2.2.2 = mm_fx) (hk195 : ∀ (v1 : Int32) (v2 : Int32) (v3 : Int32), wp (k195 t v2 v3) (fun r => Q (some (eI r)) t) → nX W (d + 3) tX13_count Q a0 e0 195 [some (eR (some (13, 0))), some (eI v1), some (eI v2), some (eI v3)] [] t bc bs) : ∀ (v1 : Int32) (v2 : Int32) (v3 : Int32) (s0 : Int32) (s1 : Int32), wp (B_X13_count_229 k195 t v3 s0 s1) (fun r => Q (some (eI r)) t) → nX W (d + 3) tX13_count Q a0 e0 229 [some (eR (some (13, 0))), some (eI v1), some (eI v2), some (eI v3)] [eI s0, eI s1] t bc bs := by
  intro v1 v2 v3 s0 s1 H
  unfold B_X13_count_229 at H
  refine nx_ii rfl rfl ?_
  refine nx_st (ls' := [some (eR (some (13, 0))), some (eI v1), some (eI (s1 + s0)), some (eI v3)]) rfl rfl rfl (Nat.le_of_ble_eq_true rfl) rfl ?_
  refine nx_iinc2 1 (ls' := [some (eR (some (13, 0))), some (eI v1), some (eI (s1 + s0)), some (eI (v3 + 1))]) rfl rfl rfl rfl rfl ?_
  refine nx_goto rfl rfl ?_
  exact hk195 _ _ _ H
def B_X13_count_228 (k195 : TS → Int32 → Int32 → Option Int32) (t : TS) (v3 : Int32) (s0 : Int32) : Option Int32 := (B_X13_count_229 k195 t v3 0 s0)
theorem TB_X13_count_228 {W : NW} {d : Nat} {Q : Option NV → TS → Prop} {a0 : Nat → Nat → Nat} {e0 : Nat → Nat → Bool} {t : TS} {k195 : TS → Int32 → Int32 → Option Int32} {bc bs : Nat} (hW : W.2.2.2 = mm_fx) (hk195 : ∀ (v1 : Int32) (v2 : Int32) (v3 : Int32), wp (k195 t v2 v3) (fun r => Q (some (eI r)) t) → nX W (d + 3) tX13_count Q a0 e0 195 [some (eR (some (13, 0))), some (eI v1), some (eI v2), some (eI v3)] [] t bc bs) : ∀ (v1 : Int32) (v2 : Int32) (v3 : Int32) (s0 : Int32), wp (B_X13_count_228 k195 t v3 s0) (fun r => Q (some (eI r)) t) → nX W (d + 3) tX13_count Q a0 e0 228 [some (eR (some (13, 0))), some (eI v1), some (eI v2), some (eI v3)] [eI s0] t bc bs := by
  intro v1 v2 v3 s0 H
  unfold B_X13_count_228 at H
  refine nx_int (x := 0) rfl rfl ?_
  exact TB_X13_count_229 hW   hk195 _ _ _ _ _ H
def BB_X13_count_195 (k195 : TS → Int32 → Int32 → Option Int32) (t : TS) (v2 : Int32) (v3 : Int32) : Option Int32 := (if (tI t 1307 0) ≤ v3 then (some (v2)) else (Option.bind (F_X13_isPlayer t v3) (fun r21 => (if r21 = 0 then (B_X13_count_228 k195 t v3 v2) else (Option.bind (F_X13_ownerOn t v3 (tI t 1301 0)) (fun r22 => (if 0 ≤ r22 then (B_X13_count_228 k195 t v3 v2) else (B_X13_count_229 k195 t v3 1 v2))))))))
theorem TBB_X13_count_195 {W : NW} {d : Nat} {Q : Option NV → TS → Prop} {a0 : Nat → Nat → Nat} {e0 : Nat → Nat → Bool} {t : TS} {k195 : TS → Int32 → Int32 → Option Int32} {bc bs : Nat} (hW : W.2.2.2 = mm_fx) (hk195 : ∀ (v1 : Int32) (v2 : Int32) (v3 : Int32), wp (k195 t v2 v3) (fun r => Q (some (eI r)) t) → nX W (d + 3) tX13_count Q a0 e0 195 [some (eR (some (13, 0))), some (eI v1), some (eI v2), some (eI v3)] [] t bc bs) : ∀ (v1 : Int32) (v2 : Int32) (v3 : Int32), wp (BB_X13_count_195 k195 t v2 v3) (fun r => Q (some (eI r)) t) → nX W (d + 3) tX13_count Q a0 e0 195 [some (eR (some (13, 0))), some (eI v1), some (eI v2), some (eI v3)] [] t bc bs := by
  intro v1 v2 v3 H
  unfold BB_X13_count_195 at H
  refine nx_ld rfl rfl rfl rfl ?_
  refine nx_ld rfl rfl rfl rfl ?_
  refine nx_getI rfl rfl rfl (by decide) ?_
  refine nx_icmp rfl rfl (by rfl) H (fun H => ?_) (fun H => ?_)
  · refine nx_ld rfl rfl rfl rfl ?_
    exact nx_ri rfl rfl H
  refine nx_ld rfl rfl rfl rfl ?_
  refine nx_ld rfl rfl rfl rfl ?_
  refine nx_ld rfl rfl rfl rfl ?_
  refine nx_cVI (as := [eI v3]) (st' := [eI v2]) rfl rfl (Nat.le_of_ble_eq_true rfl) rfl rfl (Nat.le_of_ble_eq_true rfl) (c0 := 13) rfl (by decide) H (fun Q H => TF_X13_isPlayer hW  H) (fun r21 H => ?_)
  refine nx_if rfl rfl (by rfl) H (fun H => ?_) (fun H => ?_)
  · exact TB_X13_count_228 hW   hk195 _ _ _ _ H
  refine nx_ld rfl rfl rfl rfl ?_
  refine nx_ld rfl rfl rfl rfl ?_
  refine nx_ld rfl rfl rfl rfl ?_
  refine nx_getI rfl rfl rfl (by decide) ?_
  refine nx_cVI (as := [eI v3, eI (tI t 1301 0)]) (st' := [eI v2]) rfl rfl (Nat.le_of_ble_eq_true rfl) rfl rfl (Nat.le_of_ble_eq_true rfl) (c0 := 13) rfl (by decide) H (fun Q H => TF_X13_ownerOn hW  H) (fun r22 H => ?_)
  refine nx_if rfl rfl (by rfl) H (fun H => ?_) (fun H => ?_)
  · exact TB_X13_count_228 hW   hk195 _ _ _ _ H
  refine nx_int (x := 1) rfl rfl ?_
  refine nx_goto rfl rfl ?_
  exact TB_X13_count_229 hW   hk195 _ _ _ _ _ H
def B_X13_count_195 : Nat → TS → Int32 → Int32 → Option Int32
  | 0 => fun _ _ _ => none
  | n + 1 => fun t v2 v3 => BB_X13_count_195 (B_X13_count_195 n) t v2 v3
theorem TB_X13_count_195 {W : NW} {d : Nat} {Q : Option NV → TS → Prop} {a0 : Nat → Nat → Nat} {e0 : Nat → Nat → Bool} {t : TS} {bc bs : Nat} (hW : W.2.2.2 = mm_fx) : ∀ (n : Nat) (v1 : Int32) (v2 : Int32) (v3 : Int32), wp (B_X13_count_195 n t v2 v3) (fun r => Q (some (eI r)) t) → nX W (d + 3) tX13_count Q a0 e0 195 [some (eR (some (13, 0))), some (eI v1), some (eI v2), some (eI v3)] [] t bc bs := by
  intro n
  induction n with
  | zero => intro v1 v2 v3 H; exact (wp_none H).elim
  | succ n ih =>
    intro v1 v2 v3 H
    exact TBB_X13_count_195 hW    ih v1 v2 v3 H
def F_X13_count (t : TS) (x1 : Int32) : Option Int32 := (swi x1 0 [(some ((tI t 1307 0))), (B_X13_count_67  10000 t 0 0), (B_X13_count_101  10000 t 0 0), (some ((tI t 1316 0))), (B_X13_count_140  10000 t 0 0), (some ((tI t 1355 0))), (some ((tI t 1301 0))), (some ((tI t 1302 0))), (some ((tI t 1354 0))), (B_X13_count_195  10000 t 0 0), (some ((tI t 1391 0)))] (some ((-1))))
theorem TF_X13_count {W : NW} {d : Nat} {t : TS} {x1 : Int32} {Q : Option NV → TS → Prop} {bc bs : Nat} (hW : W.2.2.2 = mm_fx) (H : wp (F_X13_count t x1) (fun r => Q (some (eI r)) t)) : nC W (d + 4) 272 [eR (some (13, 0)), eI x1] t bc bs Q := by
  refine nC_in (d := (d + 3)) (T := tX13_count) (ls := [some (eR (some (13, 0))), some (eI x1), none, none]) rfl (Nat.le_of_ble_eq_true rfl) rfl (fun a0 e0 => ?_)
  unfold F_X13_count at H
  refine nx_int (x := 0) rfl rfl ?_
  refine nx_st (ls' := [some (eR (some (13, 0))), some (eI x1), some (eI 0), none]) rfl rfl rfl (Nat.le_of_ble_eq_true rfl) rfl ?_
  refine nx_ld rfl rfl rfl rfl ?_
  refine nx_tsw rfl rfl (by decide) (by decide) (by decide) H (fun H => ?_) ?_
  · show nX _ _ _ _ _ _ 244 _ _ _ _ _
    refine nx_int (x := (-1)) rfl rfl ?_
    exact nx_ri rfl rfl H
  refine ⟨fun H => ?_, fun H => ?_, fun H => ?_, fun H => ?_, fun H => ?_, fun H => ?_, fun H => ?_, fun H => ?_, fun H => ?_, fun H => ?_, fun H => ?_, trivial⟩
  · show nX _ _ _ _ _ _ 60 _ _ _ _ _
    refine nx_ld rfl rfl rfl rfl ?_
    refine nx_getI rfl rfl rfl (by decide) ?_
    exact nx_ri rfl rfl H
  · show nX _ _ _ _ _ _ 65 _ _ _ _ _
    refine nx_int (x := 0) rfl rfl ?_
    refine nx_st (ls' := [some (eR (some (13, 0))), some (eI x1), some (eI 0), some (eI 0)]) rfl rfl rfl (Nat.le_of_ble_eq_true rfl) rfl ?_
    exact TB_X13_count_67 hW    10000 _ _ _ H
  · show nX _ _ _ _ _ _ 99 _ _ _ _ _
    refine nx_int (x := 0) rfl rfl ?_
    refine nx_st (ls' := [some (eR (some (13, 0))), some (eI x1), some (eI 0), some (eI 0)]) rfl rfl rfl (Nat.le_of_ble_eq_true rfl) rfl ?_
    exact TB_X13_count_101 hW    10000 _ _ _ H
  · show nX _ _ _ _ _ _ 133 _ _ _ _ _
    refine nx_ld rfl rfl rfl rfl ?_
    refine nx_getI rfl rfl rfl (by decide) ?_
    exact nx_ri rfl rfl H
  · show nX _ _ _ _ _ _ 138 _ _ _ _ _
    refine nx_int (x := 0) rfl rfl ?_
    refine nx_st (ls' := [some (eR (some (13, 0))), some (eI x1), some (eI 0), some (eI 0)]) rfl rfl rfl (Nat.le_of_ble_eq_true rfl) rfl ?_
    exact TB_X13_count_140 hW    10000 _ _ _ H
  · show nX _ _ _ _ _ _ 173 _ _ _ _ _
    refine nx_ld rfl rfl rfl rfl ?_
    refine nx_getI rfl rfl rfl (by decide) ?_
    exact nx_ri rfl rfl H
  · show nX _ _ _ _ _ _ 178 _ _ _ _ _
    refine nx_ld rfl rfl rfl rfl ?_
    refine nx_getI rfl rfl rfl (by decide) ?_
    exact nx_ri rfl rfl H
  · show nX _ _ _ _ _ _ 183 _ _ _ _ _
    refine nx_ld rfl rfl rfl rfl ?_
    refine nx_getI rfl rfl rfl (by decide) ?_
    exact nx_ri rfl rfl H
  · show nX _ _ _ _ _ _ 188 _ _ _ _ _
    refine nx_ld rfl rfl rfl rfl ?_
    refine nx_getI rfl rfl rfl (by decide) ?_
    exact nx_ri rfl rfl H
  · show nX _ _ _ _ _ _ 193 _ _ _ _ _
    refine nx_int (x := 0) rfl rfl ?_
    refine nx_st (ls' := [some (eR (some (13, 0))), some (eI x1), some (eI 0), some (eI 0)]) rfl rfl rfl (Nat.le_of_ble_eq_true rfl) rfl ?_
    exact TB_X13_count_195 hW    10000 _ _ _ H
  · show nX _ _ _ _ _ _ 239 _ _ _ _ _
    refine nx_ld rfl rfl rfl rfl ?_
    refine nx_getI rfl rfl rfl (by decide) ?_
    exact nx_ri rfl rfl H
