/-! functions of methods over the typed heap, and that the runs follow them (by program: wip/whole/walk.py) -/
def B_X13_findSquad_116 (k17 : TS → Int32 → Int32 → Int32 → Option TS) (t : TS) (v1 : Int32) (v2 : Int32) (v3 : Int32) : Option TS := (k17 t v1 v2 (v3 + 1))
theorem TB_X13_findSquad_116 {W : NW} {d : Nat} {Q : Option NV → TS → Prop} {a0 : Nat → Nat → Nat} {e0 : Nat → Nat → Bool} {k17 : TS → Int32 → Int32 → Int32 → Option TS} {bc bs : Nat} (hW : W.2.2.2 = mm_fx) (hk17 : ∀ (t : TS) (v1 : Int32) (v2 : Int32) (v3 : Int32), wp (k17 t v1 v2 v3) (fun r => Q none r) → nX W (d + 4) tX13_findSquad Q a0 e0 17 [some (eR (some (13, 0))), some (eI v1), some (eI v2), some (eI v3)] [] t bc bs) : ∀ (t : TS) (v1 : Int32) (v2 : Int32) (v3 : Int32), wp (B_X13_findSquad_116 k17 t v1 v2 v3) (fun r => Q none r) → nX W (d + 4) tX13_findSquad Q a0 e0 116 [some (eR (some (13, 0))), some (eI v1), some (eI v2), some (eI v3)] [] t bc bs := by
  intro t v1 v2 v3 H
  unfold B_X13_findSquad_116 at H
  refine nx_iinc2 1 (ls' := [some (eR (some (13, 0))), some (eI v1), some (eI v2), some (eI (v3 + 1))]) rfl rfl rfl rfl rfl ?_
  refine nx_goto rfl rfl ?_
  exact hk17 _ _ _ _ H
def B_X13_findSquad_112 (k17 : TS → Int32 → Int32 → Int32 → Option TS) (t : TS) (v1 : Int32) (v2 : Int32) (v3 : Int32) (s0 : Int32) (s1 : Int32) : Option TS := (nxt (uI t 1352 0 (s1 + s0)) (fun t21 => (B_X13_findSquad_116 k17 t21 v1 v2 v3)))
theorem TB_X13_findSquad_112 {W : NW} {d : Nat} {Q : Option NV → TS → Prop} {a0 : Nat → Nat → Nat} {e0 : Nat → Nat → Bool} {k17 : TS → Int32 → Int32 → Int32 → Option TS} {bc bs : Nat} (hW : W.2.2.2 = mm_fx) (hk17 : ∀ (t : TS) (v1 : Int32) (v2 : Int32) (v3 : Int32), wp (k17 t v1 v2 v3) (fun r => Q none r) → nX W (d + 4) tX13_findSquad Q a0 e0 17 [some (eR (some (13, 0))), some (eI v1), some (eI v2), some (eI v3)] [] t bc bs) : ∀ (t : TS) (v1 : Int32) (v2 : Int32) (v3 : Int32) (s0 : Int32) (s1 : Int32), wp (B_X13_findSquad_112 k17 t v1 v2 v3 s0 s1) (fun r => Q none r) → nX W (d + 4) tX13_findSquad Q a0 e0 112 [some (eR (some (13, 0))), some (eI v1), some (eI v2), some (eI v3)] [eI s0, eI s1, eR (some (13, 0))] t bc bs := by
  intro t v1 v2 v3 s0 s1 H
  unfold B_X13_findSquad_112 at H
  refine nx_ii rfl rfl ?_
  refine nx_putI rfl rfl rfl (by decide) H (fun t21 H => ?_)
  exact TB_X13_findSquad_116 hW   hk17 _ _ _ _ H
def B_X13_findSquad_88 (k17 : TS → Int32 → Int32 → Int32 → Option TS) (t : TS) (v1 : Int32) (v2 : Int32) (v3 : Int32) (s0 : Int32) (s1 : Int32) : Option TS := (nxt (uI t 1351 0 (s1 + s0)) (fun t21 => (gd v3 (tL t21 3308 0) (if ¬ (tA t21 3308 0 v3.toNatClampNeg) = 4 then (B_X13_findSquad_112 k17 t21 v1 v2 v3 0 (tI t21 1352 0)) else (B_X13_findSquad_112 k17 t21 v1 v2 v3 1 (tI t21 1352 0))))))
theorem TB_X13_findSquad_88 {W : NW} {d : Nat} {Q : Option NV → TS → Prop} {a0 : Nat → Nat → Nat} {e0 : Nat → Nat → Bool} {k17 : TS → Int32 → Int32 → Int32 → Option TS} {bc bs : Nat} (hW : W.2.2.2 = mm_fx) (hk17 : ∀ (t : TS) (v1 : Int32) (v2 : Int32) (v3 : Int32), wp (k17 t v1 v2 v3) (fun r => Q none r) → nX W (d + 4) tX13_findSquad Q a0 e0 17 [some (eR (some (13, 0))), some (eI v1), some (eI v2), some (eI v3)] [] t bc bs) : ∀ (t : TS) (v1 : Int32) (v2 : Int32) (v3 : Int32) (s0 : Int32) (s1 : Int32), wp (B_X13_findSquad_88 k17 t v1 v2 v3 s0 s1) (fun r => Q none r) → nX W (d + 4) tX13_findSquad Q a0 e0 88 [some (eR (some (13, 0))), some (eI v1), some (eI v2), some (eI v3)] [eI s0, eI s1, eR (some (13, 0))] t bc bs := by
  intro t v1 v2 v3 s0 s1 H
  unfold B_X13_findSquad_88 at H
  refine nx_ii rfl rfl ?_
  refine nx_putI rfl rfl rfl (by decide) H (fun t21 H => ?_)
  refine nx_ld rfl rfl rfl rfl ?_
  refine nx_dup rfl rfl (Nat.ne_of_beq_eq_false rfl) ?_
  refine nx_getI rfl rfl rfl (by decide) ?_
  refine nx_ld rfl rfl rfl rfl ?_
  refine nx_getFix rfl rfl rfl (by decide) (by rw [hW]; rfl) rfl ?_
  show nX _ _ _ _ _ _ 101 _ _ _ _ _
  refine nx_ld rfl rfl rfl rfl ?_
  refine nx_iald (p := (3308, 0)) rfl rfl (Nat.le_of_ble_eq_true rfl) (Nat.le_of_ble_eq_true rfl) rfl H (fun H => ?_)
  refine nx_int (x := 4) rfl rfl ?_
  refine nx_icmp rfl rfl (by rfl) H (fun H => ?_) (fun H => ?_)
  · refine nx_int (x := 0) rfl rfl ?_
    exact TB_X13_findSquad_112 hW   hk17 _ _ _ _ _ _ H
  refine nx_int (x := 1) rfl rfl ?_
  refine nx_goto rfl rfl ?_
  exact TB_X13_findSquad_112 hW   hk17 _ _ _ _ _ _ H
def B_X13_findSquad_54 (k17 : TS → Int32 → Int32 → Int32 → Option TS) (t : TS) (v1 : Int32) (v2 : Int32) (v3 : Int32) : Option TS := (nxt (uI t 1350 0 ((tI t 1350 0) + 1)) (fun t21 => (gd v1 (tL t21 3309 0) (ob2 (F_X13_isHomeGrown t21 v3 (tA t21 3309 0 v1.toNatClampNeg)) (fun x23 t24 => (if x23 = 0 then (B_X13_findSquad_88 k17 t24 v1 v2 v3 0 (tI t21 1351 0)) else (B_X13_findSquad_88 k17 t24 v1 v2 v3 1 (tI t21 1351 0))))))))
theorem TB_X13_findSquad_54 {W : NW} {d : Nat} {Q : Option NV → TS → Prop} {a0 : Nat → Nat → Nat} {e0 : Nat → Nat → Bool} {k17 : TS → Int32 → Int32 → Int32 → Option TS} {bc bs : Nat} (hW : W.2.2.2 = mm_fx) (hk17 : ∀ (t : TS) (v1 : Int32) (v2 : Int32) (v3 : Int32), wp (k17 t v1 v2 v3) (fun r => Q none r) → nX W (d + 4) tX13_findSquad Q a0 e0 17 [some (eR (some (13, 0))), some (eI v1), some (eI v2), some (eI v3)] [] t bc bs) : ∀ (t : TS) (v1 : Int32) (v2 : Int32) (v3 : Int32), wp (B_X13_findSquad_54 k17 t v1 v2 v3) (fun r => Q none r) → nX W (d + 4) tX13_findSquad Q a0 e0 54 [some (eR (some (13, 0))), some (eI v1), some (eI v2), some (eI v3)] [] t bc bs := by
  intro t v1 v2 v3 H
  unfold B_X13_findSquad_54 at H
  refine nx_ld rfl rfl rfl rfl ?_
  refine nx_dup rfl rfl (Nat.ne_of_beq_eq_false rfl) ?_
  refine nx_getI rfl rfl rfl (by decide) ?_
  refine nx_int (x := 1) rfl rfl ?_
  refine nx_ii rfl rfl ?_
  refine nx_putI rfl rfl rfl (by decide) H (fun t21 H => ?_)
  refine nx_ld rfl rfl rfl rfl ?_
  show nX _ _ _ _ _ _ 65 _ _ _ _ _
  refine nx_dup rfl rfl (Nat.ne_of_beq_eq_false rfl) ?_
  refine nx_getI rfl rfl rfl (by decide) ?_
  refine nx_ld rfl rfl rfl rfl ?_
  refine nx_ld rfl rfl rfl rfl ?_
  refine nx_ld rfl rfl rfl rfl ?_
  refine nx_getFix rfl rfl rfl (by decide) (by rw [hW]; rfl) rfl ?_
  refine nx_ld rfl rfl rfl rfl ?_
  refine nx_iald (p := (3309, 0)) rfl rfl (Nat.le_of_ble_eq_true rfl) (Nat.le_of_ble_eq_true rfl) rfl H (fun H => ?_)
  show nX _ _ _ _ _ _ 77 _ _ _ _ _
  refine nx_cVI2 (as := [eI v3, eI (tA t21 3309 0 v1.toNatClampNeg)]) (st' := [eI (tI t21 1351 0), eR (some (13, 0))]) rfl rfl (Nat.le_of_ble_eq_true rfl) rfl rfl (Nat.le_of_ble_eq_true rfl) (c0 := 13) rfl (by decide) H (fun Q H => TF_X13_isHomeGrown hW  H) (fun x23 t24 H => ?_)
  refine nx_if rfl rfl (by rfl) H (fun H => ?_) (fun H => ?_)
  · refine nx_int (x := 0) rfl rfl ?_
    exact TB_X13_findSquad_88 hW   hk17 _ _ _ _ _ _ H
  refine nx_int (x := 1) rfl rfl ?_
  refine nx_goto rfl rfl ?_
  exact TB_X13_findSquad_88 hW   hk17 _ _ _ _ _ _ H
def BB_X13_findSquad_17 (k17 : TS → Int32 → Int32 → Int32 → Option TS) (t : TS) (v1 : Int32) (v2 : Int32) (v3 : Int32) : Option TS := (if (tI t 1307 0) ≤ v3 then (some t) else (Option.bind (F_X13_isPlayer t v3) (fun r21 => (if r21 = 0 then (B_X13_findSquad_116 k17 t v1 v2 v3) else (if v3 = v2 then (B_X13_findSquad_54 k17 t v1 v2 v3) else (Option.bind (F_X13_holderOn t v3 (tI t 1301 0)) (fun r22 => (if r22 = v1 then (B_X13_findSquad_54 k17 t v1 v2 v3) else (B_X13_findSquad_116 k17 t v1 v2 v3)))))))))
theorem TBB_X13_findSquad_17 {W : NW} {d : Nat} {Q : Option NV → TS → Prop} {a0 : Nat → Nat → Nat} {e0 : Nat → Nat → Bool} {k17 : TS → Int32 → Int32 → Int32 → Option TS} {bc bs : Nat} (hW : W.2.2.2 = mm_fx) (hk17 : ∀ (t : TS) (v1 : Int32) (v2 : Int32) (v3 : Int32), wp (k17 t v1 v2 v3) (fun r => Q none r) → nX W (d + 4) tX13_findSquad Q a0 e0 17 [some (eR (some (13, 0))), some (eI v1), some (eI v2), some (eI v3)] [] t bc bs) : ∀ (t : TS) (v1 : Int32) (v2 : Int32) (v3 : Int32), wp (BB_X13_findSquad_17 k17 t v1 v2 v3) (fun r => Q none r) → nX W (d + 4) tX13_findSquad Q a0 e0 17 [some (eR (some (13, 0))), some (eI v1), some (eI v2), some (eI v3)] [] t bc bs := by
  intro t v1 v2 v3 H
  unfold BB_X13_findSquad_17 at H
  refine nx_ld rfl rfl rfl rfl ?_
  refine nx_ld rfl rfl rfl rfl ?_
  refine nx_getI rfl rfl rfl (by decide) ?_
  refine nx_icmp rfl rfl (by rfl) H (fun H => ?_) (fun H => ?_)
  · exact nx_rv rfl rfl H
  refine nx_ld rfl rfl rfl rfl ?_
  refine nx_ld rfl rfl rfl rfl ?_
  refine nx_cVI (as := [eI v3]) (st' := []) rfl rfl (Nat.le_of_ble_eq_true rfl) rfl rfl (Nat.le_of_ble_eq_true rfl) (c0 := 13) rfl (by decide) H (fun Q H => TF_X13_isPlayer hW  H) (fun r21 H => ?_)
  refine nx_if rfl rfl (by rfl) H (fun H => ?_) (fun H => ?_)
  · exact TB_X13_findSquad_116 hW   hk17 _ _ _ _ H
  refine nx_ld rfl rfl rfl rfl ?_
  refine nx_ld rfl rfl rfl rfl ?_
  refine nx_icmp rfl rfl (by rfl) H (fun H => ?_) (fun H => ?_)
  · exact TB_X13_findSquad_54 hW   hk17 _ _ _ _ H
  refine nx_ld rfl rfl rfl rfl ?_
  refine nx_ld rfl rfl rfl rfl ?_
  refine nx_ld rfl rfl rfl rfl ?_
  refine nx_getI rfl rfl rfl (by decide) ?_
  refine nx_cVI (as := [eI v3, eI (tI t 1301 0)]) (st' := []) rfl rfl (Nat.le_of_ble_eq_true rfl) rfl rfl (Nat.le_of_ble_eq_true rfl) (c0 := 13) rfl (by decide) H (fun Q H => TF_X13_holderOn hW  H) (fun r22 H => ?_)
  refine nx_ld rfl rfl rfl rfl ?_
  refine nx_icmp rfl rfl (by rfl) H (fun H => ?_) (fun H => ?_)
  · exact TB_X13_findSquad_54 hW   hk17 _ _ _ _ H
  refine nx_goto rfl rfl ?_
  exact TB_X13_findSquad_116 hW   hk17 _ _ _ _ H
def B_X13_findSquad_17 : Nat → TS → Int32 → Int32 → Int32 → Option TS
  | 0 => fun _ _ _ _ => none
  | n + 1 => fun t v1 v2 v3 => BB_X13_findSquad_17 (B_X13_findSquad_17 n) t v1 v2 v3
theorem TB_X13_findSquad_17 {W : NW} {d : Nat} {Q : Option NV → TS → Prop} {a0 : Nat → Nat → Nat} {e0 : Nat → Nat → Bool} {bc bs : Nat} (hW : W.2.2.2 = mm_fx) : ∀ (n : Nat) (t : TS) (v1 : Int32) (v2 : Int32) (v3 : Int32), wp (B_X13_findSquad_17 n t v1 v2 v3) (fun r => Q none r) → nX W (d + 4) tX13_findSquad Q a0 e0 17 [some (eR (some (13, 0))), some (eI v1), some (eI v2), some (eI v3)] [] t bc bs := by
  intro n
  induction n with
  | zero => intro t v1 v2 v3 H; exact (wp_none H).elim
  | succ n ih =>
    intro t v1 v2 v3 H
    exact TBB_X13_findSquad_17 hW    ih t v1 v2 v3 H
def F_X13_findSquad (t : TS) (x1 : Int32) (x2 : Int32) : Option TS := (nxt (uI t 1350 0 0) (fun t21 => (nxt (uI t21 1351 0 0) (fun t22 => (nxt (uI t22 1352 0 0) (fun t23 => (B_X13_findSquad_17  10000 t23 x1 x2 0)))))))
theorem TF_X13_findSquad {W : NW} {d : Nat} {t : TS} {x1 : Int32} {x2 : Int32} {Q : Option NV → TS → Prop} {bc bs : Nat} (hW : W.2.2.2 = mm_fx) (H : wp (F_X13_findSquad t x1 x2) (fun r => Q none r)) : nC W (d + 5) 207 [eR (some (13, 0)), eI x1, eI x2] t bc bs Q := by
  refine nC_in (d := (d + 4)) (T := tX13_findSquad) (ls := [some (eR (some (13, 0))), some (eI x1), some (eI x2), none]) rfl (Nat.le_of_ble_eq_true rfl) rfl (fun a0 e0 => ?_)
  unfold F_X13_findSquad at H
  refine nx_ld rfl rfl rfl rfl ?_
  refine nx_int (x := 0) rfl rfl ?_
  refine nx_putI rfl rfl rfl (by decide) H (fun t21 H => ?_)
  refine nx_ld rfl rfl rfl rfl ?_
  refine nx_int (x := 0) rfl rfl ?_
  refine nx_putI rfl rfl rfl (by decide) H (fun t22 H => ?_)
  refine nx_ld rfl rfl rfl rfl ?_
  show nX _ _ _ _ _ _ 11 _ _ _ _ _
  refine nx_int (x := 0) rfl rfl ?_
  refine nx_putI rfl rfl rfl (by decide) H (fun t23 H => ?_)
  refine nx_int (x := 0) rfl rfl ?_
  refine nx_st (ls' := [some (eR (some (13, 0))), some (eI x1), some (eI x2), some (eI 0)]) rfl rfl rfl (Nat.le_of_ble_eq_true rfl) rfl ?_
  exact TB_X13_findSquad_17 hW    10000 _ _ _ _ H
def B_X13_wagesOf_50 (k4 : TS → Int32 → Int32 → Int32 → Option Int32) (t : TS) (v1 : Int32) (v2 : Int32) (v3 : Int32) : Option Int32 := (k4 t v1 v2 (v3 + 1))
theorem TB_X13_wagesOf_50 {W : NW} {d : Nat} {Q : Option NV → TS → Prop} {a0 : Nat → Nat → Nat} {e0 : Nat → Nat → Bool} {t : TS} {k4 : TS → Int32 → Int32 → Int32 → Option Int32} {bc bs : Nat} (hW : W.2.2.2 = mm_fx) (hk4 : ∀ (v1 : Int32) (v2 : Int32) (v3 : Int32), wp (k4 t v1 v2 v3) (fun r => Q (some (eI r)) t) → nX W (d + 3) tX13_wagesOf Q a0 e0 4 [some (eR (some (13, 0))), some (eI v1), some (eI v2), some (eI v3)] [] t bc bs) : ∀ (v1 : Int32) (v2 : Int32) (v3 : Int32), wp (B_X13_wagesOf_50 k4 t v1 v2 v3) (fun r => Q (some (eI r)) t) → nX W (d + 3) tX13_wagesOf Q a0 e0 50 [some (eR (some (13, 0))), some (eI v1), some (eI v2), some (eI v3)] [] t bc bs := by
  intro v1 v2 v3 H
  unfold B_X13_wagesOf_50 at H
  refine nx_iinc2 1 (ls' := [some (eR (some (13, 0))), some (eI v1), some (eI v2), some (eI (v3 + 1))]) rfl rfl rfl rfl rfl ?_
  refine nx_goto rfl rfl ?_
  exact hk4 _ _ _ H
def BB_X13_wagesOf_4 (k4 : TS → Int32 → Int32 → Int32 → Option Int32) (t : TS) (v1 : Int32) (v2 : Int32) (v3 : Int32) : Option Int32 := (if (tI t 1307 0) ≤ v3 then (some (v2)) else (Option.bind (F_X13_isPlayer t v3) (fun r21 => (if r21 = 0 then (B_X13_wagesOf_50 k4 t v1 v2 v3) else (Option.bind (F_X13_ownerOn t v3 (tI t 1301 0)) (fun r22 => (if ¬ r22 = v1 then (B_X13_wagesOf_50 k4 t v1 v2 v3) else (Option.bind (F_X13_ownSpan t v3 (tI t 1301 0)) (fun r23 => (gd r23 (tL t 3323 0) (B_X13_wagesOf_50 k4 t v1 (v2 + (tA t 3323 0 r23.toNatClampNeg)) v3)))))))))))
theorem TBB_X13_wagesOf_4 {W : NW} {d : Nat} {Q : Option NV → TS → Prop} {a0 : Nat → Nat → Nat} {e0 : Nat → Nat → Bool} {t : TS} {k4 : TS → Int32 → Int32 → Int32 → Option Int32} {bc bs : Nat} (hW : W.2.2.2 = mm_fx) (hk4 : ∀ (v1 : Int32) (v2 : Int32) (v3 : Int32), wp (k4 t v1 v2 v3) (fun r => Q (some (eI r)) t) → nX W (d + 3) tX13_wagesOf Q a0 e0 4 [some (eR (some (13, 0))), some (eI v1), some (eI v2), some (eI v3)] [] t bc bs) : ∀ (v1 : Int32) (v2 : Int32) (v3 : Int32), wp (BB_X13_wagesOf_4 k4 t v1 v2 v3) (fun r => Q (some (eI r)) t) → nX W (d + 3) tX13_wagesOf Q a0 e0 4 [some (eR (some (13, 0))), some (eI v1), some (eI v2), some (eI v3)] [] t bc bs := by
  intro v1 v2 v3 H
  unfold BB_X13_wagesOf_4 at H
  refine nx_ld rfl rfl rfl rfl ?_
  refine nx_ld rfl rfl rfl rfl ?_
  refine nx_getI rfl rfl rfl (by decide) ?_
  refine nx_icmp rfl rfl (by rfl) H (fun H => ?_) (fun H => ?_)
  · refine nx_ld rfl rfl rfl rfl ?_
    exact nx_ri rfl rfl H
  refine nx_ld rfl rfl rfl rfl ?_
  refine nx_ld rfl rfl rfl rfl ?_
  refine nx_cVI (as := [eI v3]) (st' := []) rfl rfl (Nat.le_of_ble_eq_true rfl) rfl rfl (Nat.le_of_ble_eq_true rfl) (c0 := 13) rfl (by decide) H (fun Q H => TF_X13_isPlayer hW  H) (fun r21 H => ?_)
  refine nx_if rfl rfl (by rfl) H (fun H => ?_) (fun H => ?_)
  · exact TB_X13_wagesOf_50 hW   hk4 _ _ _ H
  refine nx_ld rfl rfl rfl rfl ?_
  refine nx_ld rfl rfl rfl rfl ?_
  refine nx_ld rfl rfl rfl rfl ?_
  refine nx_getI rfl rfl rfl (by decide) ?_
  refine nx_cVI (as := [eI v3, eI (tI t 1301 0)]) (st' := []) rfl rfl (Nat.le_of_ble_eq_true rfl) rfl rfl (Nat.le_of_ble_eq_true rfl) (c0 := 13) rfl (by decide) H (fun Q H => TF_X13_ownerOn hW  H) (fun r22 H => ?_)
  refine nx_ld rfl rfl rfl rfl ?_
  refine nx_icmp rfl rfl (by rfl) H (fun H => ?_) (fun H => ?_)
  · exact TB_X13_wagesOf_50 hW   hk4 _ _ _ H
  refine nx_ld rfl rfl rfl rfl ?_
  refine nx_ld rfl rfl rfl rfl ?_
  refine nx_getFix rfl rfl rfl (by decide) (by rw [hW]; rfl) rfl ?_
  refine nx_ld rfl rfl rfl rfl ?_
  refine nx_ld rfl rfl rfl rfl ?_
  refine nx_ld rfl rfl rfl rfl ?_
  refine nx_getI rfl rfl rfl (by decide) ?_
  show nX _ _ _ _ _ _ 44 _ _ _ _ _
  refine nx_cVI (as := [eI v3, eI (tI t 1301 0)]) (st' := [eR (some (3323, 0)), eI v2]) rfl rfl (Nat.le_of_ble_eq_true rfl) rfl rfl (Nat.le_of_ble_eq_true rfl) (c0 := 13) rfl (by decide) H (fun Q H => TF_X13_ownSpan hW  H) (fun r23 H => ?_)
  refine nx_iald (p := (3323, 0)) rfl rfl (Nat.le_of_ble_eq_true rfl) (Nat.le_of_ble_eq_true rfl) rfl H (fun H => ?_)
  refine nx_ii rfl rfl ?_
  refine nx_st (ls' := [some (eR (some (13, 0))), some (eI v1), some (eI (v2 + (tA t 3323 0 r23.toNatClampNeg))), some (eI v3)]) rfl rfl rfl (Nat.le_of_ble_eq_true rfl) rfl ?_
  exact TB_X13_wagesOf_50 hW   hk4 _ _ _ H
def B_X13_wagesOf_4 : Nat → TS → Int32 → Int32 → Int32 → Option Int32
  | 0 => fun _ _ _ _ => none
  | n + 1 => fun t v1 v2 v3 => BB_X13_wagesOf_4 (B_X13_wagesOf_4 n) t v1 v2 v3
theorem TB_X13_wagesOf_4 {W : NW} {d : Nat} {Q : Option NV → TS → Prop} {a0 : Nat → Nat → Nat} {e0 : Nat → Nat → Bool} {t : TS} {bc bs : Nat} (hW : W.2.2.2 = mm_fx) : ∀ (n : Nat) (v1 : Int32) (v2 : Int32) (v3 : Int32), wp (B_X13_wagesOf_4 n t v1 v2 v3) (fun r => Q (some (eI r)) t) → nX W (d + 3) tX13_wagesOf Q a0 e0 4 [some (eR (some (13, 0))), some (eI v1), some (eI v2), some (eI v3)] [] t bc bs := by
  intro n
  induction n with
  | zero => intro v1 v2 v3 H; exact (wp_none H).elim
  | succ n ih =>
    intro v1 v2 v3 H
    exact TBB_X13_wagesOf_4 hW    ih v1 v2 v3 H
def F_X13_wagesOf (t : TS) (x1 : Int32) : Option Int32 := (B_X13_wagesOf_4  10000 t x1 0 0)
theorem TF_X13_wagesOf {W : NW} {d : Nat} {t : TS} {x1 : Int32} {Q : Option NV → TS → Prop} {bc bs : Nat} (hW : W.2.2.2 = mm_fx) (H : wp (F_X13_wagesOf t x1) (fun r => Q (some (eI r)) t)) : nC W (d + 4) 208 [eR (some (13, 0)), eI x1] t bc bs Q := by
  refine nC_in (d := (d + 3)) (T := tX13_wagesOf) (ls := [some (eR (some (13, 0))), some (eI x1), none, none]) rfl (Nat.le_of_ble_eq_true rfl) rfl (fun a0 e0 => ?_)
  unfold F_X13_wagesOf at H
  refine nx_int (x := 0) rfl rfl ?_
  refine nx_st (ls' := [some (eR (some (13, 0))), some (eI x1), some (eI 0), none]) rfl rfl rfl (Nat.le_of_ble_eq_true rfl) rfl ?_
  refine nx_int (x := 0) rfl rfl ?_
  refine nx_st (ls' := [some (eR (some (13, 0))), some (eI x1), some (eI 0), some (eI 0)]) rfl rfl rfl (Nat.le_of_ble_eq_true rfl) rfl ?_
  exact TB_X13_wagesOf_4 hW    10000 _ _ _ H
def B_X13_capOf_128 (k9 : TS → Int32 → Int32 → Int32 → Int32 → Option Int32) (t : TS) (v1 : Int32) (v2 : Int32) (v3 : Int32) (v4 : Int32) : Option Int32 := (k9 t v1 v2 v3 (v4 + 1))
theorem TB_X13_capOf_128 {W : NW} {d : Nat} {Q : Option NV → TS → Prop} {a0 : Nat → Nat → Nat} {e0 : Nat → Nat → Bool} {t : TS} {k9 : TS → Int32 → Int32 → Int32 → Int32 → Option Int32} {bc bs : Nat} (hW : W.2.2.2 = mm_fx) (hk9 : ∀ (v1 : Int32) (v2 : Int32) (v3 : Int32) (v4 : Int32) (v5 : Option NV), wp (k9 t v1 v2 v3 v4) (fun r => Q (some (eI r)) t) → nX W (d + 4) tX13_capOf Q a0 e0 9 [some (eR (some (13, 0))), some (eI v1), some (eI v2), some (eI v3), some (eI v4), v5] [] t bc bs) : ∀ (v1 : Int32) (v2 : Int32) (v3 : Int32) (v4 : Int32) (v5 : Int32), wp (B_X13_capOf_128 k9 t v1 v2 v3 v4) (fun r => Q (some (eI r)) t) → nX W (d + 4) tX13_capOf Q a0 e0 128 [some (eR (some (13, 0))), some (eI v1), some (eI v2), some (eI v3), some (eI v4), some (eI v5)] [] t bc bs := by
  intro v1 v2 v3 v4 v5 H
  unfold B_X13_capOf_128 at H
  refine nx_iinc2 1 (ls' := [some (eR (some (13, 0))), some (eI v1), some (eI v2), some (eI v3), some (eI (v4 + 1)), some (eI v5)]) rfl rfl rfl rfl rfl ?_
  refine nx_goto rfl rfl ?_
  exact hk9 _ _ _ _ _ H
def B_X13_capOf_125 (k9 : TS → Int32 → Int32 → Int32 → Int32 → Option Int32) (t : TS) (v1 : Int32) (v2 : Int32) (v4 : Int32) (s0 : Int32) (s1 : Int32) (s2 : Int32) : Option Int32 := (B_X13_capOf_128 k9 t v1 v2 (s2 + (s1 + s0)) v4)
theorem TB_X13_capOf_125 {W : NW} {d : Nat} {Q : Option NV → TS → Prop} {a0 : Nat → Nat → Nat} {e0 : Nat → Nat → Bool} {t : TS} {k9 : TS → Int32 → Int32 → Int32 → Int32 → Option Int32} {bc bs : Nat} (hW : W.2.2.2 = mm_fx) (hk9 : ∀ (v1 : Int32) (v2 : Int32) (v3 : Int32) (v4 : Int32) (v5 : Option NV), wp (k9 t v1 v2 v3 v4) (fun r => Q (some (eI r)) t) → nX W (d + 4) tX13_capOf Q a0 e0 9 [some (eR (some (13, 0))), some (eI v1), some (eI v2), some (eI v3), some (eI v4), v5] [] t bc bs) : ∀ (v1 : Int32) (v2 : Int32) (v3 : Int32) (v4 : Int32) (v5 : Int32) (s0 : Int32) (s1 : Int32) (s2 : Int32), wp (B_X13_capOf_125 k9 t v1 v2 v4 s0 s1 s2) (fun r => Q (some (eI r)) t) → nX W (d + 4) tX13_capOf Q a0 e0 125 [some (eR (some (13, 0))), some (eI v1), some (eI v2), some (eI v3), some (eI v4), some (eI v5)] [eI s0, eI s1, eI s2] t bc bs := by
  intro v1 v2 v3 v4 v5 s0 s1 s2 H
  unfold B_X13_capOf_125 at H
  refine nx_ii rfl rfl ?_
  refine nx_ii rfl rfl ?_
  refine nx_st (ls' := [some (eR (some (13, 0))), some (eI v1), some (eI v2), some (eI (s2 + (s1 + s0))), some (eI v4), some (eI v5)]) rfl rfl rfl (Nat.le_of_ble_eq_true rfl) rfl ?_
  exact TB_X13_capOf_128 hW   hk9 _ _ _ _ _ H
def BB_X13_capOf_9 (k9 : TS → Int32 → Int32 → Int32 → Int32 → Option Int32) (t : TS) (v1 : Int32) (v2 : Int32) (v3 : Int32) (v4 : Int32) : Option Int32 := (if (tI t 1327 0) ≤ v4 then (some (v3)) else (gd v4 (tL t 3332 0) (gd v4 (tL t 3333 0) (if ¬ (tA t 3333 0 v4.toNatClampNeg) = 0 then (B_X13_capOf_128 k9 t v1 v2 v3 v4) else (gd v4 (tL t 3334 0) (if ¬ (tA t 3334 0 v4.toNatClampNeg) = 0 then (B_X13_capOf_128 k9 t v1 v2 v3 v4) else (gd v4 (tL t 3330 0) (if ¬ (tA t 3330 0 v4.toNatClampNeg) = v1 then (B_X13_capOf_128 k9 t v1 v2 v3 v4) else (gd v4 (tL t 3335 0) (Option.bind (F_X13_in t (v2 - ((tA t 3332 0 v4.toNatClampNeg) / 300)) 0 ((tA t 3335 0 v4.toNatClampNeg) - 1)) (fun r21 => (if ¬ r21 = 0 then (gd v4 (tL t 3331 0) (gd v4 (tL t 3335 0) (gz (tA t 3335 0 v4.toNatClampNeg) (if ¬ (v2 - ((tA t 3332 0 v4.toNatClampNeg) / 300)) = 0 then (B_X13_capOf_125 k9 t v1 v2 v4 0 ((tA t 3331 0 v4.toNatClampNeg) / (tA t 3335 0 v4.toNatClampNeg)) v3) else (gd v4 (tL t 3331 0) (gd v4 (tL t 3335 0) (gz (tA t 3335 0 v4.toNatClampNeg) (B_X13_capOf_125 k9 t v1 v2 v4 (irm (tA t 3331 0 v4.toNatClampNeg) (tA t 3335 0 v4.toNatClampNeg)) ((tA t 3331 0 v4.toNatClampNeg) / (tA t 3335 0 v4.toNatClampNeg)) v3)))))))) else (B_X13_capOf_128 k9 t v1 v2 v3 v4)))))))))))))
theorem TBB_X13_capOf_9 {W : NW} {d : Nat} {Q : Option NV → TS → Prop} {a0 : Nat → Nat → Nat} {e0 : Nat → Nat → Bool} {t : TS} {k9 : TS → Int32 → Int32 → Int32 → Int32 → Option Int32} {bc bs : Nat} (hW : W.2.2.2 = mm_fx) (hk9 : ∀ (v1 : Int32) (v2 : Int32) (v3 : Int32) (v4 : Int32) (v5 : Option NV), wp (k9 t v1 v2 v3 v4) (fun r => Q (some (eI r)) t) → nX W (d + 4) tX13_capOf Q a0 e0 9 [some (eR (some (13, 0))), some (eI v1), some (eI v2), some (eI v3), some (eI v4), v5] [] t bc bs) : ∀ (v1 : Int32) (v2 : Int32) (v3 : Int32) (v4 : Int32) (v5 : Option NV), wp (BB_X13_capOf_9 k9 t v1 v2 v3 v4) (fun r => Q (some (eI r)) t) → nX W (d + 4) tX13_capOf Q a0 e0 9 [some (eR (some (13, 0))), some (eI v1), some (eI v2), some (eI v3), some (eI v4), v5] [] t bc bs := by
  intro v1 v2 v3 v4 v5 H
  unfold BB_X13_capOf_9 at H
  refine nx_ld rfl rfl rfl rfl ?_
  refine nx_ld rfl rfl rfl rfl ?_
  refine nx_getI rfl rfl rfl (by decide) ?_
  refine nx_icmp rfl rfl (by rfl) H (fun H => ?_) (fun H => ?_)
  · refine nx_ld rfl rfl rfl rfl ?_
    exact nx_ri rfl rfl H
  refine nx_ld rfl rfl rfl rfl ?_
  refine nx_ld rfl rfl rfl rfl ?_
  refine nx_getFix rfl rfl rfl (by decide) (by rw [hW]; rfl) rfl ?_
  refine nx_ld rfl rfl rfl rfl ?_
  refine nx_iald (p := (3332, 0)) rfl rfl (Nat.le_of_ble_eq_true rfl) (Nat.le_of_ble_eq_true rfl) rfl H (fun H => ?_)
  refine nx_int (x := 300) rfl rfl ?_
  refine nx_idivL rfl rfl (by decide) ?_
  show nX _ _ _ _ _ _ 30 _ _ _ _ _
  refine nx_ii rfl rfl ?_
  refine nx_st (ls' := [some (eR (some (13, 0))), some (eI v1), some (eI v2), some (eI v3), some (eI v4), some (eI (v2 - ((tA t 3332 0 v4.toNatClampNeg) / 300)))]) rfl rfl rfl (Nat.le_of_ble_eq_true rfl) rfl ?_
  refine nx_ld rfl rfl rfl rfl ?_
  refine nx_getFix rfl rfl rfl (by decide) (by rw [hW]; rfl) rfl ?_
  refine nx_ld rfl rfl rfl rfl ?_
  refine nx_bald (c := 3333) (i := 0) rfl rfl (Nat.le_of_ble_eq_true rfl) (Nat.le_of_ble_eq_true rfl) (Or.inr rfl) H (fun H => ?_)
  refine nx_if rfl rfl (by rfl) H (fun H => ?_) (fun H => ?_)
  · exact TB_X13_capOf_128 hW   hk9 _ _ _ _ _ H
  refine nx_ld rfl rfl rfl rfl ?_
  refine nx_getFix rfl rfl rfl (by decide) (by rw [hW]; rfl) rfl ?_
  refine nx_ld rfl rfl rfl rfl ?_
  refine nx_bald (c := 3334) (i := 0) rfl rfl (Nat.le_of_ble_eq_true rfl) (Nat.le_of_ble_eq_true rfl) (Or.inr rfl) H (fun H => ?_)
  refine nx_if rfl rfl (by rfl) H (fun H => ?_) (fun H => ?_)
  · exact TB_X13_capOf_128 hW   hk9 _ _ _ _ _ H
  refine nx_ld rfl rfl rfl rfl ?_
  refine nx_getFix rfl rfl rfl (by decide) (by rw [hW]; rfl) rfl ?_
  refine nx_ld rfl rfl rfl rfl ?_
  refine nx_iald (p := (3330, 0)) rfl rfl (Nat.le_of_ble_eq_true rfl) (Nat.le_of_ble_eq_true rfl) rfl H (fun H => ?_)
  refine nx_ld rfl rfl rfl rfl ?_
  refine nx_icmp rfl rfl (by rfl) H (fun H => ?_) (fun H => ?_)
  · exact TB_X13_capOf_128 hW   hk9 _ _ _ _ _ H
  refine nx_ld rfl rfl rfl rfl ?_
  refine nx_int (x := 0) rfl rfl ?_
  refine nx_ld rfl rfl rfl rfl ?_
  refine nx_getFix rfl rfl rfl (by decide) (by rw [hW]; rfl) rfl ?_
  refine nx_ld rfl rfl rfl rfl ?_
  refine nx_iald (p := (3335, 0)) rfl rfl (Nat.le_of_ble_eq_true rfl) (Nat.le_of_ble_eq_true rfl) rfl H (fun H => ?_)
  refine nx_int (x := 1) rfl rfl ?_
  show nX _ _ _ _ _ _ 75 _ _ _ _ _
  refine nx_ii rfl rfl ?_
  refine nx_cSI (as := [eI (v2 - ((tA t 3332 0 v4.toNatClampNeg) / 300)), eI 0, eI ((tA t 3335 0 v4.toNatClampNeg) - 1)]) (st' := []) rfl rfl (Nat.le_of_ble_eq_true rfl) rfl rfl (Nat.le_of_ble_eq_true rfl) H (fun Q H => TF_X13_in hW  H) (fun r21 H => ?_)
  refine nx_if rfl rfl (by rfl) H (fun H => ?_) (fun H => ?_)
  · refine nx_ld rfl rfl rfl rfl ?_
    refine nx_ld rfl rfl rfl rfl ?_
    refine nx_getFix rfl rfl rfl (by decide) (by rw [hW]; rfl) rfl ?_
    refine nx_ld rfl rfl rfl rfl ?_
    refine nx_iald (p := (3331, 0)) rfl rfl (Nat.le_of_ble_eq_true rfl) (Nat.le_of_ble_eq_true rfl) rfl H (fun H => ?_)
    refine nx_ld rfl rfl rfl rfl ?_
    refine nx_getFix rfl rfl rfl (by decide) (by rw [hW]; rfl) rfl ?_
    show nX _ _ _ _ _ _ 97 _ _ _ _ _
    refine nx_ld rfl rfl rfl rfl ?_
    refine nx_iald (p := (3335, 0)) rfl rfl (Nat.le_of_ble_eq_true rfl) (Nat.le_of_ble_eq_true rfl) rfl H (fun H => ?_)
    refine nx_idiv rfl rfl H (fun H => ?_)
    refine nx_ld rfl rfl rfl rfl ?_
    refine nx_if rfl rfl (by rfl) H (fun H => ?_) (fun H => ?_)
    · refine nx_int (x := 0) rfl rfl ?_
      exact TB_X13_capOf_125 hW   hk9 _ _ _ _ _ _ _ _ H
    refine nx_ld rfl rfl rfl rfl ?_
    refine nx_getFix rfl rfl rfl (by decide) (by rw [hW]; rfl) rfl ?_
    refine nx_ld rfl rfl rfl rfl ?_
    refine nx_iald (p := (3331, 0)) rfl rfl (Nat.le_of_ble_eq_true rfl) (Nat.le_of_ble_eq_true rfl) rfl H (fun H => ?_)
    refine nx_ld rfl rfl rfl rfl ?_
    refine nx_getFix rfl rfl rfl (by decide) (by rw [hW]; rfl) rfl ?_
    refine nx_ld rfl rfl rfl rfl ?_
    show nX _ _ _ _ _ _ 119 _ _ _ _ _
    refine nx_iald (p := (3335, 0)) rfl rfl (Nat.le_of_ble_eq_true rfl) (Nat.le_of_ble_eq_true rfl) rfl H (fun H => ?_)
    refine nx_idiv rfl rfl H (fun H => ?_)
    refine nx_goto rfl rfl ?_
    exact TB_X13_capOf_125 hW   hk9 _ _ _ _ _ _ _ _ H
  refine nx_goto rfl rfl ?_
  exact TB_X13_capOf_128 hW   hk9 _ _ _ _ _ H
def B_X13_capOf_9 : Nat → TS → Int32 → Int32 → Int32 → Int32 → Option Int32
  | 0 => fun _ _ _ _ _ => none
  | n + 1 => fun t v1 v2 v3 v4 => BB_X13_capOf_9 (B_X13_capOf_9 n) t v1 v2 v3 v4
theorem TB_X13_capOf_9 {W : NW} {d : Nat} {Q : Option NV → TS → Prop} {a0 : Nat → Nat → Nat} {e0 : Nat → Nat → Bool} {t : TS} {bc bs : Nat} (hW : W.2.2.2 = mm_fx) : ∀ (n : Nat) (v1 : Int32) (v2 : Int32) (v3 : Int32) (v4 : Int32) (v5 : Option NV), wp (B_X13_capOf_9 n t v1 v2 v3 v4) (fun r => Q (some (eI r)) t) → nX W (d + 4) tX13_capOf Q a0 e0 9 [some (eR (some (13, 0))), some (eI v1), some (eI v2), some (eI v3), some (eI v4), v5] [] t bc bs := by
  intro n
  induction n with
  | zero => intro v1 v2 v3 v4 v5 H; exact (wp_none H).elim
  | succ n ih =>
    intro v1 v2 v3 v4 v5 H
    exact TBB_X13_capOf_9 hW    ih v1 v2 v3 v4 v5 H
def F_X13_capOf (t : TS) (x1 : Int32) (x2 : Int32) : Option Int32 := (Option.bind (F_X13_wagesOf t x1) (fun r21 => (B_X13_capOf_9  10000 t x1 x2 r21 0)))
theorem TF_X13_capOf {W : NW} {d : Nat} {t : TS} {x1 : Int32} {x2 : Int32} {Q : Option NV → TS → Prop} {bc bs : Nat} (hW : W.2.2.2 = mm_fx) (H : wp (F_X13_capOf t x1 x2) (fun r => Q (some (eI r)) t)) : nC W (d + 5) 209 [eR (some (13, 0)), eI x1, eI x2] t bc bs Q := by
  refine nC_in (d := (d + 4)) (T := tX13_capOf) (ls := [some (eR (some (13, 0))), some (eI x1), some (eI x2), none, none, none]) rfl (Nat.le_of_ble_eq_true rfl) rfl (fun a0 e0 => ?_)
  unfold F_X13_capOf at H
  refine nx_ld rfl rfl rfl rfl ?_
  refine nx_ld rfl rfl rfl rfl ?_
  refine nx_cVI (as := [eI x1]) (st' := []) rfl rfl (Nat.le_of_ble_eq_true rfl) rfl rfl (Nat.le_of_ble_eq_true rfl) (c0 := 13) rfl (by decide) H (fun Q H => TF_X13_wagesOf hW  H) (fun r21 H => ?_)
  refine nx_st (ls' := [some (eR (some (13, 0))), some (eI x1), some (eI x2), some (eI r21), none, none]) rfl rfl rfl (Nat.le_of_ble_eq_true rfl) rfl ?_
  refine nx_int (x := 0) rfl rfl ?_
  refine nx_st (ls' := [some (eR (some (13, 0))), some (eI x1), some (eI x2), some (eI r21), some (eI 0), none]) rfl rfl rfl (Nat.le_of_ble_eq_true rfl) rfl ?_
  exact TB_X13_capOf_9 hW    10000 _ _ _ _ _ H
def B_X13_threeYears_62 (k28 : TS → Int32 → Int32 → Int32 → Int32 → Int32 → Option Int32) (t : TS) (v1 : Int32) (v2 : Int32) (v4 : Int32) (v5 : Int32) (s0 : Int32) (s1 : Int32) : Option Int32 := (k28 t v1 v2 (s1 + s0) v4 (v5 + 1))
theorem TB_X13_threeYears_62 {W : NW} {d : Nat} {Q : Option NV → TS → Prop} {a0 : Nat → Nat → Nat} {e0 : Nat → Nat → Bool} {t : TS} {k28 : TS → Int32 → Int32 → Int32 → Int32 → Int32 → Option Int32} {bc bs : Nat} (hW : W.2.2.2 = mm_fx) (hk28 : ∀ (v1 : Int32) (v2 : Int32) (v3 : Int32) (v4 : Int32) (v5 : Int32), wp (k28 t v1 v2 v3 v4 v5) (fun r => Q (some (eI r)) t) → nX W (d + 5) tX13_threeYears Q a0 e0 28 [some (eR (some (13, 0))), some (eI v1), some (eI v2), some (eI v3), some (eI v4), some (eI v5)] [] t bc bs) : ∀ (v1 : Int32) (v2 : Int32) (v3 : Int32) (v4 : Int32) (v5 : Int32) (s0 : Int32) (s1 : Int32), wp (B_X13_threeYears_62 k28 t v1 v2 v4 v5 s0 s1) (fun r => Q (some (eI r)) t) → nX W (d + 5) tX13_threeYears Q a0 e0 62 [some (eR (some (13, 0))), some (eI v1), some (eI v2), some (eI v3), some (eI v4), some (eI v5)] [eI s0, eI s1] t bc bs := by
  intro v1 v2 v3 v4 v5 s0 s1 H
  unfold B_X13_threeYears_62 at H
  refine nx_ii rfl rfl ?_
  refine nx_st (ls' := [some (eR (some (13, 0))), some (eI v1), some (eI v2), some (eI (s1 + s0)), some (eI v4), some (eI v5)]) rfl rfl rfl (Nat.le_of_ble_eq_true rfl) rfl ?_
  refine nx_iinc2 1 (ls' := [some (eR (some (13, 0))), some (eI v1), some (eI v2), some (eI (s1 + s0)), some (eI v4), some (eI (v5 + 1))]) rfl rfl rfl rfl rfl ?_
  refine nx_goto rfl rfl ?_
  exact hk28 _ _ _ _ _ H
def BB_X13_threeYears_28 (k28 : TS → Int32 → Int32 → Int32 → Int32 → Int32 → Option Int32) (t : TS) (v1 : Int32) (v2 : Int32) (v3 : Int32) (v4 : Int32) (v5 : Int32) : Option Int32 := (if v4 < v5 then (some (v3)) else (if v2 = 0 then (gd ((10 * v1) + v5) (tL t 3311 0) (B_X13_threeYears_62 k28 t v1 v2 v4 v5 (tA t 3311 0 ((10 * v1) + v5).toNatClampNeg) v3)) else (Option.bind (F_X13_capOf t v1 v5) (fun r21 => (B_X13_threeYears_62 k28 t v1 v2 v4 v5 r21 v3)))))
theorem TBB_X13_threeYears_28 {W : NW} {d : Nat} {Q : Option NV → TS → Prop} {a0 : Nat → Nat → Nat} {e0 : Nat → Nat → Bool} {t : TS} {k28 : TS → Int32 → Int32 → Int32 → Int32 → Int32 → Option Int32} {bc bs : Nat} (hW : W.2.2.2 = mm_fx) (hk28 : ∀ (v1 : Int32) (v2 : Int32) (v3 : Int32) (v4 : Int32) (v5 : Int32), wp (k28 t v1 v2 v3 v4 v5) (fun r => Q (some (eI r)) t) → nX W (d + 5) tX13_threeYears Q a0 e0 28 [some (eR (some (13, 0))), some (eI v1), some (eI v2), some (eI v3), some (eI v4), some (eI v5)] [] t bc bs) : ∀ (v1 : Int32) (v2 : Int32) (v3 : Int32) (v4 : Int32) (v5 : Int32), wp (BB_X13_threeYears_28 k28 t v1 v2 v3 v4 v5) (fun r => Q (some (eI r)) t) → nX W (d + 5) tX13_threeYears Q a0 e0 28 [some (eR (some (13, 0))), some (eI v1), some (eI v2), some (eI v3), some (eI v4), some (eI v5)] [] t bc bs := by
  intro v1 v2 v3 v4 v5 H
  unfold BB_X13_threeYears_28 at H
  refine nx_ld rfl rfl rfl rfl ?_
  refine nx_ld rfl rfl rfl rfl ?_
  refine nx_icmp rfl rfl (by rfl) H (fun H => ?_) (fun H => ?_)
  · refine nx_ld rfl rfl rfl rfl ?_
    exact nx_ri rfl rfl H
  refine nx_ld rfl rfl rfl rfl ?_
  refine nx_ld rfl rfl rfl rfl ?_
  refine nx_if rfl rfl (by rfl) H (fun H => ?_) (fun H => ?_)
  · refine nx_ld rfl rfl rfl rfl ?_
    refine nx_getFix rfl rfl rfl (by decide) (by rw [hW]; rfl) rfl ?_
    refine nx_int (x := 10) rfl rfl ?_
    refine nx_ld rfl rfl rfl rfl ?_
    refine nx_ii rfl rfl ?_
    refine nx_ld rfl rfl rfl rfl ?_
    refine nx_ii rfl rfl ?_
    show nX _ _ _ _ _ _ 61 _ _ _ _ _
    refine nx_iald (p := (3311, 0)) rfl rfl (Nat.le_of_ble_eq_true rfl) (Nat.le_of_ble_eq_true rfl) rfl H (fun H => ?_)
    exact TB_X13_threeYears_62 hW   hk28 _ _ _ _ _ _ _ H
  refine nx_ld rfl rfl rfl rfl ?_
  refine nx_ld rfl rfl rfl rfl ?_
  refine nx_ld rfl rfl rfl rfl ?_
  refine nx_cVI (as := [eI v1, eI v5]) (st' := [eI v3]) rfl rfl (Nat.le_of_ble_eq_true rfl) rfl rfl (Nat.le_of_ble_eq_true rfl) (c0 := 13) rfl (by decide) H (fun Q H => TF_X13_capOf hW  H) (fun r21 H => ?_)
  refine nx_goto rfl rfl ?_
  exact TB_X13_threeYears_62 hW   hk28 _ _ _ _ _ _ _ H
def B_X13_threeYears_28 : Nat → TS → Int32 → Int32 → Int32 → Int32 → Int32 → Option Int32
  | 0 => fun _ _ _ _ _ _ => none
  | n + 1 => fun t v1 v2 v3 v4 v5 => BB_X13_threeYears_28 (B_X13_threeYears_28 n) t v1 v2 v3 v4 v5
theorem TB_X13_threeYears_28 {W : NW} {d : Nat} {Q : Option NV → TS → Prop} {a0 : Nat → Nat → Nat} {e0 : Nat → Nat → Bool} {t : TS} {bc bs : Nat} (hW : W.2.2.2 = mm_fx) : ∀ (n : Nat) (v1 : Int32) (v2 : Int32) (v3 : Int32) (v4 : Int32) (v5 : Int32), wp (B_X13_threeYears_28 n t v1 v2 v3 v4 v5) (fun r => Q (some (eI r)) t) → nX W (d + 5) tX13_threeYears Q a0 e0 28 [some (eR (some (13, 0))), some (eI v1), some (eI v2), some (eI v3), some (eI v4), some (eI v5)] [] t bc bs := by
  intro n
  induction n with
  | zero => intro v1 v2 v3 v4 v5 H; exact (wp_none H).elim
  | succ n ih =>
    intro v1 v2 v3 v4 v5 H
    exact TBB_X13_threeYears_28 hW    ih v1 v2 v3 v4 v5 H
def B_X13_threeYears_26 (t : TS) (v1 : Int32) (v2 : Int32) (v3 : Int32) (v4 : Int32) (s0 : Int32) : Option Int32 := (B_X13_threeYears_28  10000 t v1 v2 v3 v4 s0)
theorem TB_X13_threeYears_26 {W : NW} {d : Nat} {Q : Option NV → TS → Prop} {a0 : Nat → Nat → Nat} {e0 : Nat → Nat → Bool} {t : TS} {bc bs : Nat} (hW : W.2.2.2 = mm_fx) : ∀ (v1 : Int32) (v2 : Int32) (v3 : Int32) (v4 : Int32) (s0 : Int32), wp (B_X13_threeYears_26 t v1 v2 v3 v4 s0) (fun r => Q (some (eI r)) t) → nX W (d + 5) tX13_threeYears Q a0 e0 26 [some (eR (some (13, 0))), some (eI v1), some (eI v2), some (eI v3), some (eI v4), none] [eI s0] t bc bs := by
  intro v1 v2 v3 v4 s0 H
  unfold B_X13_threeYears_26 at H
  refine nx_st (ls' := [some (eR (some (13, 0))), some (eI v1), some (eI v2), some (eI v3), some (eI v4), some (eI s0)]) rfl rfl rfl (Nat.le_of_ble_eq_true rfl) rfl ?_
  exact TB_X13_threeYears_28 hW    10000 _ _ _ _ _ H
def F_X13_threeYears (t : TS) (x1 : Int32) (x2 : Int32) : Option Int32 := (if 2 ≤ ((tI t 1301 0) / 300) then (B_X13_threeYears_26  t x1 x2 0 ((tI t 1301 0) / 300) (((tI t 1301 0) / 300) - 2)) else (B_X13_threeYears_26  t x1 x2 0 ((tI t 1301 0) / 300) 0))
theorem TF_X13_threeYears {W : NW} {d : Nat} {t : TS} {x1 : Int32} {x2 : Int32} {Q : Option NV → TS → Prop} {bc bs : Nat} (hW : W.2.2.2 = mm_fx) (H : wp (F_X13_threeYears t x1 x2) (fun r => Q (some (eI r)) t)) : nC W (d + 6) 210 [eR (some (13, 0)), eI x1, eI x2] t bc bs Q := by
  refine nC_in (d := (d + 5)) (T := tX13_threeYears) (ls := [some (eR (some (13, 0))), some (eI x1), some (eI x2), none, none, none]) rfl (Nat.le_of_ble_eq_true rfl) rfl (fun a0 e0 => ?_)
  unfold F_X13_threeYears at H
  refine nx_int (x := 0) rfl rfl ?_
  refine nx_st (ls' := [some (eR (some (13, 0))), some (eI x1), some (eI x2), some (eI 0), none, none]) rfl rfl rfl (Nat.le_of_ble_eq_true rfl) rfl ?_
  refine nx_ld rfl rfl rfl rfl ?_
  refine nx_getI rfl rfl rfl (by decide) ?_
  refine nx_int (x := 300) rfl rfl ?_
  refine nx_idivL rfl rfl (by decide) ?_
  refine nx_st (ls' := [some (eR (some (13, 0))), some (eI x1), some (eI x2), some (eI 0), some (eI ((tI t 1301 0) / 300)), none]) rfl rfl rfl (Nat.le_of_ble_eq_true rfl) rfl ?_
  show nX _ _ _ _ _ _ 12 _ _ _ _ _
  refine nx_ld rfl rfl rfl rfl ?_
  refine nx_int (x := 2) rfl rfl ?_
  refine nx_icmp rfl rfl (by rfl) H (fun H => ?_) (fun H => ?_)
  · refine nx_ld rfl rfl rfl rfl ?_
    refine nx_int (x := 2) rfl rfl ?_
    refine nx_ii rfl rfl ?_
    exact TB_X13_threeYears_26 hW    _ _ _ _ _ H
  refine nx_int (x := 0) rfl rfl ?_
  refine nx_goto rfl rfl ?_
  exact TB_X13_threeYears_26 hW    _ _ _ _ _ H
def B_X13_both_190 (t : TS) : Option Int32 := (some (1))
theorem TB_X13_both_190 {W : NW} {d : Nat} {Q : Option NV → TS → Prop} {a0 : Nat → Nat → Nat} {e0 : Nat → Nat → Bool} {t : TS} {bc bs : Nat} (hW : W.2.2.2 = mm_fx) : ∀ (v0 : Int32) (v1 : Int32) (v2 : Int32), wp (B_X13_both_190 t) (fun r => Q (some (eI r)) t) → nX W d tX13_both Q a0 e0 190 [some (eI v0), some (eI v1), some (eI v2)] [] t bc bs := by
  intro v0 v1 v2 H
  unfold B_X13_both_190 at H
  refine nx_int (x := 1) rfl rfl ?_
  refine nx_goto rfl rfl ?_
  exact nx_ri rfl rfl H
def B_X13_both_127 (t : TS) : Option Int32 := (some (0))
theorem TB_X13_both_127 {W : NW} {d : Nat} {Q : Option NV → TS → Prop} {a0 : Nat → Nat → Nat} {e0 : Nat → Nat → Bool} {t : TS} {bc bs : Nat} (hW : W.2.2.2 = mm_fx) : ∀ (v0 : Int32) (v1 : Int32) (v2 : Int32), wp (B_X13_both_127 t) (fun r => Q (some (eI r)) t) → nX W d tX13_both Q a0 e0 127 [some (eI v0), some (eI v1), some (eI v2)] [] t bc bs := by
  intro v0 v1 v2 H
  unfold B_X13_both_127 at H
  refine nx_int (x := 0) rfl rfl ?_
  refine nx_goto rfl rfl ?_
  exact nx_ri rfl rfl H
def F_X13_both (t : TS) (x1 : Int32) (x2 : Int32) (x3 : Int32) : Option Int32 := (swl x1 [(4, (if x2 = 0 then (some (0)) else (if x3 = 0 then (some (0)) else (some (1))))), (37, (if x3 = 0 then (B_X13_both_127  t) else (if ¬ x3 = (-1) then (gz x3 (some ((irm x2 x3)))) else (B_X13_both_127  t)))), (42, (some ((x2 * x3)))), (43, (some ((x2 + x3)))), (45, (some ((x2 - x3)))), (47, (if ¬ x3 = 0 then (if ¬ x3 = (-1) then (gz x3 (some ((x2 / x3)))) else (some (((-x2))))) else (some (0)))), (60, (if x3 ≤ x2 then (some (0)) else (some (1)))), (61, (if ¬ x2 = x3 then (some (0)) else (some (1)))), (62, (if x2 ≤ x3 then (some (0)) else (some (1))))] (if ¬ x2 = 0 then (B_X13_both_190  t) else (if x3 = 0 then (some (0)) else (B_X13_both_190  t))))
theorem TF_X13_both {W : NW} {d : Nat} {t : TS} {x1 : Int32} {x2 : Int32} {x3 : Int32} {Q : Option NV → TS → Prop} {bc bs : Nat} (hW : W.2.2.2 = mm_fx) (H : wp (F_X13_both t x1 x2 x3) (fun r => Q (some (eI r)) t)) : nC W (d + 1) 229 [eI x1, eI x2, eI x3] t bc bs Q := by
  refine nC_in (d := d) (T := tX13_both) (ls := [some (eI x1), some (eI x2), some (eI x3)]) rfl (Nat.le_of_ble_eq_true rfl) rfl (fun a0 e0 => ?_)
  unfold F_X13_both at H
  refine nx_ld rfl rfl rfl rfl ?_
  refine nx_lsw rfl rfl H (fun H => ?_) ?_
  · show nX _ _ _ _ _ _ 182 _ _ _ _ _
    refine nx_ld rfl rfl rfl rfl ?_
    refine nx_if rfl rfl (by rfl) H (fun H => ?_) (fun H => ?_)
    · exact TB_X13_both_190 hW    _ _ _ H
    refine nx_ld rfl rfl rfl rfl ?_
    refine nx_if rfl rfl (by rfl) H (fun H => ?_) (fun H => ?_)
    · refine nx_int (x := 0) rfl rfl ?_
      exact nx_ri rfl rfl H
    exact TB_X13_both_190 hW    _ _ _ H
  refine ⟨rfl, by decide, by decide, fun H => ?_, rfl, by decide, by decide, fun H => ?_, rfl, by decide, by decide, fun H => ?_, rfl, by decide, by decide, fun H => ?_, rfl, by decide, by decide, fun H => ?_, rfl, by decide, by decide, fun H => ?_, rfl, by decide, by decide, fun H => ?_, rfl, by decide, by decide, fun H => ?_, rfl, by decide, by decide, fun H => ?_, trivial⟩
  · show nX _ _ _ _ _ _ 168 _ _ _ _ _
    replace H := sw2 H
    refine nx_ld rfl rfl rfl rfl ?_
    refine nx_if rfl rfl (by rfl) H (fun H => ?_) (fun H => ?_)
    · refine nx_int (x := 0) rfl rfl ?_
      exact nx_ri rfl rfl H
    refine nx_ld rfl rfl rfl rfl ?_
    refine nx_if rfl rfl (by rfl) H (fun H => ?_) (fun H => ?_)
    · refine nx_int (x := 0) rfl rfl ?_
      exact nx_ri rfl rfl H
    refine nx_int (x := 1) rfl rfl ?_
    refine nx_goto rfl rfl ?_
    exact nx_ri rfl rfl H
  · show nX _ _ _ _ _ _ 118 _ _ _ _ _
    replace H := sw2 H
    refine nx_ld rfl rfl rfl rfl ?_
    refine nx_if rfl rfl (by rfl) H (fun H => ?_) (fun H => ?_)
    · exact TB_X13_both_127 hW    _ _ _ H
    refine nx_ld rfl rfl rfl rfl ?_
    refine nx_int (x := (-1)) rfl rfl ?_
    refine nx_icmp rfl rfl (by rfl) H (fun H => ?_) (fun H => ?_)
    · refine nx_ld rfl rfl rfl rfl ?_
      refine nx_ld rfl rfl rfl rfl ?_
      refine nx_idiv rfl rfl H (fun H => ?_)
      exact nx_ri rfl rfl H
    exact TB_X13_both_127 hW    _ _ _ H
  · show nX _ _ _ _ _ _ 92 _ _ _ _ _
    replace H := sw2 H
    refine nx_ld rfl rfl rfl rfl ?_
    refine nx_ld rfl rfl rfl rfl ?_
    refine nx_ii rfl rfl ?_
    exact nx_ri rfl rfl H
  · show nX _ _ _ _ _ _ 84 _ _ _ _ _
    replace H := sw2 H
    refine nx_ld rfl rfl rfl rfl ?_
    refine nx_ld rfl rfl rfl rfl ?_
    refine nx_ii rfl rfl ?_
    exact nx_ri rfl rfl H
  · show nX _ _ _ _ _ _ 88 _ _ _ _ _
    replace H := sw2 H
    refine nx_ld rfl rfl rfl rfl ?_
    refine nx_ld rfl rfl rfl rfl ?_
    refine nx_ii rfl rfl ?_
    exact nx_ri rfl rfl H
  · show nX _ _ _ _ _ _ 96 _ _ _ _ _
    replace H := sw2 H
    refine nx_ld rfl rfl rfl rfl ?_
    refine nx_if rfl rfl (by rfl) H (fun H => ?_) (fun H => ?_)
    · refine nx_ld rfl rfl rfl rfl ?_
      refine nx_int (x := (-1)) rfl rfl ?_
      refine nx_icmp rfl rfl (by rfl) H (fun H => ?_) (fun H => ?_)
      · refine nx_ld rfl rfl rfl rfl ?_
        refine nx_ld rfl rfl rfl rfl ?_
        refine nx_idiv rfl rfl H (fun H => ?_)
        exact nx_ri rfl rfl H
      refine nx_ld rfl rfl rfl rfl ?_
      refine nx_i1 rfl rfl ?_
      refine nx_goto rfl rfl ?_
      exact nx_ri rfl rfl H
    refine nx_int (x := 0) rfl rfl ?_
    refine nx_goto rfl rfl ?_
    exact nx_ri rfl rfl H
  · show nX _ _ _ _ _ _ 135 _ _ _ _ _
    replace H := sw2 H
    refine nx_ld rfl rfl rfl rfl ?_
    refine nx_ld rfl rfl rfl rfl ?_
    refine nx_icmp rfl rfl (by rfl) H (fun H => ?_) (fun H => ?_)
    · refine nx_int (x := 0) rfl rfl ?_
      exact nx_ri rfl rfl H
    refine nx_int (x := 1) rfl rfl ?_
    refine nx_goto rfl rfl ?_
    exact nx_ri rfl rfl H
  · show nX _ _ _ _ _ _ 146 _ _ _ _ _
    replace H := sw2 H
    refine nx_ld rfl rfl rfl rfl ?_
    refine nx_ld rfl rfl rfl rfl ?_
    refine nx_icmp rfl rfl (by rfl) H (fun H => ?_) (fun H => ?_)
    · refine nx_int (x := 0) rfl rfl ?_
      exact nx_ri rfl rfl H
    refine nx_int (x := 1) rfl rfl ?_
    refine nx_goto rfl rfl ?_
    exact nx_ri rfl rfl H
  · show nX _ _ _ _ _ _ 157 _ _ _ _ _
    replace H := sw2 H
    refine nx_ld rfl rfl rfl rfl ?_
    refine nx_ld rfl rfl rfl rfl ?_
    refine nx_icmp rfl rfl (by rfl) H (fun H => ?_) (fun H => ?_)
    · refine nx_int (x := 0) rfl rfl ?_
      exact nx_ri rfl rfl H
    refine nx_int (x := 1) rfl rfl ?_
    refine nx_goto rfl rfl ?_
    exact nx_ri rfl rfl H
def B_X13_worked_154 (k12 : TS → Int32 → Int32 → Int32 → Int32 → Option (Int32 × TS)) (t : TS) (v1 : Int32) (v3 : Int32) (v4 : Int32) (v5 : Int32) : Option (Int32 × TS) := (k12 t v1 v3 v4 (v5 + 1))
theorem TB_X13_worked_154 {W : NW} {d : Nat} {Q : Option NV → TS → Prop} {a0 : Nat → Nat → Nat} {e0 : Nat → Nat → Bool} {k12 : TS → Int32 → Int32 → Int32 → Int32 → Option (Int32 × TS)} {bc bs : Nat} (hW : W.2.2.2 = mm_fx) (hk12 : ∀ (t : TS) (v1 : Int32) (v2 : Int32) (v3 : Int32) (v4 : Int32) (v5 : Int32) (v6 : Option NV), wp (k12 t v1 v3 v4 v5) (fun r => Q (some (eI r.1)) r.2) → nX W (d + 1) tX13_worked Q a0 e0 12 [some (eR (some (13, 0))), some (eI v1), some (eI v2), some (eI v3), some (eI v4), some (eI v5), v6] [] t bc bs) : ∀ (t : TS) (v1 : Int32) (v2 : Int32) (v3 : Int32) (v4 : Int32) (v5 : Int32) (v6 : Int32), wp (B_X13_worked_154 k12 t v1 v3 v4 v5) (fun r => Q (some (eI r.1)) r.2) → nX W (d + 1) tX13_worked Q a0 e0 154 [some (eR (some (13, 0))), some (eI v1), some (eI v2), some (eI v3), some (eI v4), some (eI v5), some (eI v6)] [] t bc bs := by
  intro t v1 v2 v3 v4 v5 v6 H
  unfold B_X13_worked_154 at H
  refine nx_iinc2 1 (ls' := [some (eR (some (13, 0))), some (eI v1), some (eI v2), some (eI v3), some (eI v4), some (eI (v5 + 1)), some (eI v6)]) rfl rfl rfl rfl rfl ?_
  refine nx_goto rfl rfl ?_
  exact hk12 _ _ _ _ _ _ _ H
def B_X13_worked_79 (k12 : TS → Int32 → Int32 → Int32 → Int32 → Option (Int32 × TS)) (t : TS) (v1 : Int32) (v3 : Int32) (v4 : Int32) (v5 : Int32) (s0 : Int32) (s1 : Int32) : Option (Int32 × TS) := (gd s1 (tL t 3369 0) (nxt (uA t 3369 0 s1.toNatClampNeg s0) (fun t21 => (B_X13_worked_154 k12 t21 v1 v3 (v4 + 1) v5))))
theorem TB_X13_worked_79 {W : NW} {d : Nat} {Q : Option NV → TS → Prop} {a0 : Nat → Nat → Nat} {e0 : Nat → Nat → Bool} {k12 : TS → Int32 → Int32 → Int32 → Int32 → Option (Int32 × TS)} {bc bs : Nat} (hW : W.2.2.2 = mm_fx) (hk12 : ∀ (t : TS) (v1 : Int32) (v2 : Int32) (v3 : Int32) (v4 : Int32) (v5 : Int32) (v6 : Option NV), wp (k12 t v1 v3 v4 v5) (fun r => Q (some (eI r.1)) r.2) → nX W (d + 1) tX13_worked Q a0 e0 12 [some (eR (some (13, 0))), some (eI v1), some (eI v2), some (eI v3), some (eI v4), some (eI v5), v6] [] t bc bs) : ∀ (t : TS) (v1 : Int32) (v2 : Int32) (v3 : Int32) (v4 : Int32) (v5 : Int32) (v6 : Int32) (s0 : Int32) (s1 : Int32), wp (B_X13_worked_79 k12 t v1 v3 v4 v5 s0 s1) (fun r => Q (some (eI r.1)) r.2) → nX W (d + 1) tX13_worked Q a0 e0 79 [some (eR (some (13, 0))), some (eI v1), some (eI v2), some (eI v3), some (eI v4), some (eI v5), some (eI v6)] [eI s0, eI s1, eR (some (3369, 0))] t bc bs := by
  intro t v1 v2 v3 v4 v5 v6 s0 s1 H
  unfold B_X13_worked_79 at H
  refine nx_iast (p := (3369, 0)) rfl rfl (Nat.le_of_ble_eq_true rfl) (Nat.le_of_ble_eq_true rfl) rfl H (fun t21 H => ?_)
  refine nx_iinc2 1 (ls' := [some (eR (some (13, 0))), some (eI v1), some (eI v2), some (eI v3), some (eI (v4 + 1)), some (eI v5), some (eI v6)]) rfl rfl rfl rfl rfl ?_
  refine nx_goto rfl rfl ?_
  exact TB_X13_worked_154 hW   hk12 _ _ _ _ _ _ _ H
def B_X13_worked_45 (k12 : TS → Int32 → Int32 → Int32 → Int32 → Option (Int32 × TS)) (t : TS) (v1 : Int32) (v3 : Int32) (v4 : Int32) (v5 : Int32) (v6 : Int32) : Option (Int32 × TS) := (if ¬ v6 = 1 then (gd v5 (tL t 3362 0) (gd (tA t 3362 0 v5.toNatClampNeg) (tL t 3368 0) (B_X13_worked_79 k12 t v1 v3 v4 v5 (tA t 3368 0 (tA t 3362 0 v5.toNatClampNeg).toNatClampNeg) v4))) else (gd v5 (tL t 3362 0) (B_X13_worked_79 k12 t v1 v3 v4 v5 (tA t 3362 0 v5.toNatClampNeg) v4)))
theorem TB_X13_worked_45 {W : NW} {d : Nat} {Q : Option NV → TS → Prop} {a0 : Nat → Nat → Nat} {e0 : Nat → Nat → Bool} {k12 : TS → Int32 → Int32 → Int32 → Int32 → Option (Int32 × TS)} {bc bs : Nat} (hW : W.2.2.2 = mm_fx) (hk12 : ∀ (t : TS) (v1 : Int32) (v2 : Int32) (v3 : Int32) (v4 : Int32) (v5 : Int32) (v6 : Option NV), wp (k12 t v1 v3 v4 v5) (fun r => Q (some (eI r.1)) r.2) → nX W (d + 1) tX13_worked Q a0 e0 12 [some (eR (some (13, 0))), some (eI v1), some (eI v2), some (eI v3), some (eI v4), some (eI v5), v6] [] t bc bs) : ∀ (t : TS) (v1 : Int32) (v2 : Int32) (v3 : Int32) (v4 : Int32) (v5 : Int32) (v6 : Int32), wp (B_X13_worked_45 k12 t v1 v3 v4 v5 v6) (fun r => Q (some (eI r.1)) r.2) → nX W (d + 1) tX13_worked Q a0 e0 45 [some (eR (some (13, 0))), some (eI v1), some (eI v2), some (eI v3), some (eI v4), some (eI v5), some (eI v6)] [] t bc bs := by
  intro t v1 v2 v3 v4 v5 v6 H
  unfold B_X13_worked_45 at H
  refine nx_ld rfl rfl rfl rfl ?_
  refine nx_getFix rfl rfl rfl (by decide) (by rw [hW]; rfl) rfl ?_
  refine nx_ld rfl rfl rfl rfl ?_
  refine nx_ld rfl rfl rfl rfl ?_
  refine nx_int (x := 1) rfl rfl ?_
  refine nx_icmp rfl rfl (by rfl) H (fun H => ?_) (fun H => ?_)
  · refine nx_ld rfl rfl rfl rfl ?_
    refine nx_getFix rfl rfl rfl (by decide) (by rw [hW]; rfl) rfl ?_
    refine nx_ld rfl rfl rfl rfl ?_
    refine nx_getFix rfl rfl rfl (by decide) (by rw [hW]; rfl) rfl ?_
    refine nx_ld rfl rfl rfl rfl ?_
    refine nx_iald (p := (3362, 0)) rfl rfl (Nat.le_of_ble_eq_true rfl) (Nat.le_of_ble_eq_true rfl) rfl H (fun H => ?_)
    refine nx_iald (p := (3368, 0)) rfl rfl (Nat.le_of_ble_eq_true rfl) (Nat.le_of_ble_eq_true rfl) rfl H (fun H => ?_)
    exact TB_X13_worked_79 hW   hk12 _ _ _ _ _ _ _ _ _ H
  refine nx_ld rfl rfl rfl rfl ?_
  refine nx_getFix rfl rfl rfl (by decide) (by rw [hW]; rfl) rfl ?_
  refine nx_ld rfl rfl rfl rfl ?_
  refine nx_iald (p := (3362, 0)) rfl rfl (Nat.le_of_ble_eq_true rfl) (Nat.le_of_ble_eq_true rfl) rfl H (fun H => ?_)
  refine nx_goto rfl rfl ?_
  exact TB_X13_worked_79 hW   hk12 _ _ _ _ _ _ _ _ _ H
def B_X13_worked_117 (k12 : TS → Int32 → Int32 → Int32 → Int32 → Option (Int32 × TS)) (t : TS) (v1 : Int32) (v3 : Int32) (v4 : Int32) (v5 : Int32) (s0 : Int32) (s1 : Int32) : Option (Int32 × TS) := (gd s1 (tL t 3369 0) (nxt (uA t 3369 0 s1.toNatClampNeg s0) (fun t21 => (B_X13_worked_154 k12 t21 v1 v3 v4 v5))))
theorem TB_X13_worked_117 {W : NW} {d : Nat} {Q : Option NV → TS → Prop} {a0 : Nat → Nat → Nat} {e0 : Nat → Nat → Bool} {k12 : TS → Int32 → Int32 → Int32 → Int32 → Option (Int32 × TS)} {bc bs : Nat} (hW : W.2.2.2 = mm_fx) (hk12 : ∀ (t : TS) (v1 : Int32) (v2 : Int32) (v3 : Int32) (v4 : Int32) (v5 : Int32) (v6 : Option NV), wp (k12 t v1 v3 v4 v5) (fun r => Q (some (eI r.1)) r.2) → nX W (d + 1) tX13_worked Q a0 e0 12 [some (eR (some (13, 0))), some (eI v1), some (eI v2), some (eI v3), some (eI v4), some (eI v5), v6] [] t bc bs) : ∀ (t : TS) (v1 : Int32) (v2 : Int32) (v3 : Int32) (v4 : Int32) (v5 : Int32) (v6 : Int32) (s0 : Int32) (s1 : Int32), wp (B_X13_worked_117 k12 t v1 v3 v4 v5 s0 s1) (fun r => Q (some (eI r.1)) r.2) → nX W (d + 1) tX13_worked Q a0 e0 117 [some (eR (some (13, 0))), some (eI v1), some (eI v2), some (eI v3), some (eI v4), some (eI v5), some (eI v6)] [eI s0, eI s1, eR (some (3369, 0))] t bc bs := by
  intro t v1 v2 v3 v4 v5 v6 s0 s1 H
  unfold B_X13_worked_117 at H
  refine nx_iast (p := (3369, 0)) rfl rfl (Nat.le_of_ble_eq_true rfl) (Nat.le_of_ble_eq_true rfl) rfl H (fun t21 H => ?_)
  refine nx_goto rfl rfl ?_
  exact TB_X13_worked_154 hW   hk12 _ _ _ _ _ _ _ H
def BB_X13_worked_12 (k12 : TS → Int32 → Int32 → Int32 → Int32 → Option (Int32 × TS)) (t : TS) (v1 : Int32) (v3 : Int32) (v4 : Int32) (v5 : Int32) : Option (Int32 × TS) := (if ((200 * v1) + v3) ≤ v5 then (gd (0 : Int32) (tL t 3369 0) (some ((tA t 3369 0 (0 : Int32).toNatClampNeg), t))) else (gd v5 (tL t 3361 0) (if (tA t 3361 0 v5.toNatClampNeg) = 1 then (B_X13_worked_45 k12 t v1 v3 v4 v5 (tA t 3361 0 v5.toNatClampNeg)) else (if ¬ (tA t 3361 0 v5.toNatClampNeg) = 2 then (if ¬ (tA t 3361 0 v5.toNatClampNeg) = 3 then (gd ((v4 + (-1)) - 1) (tL t 3369 0) (gd (v4 + (-1)) (tL t 3369 0) (Option.bind (F_X13_both t (tA t 3361 0 v5.toNatClampNeg) (tA t 3369 0 ((v4 + (-1)) - 1).toNatClampNeg) (tA t 3369 0 (v4 + (-1)).toNatClampNeg)) (fun r21 => (gd ((v4 + (-1)) - 1) (tL t 3369 0) (nxt (uA t 3369 0 ((v4 + (-1)) - 1).toNatClampNeg r21) (fun t22 => (B_X13_worked_154 k12 t22 v1 v3 (v4 + (-1)) v5)))))))) else (gd (v4 - 1) (tL t 3369 0) (if ¬ (tA t 3369 0 (v4 - 1).toNatClampNeg) = 0 then (B_X13_worked_117 k12 t v1 v3 v4 v5 0 (v4 - 1)) else (B_X13_worked_117 k12 t v1 v3 v4 v5 1 (v4 - 1))))) else (B_X13_worked_45 k12 t v1 v3 v4 v5 (tA t 3361 0 v5.toNatClampNeg))))))
theorem TBB_X13_worked_12 {W : NW} {d : Nat} {Q : Option NV → TS → Prop} {a0 : Nat → Nat → Nat} {e0 : Nat → Nat → Bool} {k12 : TS → Int32 → Int32 → Int32 → Int32 → Option (Int32 × TS)} {bc bs : Nat} (hW : W.2.2.2 = mm_fx) (hk12 : ∀ (t : TS) (v1 : Int32) (v2 : Int32) (v3 : Int32) (v4 : Int32) (v5 : Int32) (v6 : Option NV), wp (k12 t v1 v3 v4 v5) (fun r => Q (some (eI r.1)) r.2) → nX W (d + 1) tX13_worked Q a0 e0 12 [some (eR (some (13, 0))), some (eI v1), some (eI v2), some (eI v3), some (eI v4), some (eI v5), v6] [] t bc bs) : ∀ (t : TS) (v1 : Int32) (v2 : Int32) (v3 : Int32) (v4 : Int32) (v5 : Int32) (v6 : Option NV), wp (BB_X13_worked_12 k12 t v1 v3 v4 v5) (fun r => Q (some (eI r.1)) r.2) → nX W (d + 1) tX13_worked Q a0 e0 12 [some (eR (some (13, 0))), some (eI v1), some (eI v2), some (eI v3), some (eI v4), some (eI v5), v6] [] t bc bs := by
  intro t v1 v2 v3 v4 v5 v6 H
  unfold BB_X13_worked_12 at H
  refine nx_ld rfl rfl rfl rfl ?_
  refine nx_int (x := 200) rfl rfl ?_
  refine nx_ld rfl rfl rfl rfl ?_
  refine nx_ii rfl rfl ?_
  refine nx_ld rfl rfl rfl rfl ?_
  refine nx_ii rfl rfl ?_
  refine nx_icmp rfl rfl (by rfl) H (fun H => ?_) (fun H => ?_)
  · refine nx_ld rfl rfl rfl rfl ?_
    refine nx_getFix rfl rfl rfl (by decide) (by rw [hW]; rfl) rfl ?_
    refine nx_int (x := 0) rfl rfl ?_
    refine nx_iald (p := (3369, 0)) rfl rfl (Nat.le_of_ble_eq_true rfl) (Nat.le_of_ble_eq_true rfl) rfl H (fun H => ?_)
    exact nx_rit rfl rfl H
  refine nx_ld rfl rfl rfl rfl ?_
  refine nx_getFix rfl rfl rfl (by decide) (by rw [hW]; rfl) rfl ?_
  refine nx_ld rfl rfl rfl rfl ?_
  refine nx_iald (p := (3361, 0)) rfl rfl (Nat.le_of_ble_eq_true rfl) (Nat.le_of_ble_eq_true rfl) rfl H (fun H => ?_)
  refine nx_st (ls' := [some (eR (some (13, 0))), some (eI v1), some (eI v2), some (eI v3), some (eI v4), some (eI v5), some (eI (tA t 3361 0 v5.toNatClampNeg))]) rfl rfl rfl (Nat.le_of_ble_eq_true rfl) rfl ?_
  refine nx_ld rfl rfl rfl rfl ?_
  refine nx_int (x := 1) rfl rfl ?_
  show nX _ _ _ _ _ _ 36 _ _ _ _ _
  refine nx_icmp rfl rfl (by rfl) H (fun H => ?_) (fun H => ?_)
  · exact TB_X13_worked_45 hW   hk12 _ _ _ _ _ _ _ H
  refine nx_ld rfl rfl rfl rfl ?_
  refine nx_int (x := 2) rfl rfl ?_
  refine nx_icmp rfl rfl (by rfl) H (fun H => ?_) (fun H => ?_)
  · refine nx_ld rfl rfl rfl rfl ?_
    refine nx_int (x := 3) rfl rfl ?_
    refine nx_icmp rfl rfl (by rfl) H (fun H => ?_) (fun H => ?_)
    · refine nx_iinc2 (-1) (ls' := [some (eR (some (13, 0))), some (eI v1), some (eI v2), some (eI v3), some (eI (v4 + (-1))), some (eI v5), some (eI (tA t 3361 0 v5.toNatClampNeg))]) rfl rfl rfl rfl rfl ?_
      refine nx_ld rfl rfl rfl rfl ?_
      refine nx_getFix rfl rfl rfl (by decide) (by rw [hW]; rfl) rfl ?_
      refine nx_ld rfl rfl rfl rfl ?_
      refine nx_int (x := 1) rfl rfl ?_
      refine nx_ii rfl rfl ?_
      refine nx_ld rfl rfl rfl rfl ?_
      show nX _ _ _ _ _ _ 134 _ _ _ _ _
      refine nx_ld rfl rfl rfl rfl ?_
      refine nx_getFix rfl rfl rfl (by decide) (by rw [hW]; rfl) rfl ?_
      refine nx_ld rfl rfl rfl rfl ?_
      refine nx_int (x := 1) rfl rfl ?_
      refine nx_ii rfl rfl ?_
      refine nx_iald (p := (3369, 0)) rfl rfl (Nat.le_of_ble_eq_true rfl) (Nat.le_of_ble_eq_true rfl) rfl H (fun H => ?_)
      refine nx_ld rfl rfl rfl rfl ?_
      refine nx_getFix rfl rfl rfl (by decide) (by rw [hW]; rfl) rfl ?_
      show nX _ _ _ _ _ _ 147 _ _ _ _ _
      refine nx_ld rfl rfl rfl rfl ?_
      refine nx_iald (p := (3369, 0)) rfl rfl (Nat.le_of_ble_eq_true rfl) (Nat.le_of_ble_eq_true rfl) rfl H (fun H => ?_)
      refine nx_cSI (as := [eI (tA t 3361 0 v5.toNatClampNeg), eI (tA t 3369 0 ((v4 + (-1)) - 1).toNatClampNeg), eI (tA t 3369 0 (v4 + (-1)).toNatClampNeg)]) (st' := [eI ((v4 + (-1)) - 1), eR (some (3369, 0))]) rfl rfl (Nat.le_of_ble_eq_true rfl) rfl rfl (Nat.le_of_ble_eq_true rfl) H (fun Q H => TF_X13_both hW  H) (fun r21 H => ?_)
      refine nx_iast (p := (3369, 0)) rfl rfl (Nat.le_of_ble_eq_true rfl) (Nat.le_of_ble_eq_true rfl) rfl H (fun t22 H => ?_)
      exact TB_X13_worked_154 hW   hk12 _ _ _ _ _ _ _ H
    refine nx_ld rfl rfl rfl rfl ?_
    refine nx_getFix rfl rfl rfl (by decide) (by rw [hW]; rfl) rfl ?_
    refine nx_ld rfl rfl rfl rfl ?_
    refine nx_int (x := 1) rfl rfl ?_
    refine nx_ii rfl rfl ?_
    refine nx_ld rfl rfl rfl rfl ?_
    refine nx_getFix rfl rfl rfl (by decide) (by rw [hW]; rfl) rfl ?_
    show nX _ _ _ _ _ _ 104 _ _ _ _ _
    refine nx_ld rfl rfl rfl rfl ?_
    refine nx_int (x := 1) rfl rfl ?_
    refine nx_ii rfl rfl ?_
    refine nx_iald (p := (3369, 0)) rfl rfl (Nat.le_of_ble_eq_true rfl) (Nat.le_of_ble_eq_true rfl) rfl H (fun H => ?_)
    refine nx_if rfl rfl (by rfl) H (fun H => ?_) (fun H => ?_)
    · refine nx_int (x := 0) rfl rfl ?_
      exact TB_X13_worked_117 hW   hk12 _ _ _ _ _ _ _ _ _ H
    refine nx_int (x := 1) rfl rfl ?_
    refine nx_goto rfl rfl ?_
    exact TB_X13_worked_117 hW   hk12 _ _ _ _ _ _ _ _ _ H
  exact TB_X13_worked_45 hW   hk12 _ _ _ _ _ _ _ H
def B_X13_worked_12 : Nat → TS → Int32 → Int32 → Int32 → Int32 → Option (Int32 × TS)
  | 0 => fun _ _ _ _ _ => none
  | n + 1 => fun t v1 v3 v4 v5 => BB_X13_worked_12 (B_X13_worked_12 n) t v1 v3 v4 v5
theorem TB_X13_worked_12 {W : NW} {d : Nat} {Q : Option NV → TS → Prop} {a0 : Nat → Nat → Nat} {e0 : Nat → Nat → Bool} {bc bs : Nat} (hW : W.2.2.2 = mm_fx) : ∀ (n : Nat) (t : TS) (v1 : Int32) (v2 : Int32) (v3 : Int32) (v4 : Int32) (v5 : Int32) (v6 : Option NV), wp (B_X13_worked_12 n t v1 v3 v4 v5) (fun r => Q (some (eI r.1)) r.2) → nX W (d + 1) tX13_worked Q a0 e0 12 [some (eR (some (13, 0))), some (eI v1), some (eI v2), some (eI v3), some (eI v4), some (eI v5), v6] [] t bc bs := by
  intro n
  induction n with
  | zero => intro t v1 v2 v3 v4 v5 v6 H; exact (wp_none H).elim
  | succ n ih =>
    intro t v1 v2 v3 v4 v5 v6 H
    exact TBB_X13_worked_12 hW    ih t v1 v2 v3 v4 v5 v6 H
def F_X13_worked (t : TS) (x1 : Int32) (x2 : Int32) (x3 : Int32) : Option (Int32 × TS) := (B_X13_worked_12  10000 t x1 x3 0 ((200 * x1) + x2))
theorem TF_X13_worked {W : NW} {d : Nat} {t : TS} {x1 : Int32} {x2 : Int32} {x3 : Int32} {Q : Option NV → TS → Prop} {bc bs : Nat} (hW : W.2.2.2 = mm_fx) (H : wp (F_X13_worked t x1 x2 x3) (fun r => Q (some (eI r.1)) r.2)) : nC W (d + 2) 230 [eR (some (13, 0)), eI x1, eI x2, eI x3] t bc bs Q := by
  refine nC_in (d := (d + 1)) (T := tX13_worked) (ls := [some (eR (some (13, 0))), some (eI x1), some (eI x2), some (eI x3), none, none, none]) rfl (Nat.le_of_ble_eq_true rfl) rfl (fun a0 e0 => ?_)
  unfold F_X13_worked at H
  refine nx_int (x := 0) rfl rfl ?_
  refine nx_st (ls' := [some (eR (some (13, 0))), some (eI x1), some (eI x2), some (eI x3), some (eI 0), none, none]) rfl rfl rfl (Nat.le_of_ble_eq_true rfl) rfl ?_
  refine nx_int (x := 200) rfl rfl ?_
  refine nx_ld rfl rfl rfl rfl ?_
  refine nx_ii rfl rfl ?_
  refine nx_ld rfl rfl rfl rfl ?_
  refine nx_ii rfl rfl ?_
  show nX _ _ _ _ _ _ 10 _ _ _ _ _
  refine nx_st (ls' := [some (eR (some (13, 0))), some (eI x1), some (eI x2), some (eI x3), some (eI 0), some (eI ((200 * x1) + x2)), none]) rfl rfl rfl (Nat.le_of_ble_eq_true rfl) rfl ?_
  exact TB_X13_worked_12 hW    10000 _ _ _ _ _ _ _ H
def BB_X13_firstBroken_223 (k223 : TS → Int32 → Int32 → Int32 → Option (Int32 × TS)) (t : TS) (v1 : Int32) (v6 : Int32) (v7 : Int32) : Option (Int32 × TS) := (gd v1 (tL t 3359 0) (if (tA t 3359 0 v1.toNatClampNeg) ≤ v7 then (some ((-1), t)) else (gd ((90 * v1) + v7) (tL t 3360 0) (ob2 (F_X13_worked t v1 v6 (tA t 3360 0 ((90 * v1) + v7).toNatClampNeg)) (fun x22 t23 => (if ¬ x22 = 0 then (k223 t23 v1 (tA t 3360 0 ((90 * v1) + v7).toNatClampNeg) (v7 + 1)) else (some (v7, t23))))))))
theorem TBB_X13_firstBroken_223 {W : NW} {d : Nat} {Q : Option NV → TS → Prop} {a0 : Nat → Nat → Nat} {e0 : Nat → Nat → Bool} {k223 : TS → Int32 → Int32 → Int32 → Option (Int32 × TS)} {bc bs : Nat} (hW : W.2.2.2 = mm_fx) (hk223 : ∀ (t : TS) (v1 : Int32) (v2 : Int32) (v3 : Int32) (v4 : Int32) (v5 : Int32) (v6 : Int32) (v7 : Int32) (v8 : Option NV), wp (k223 t v1 v6 v7) (fun r => Q (some (eI r.1)) r.2) → nX W (d + 6) tX13_firstBroken Q a0 e0 223 [some (eR (some (13, 0))), some (eI v1), some (eI v2), some (eI v3), some (eI v4), some (eI v5), some (eI v6), some (eI v7), v8] [] t bc bs) : ∀ (t : TS) (v1 : Int32) (v2 : Int32) (v3 : Int32) (v4 : Int32) (v5 : Int32) (v6 : Int32) (v7 : Int32) (v8 : Option NV), wp (BB_X13_firstBroken_223 k223 t v1 v6 v7) (fun r => Q (some (eI r.1)) r.2) → nX W (d + 6) tX13_firstBroken Q a0 e0 223 [some (eR (some (13, 0))), some (eI v1), some (eI v2), some (eI v3), some (eI v4), some (eI v5), some (eI v6), some (eI v7), v8] [] t bc bs := by
  intro t v1 v2 v3 v4 v5 v6 v7 v8 H
  unfold BB_X13_firstBroken_223 at H
  refine nx_ld rfl rfl rfl rfl ?_
  refine nx_ld rfl rfl rfl rfl ?_
  refine nx_getFix rfl rfl rfl (by decide) (by rw [hW]; rfl) rfl ?_
  refine nx_ld rfl rfl rfl rfl ?_
  refine nx_iald (p := (3359, 0)) rfl rfl (Nat.le_of_ble_eq_true rfl) (Nat.le_of_ble_eq_true rfl) rfl H (fun H => ?_)
  refine nx_icmp rfl rfl (by rfl) H (fun H => ?_) (fun H => ?_)
  · refine nx_int (x := (-1)) rfl rfl ?_
    exact nx_rit rfl rfl H
  refine nx_ld rfl rfl rfl rfl ?_
  refine nx_getFix rfl rfl rfl (by decide) (by rw [hW]; rfl) rfl ?_
  refine nx_int (x := 90) rfl rfl ?_
  refine nx_ld rfl rfl rfl rfl ?_
  refine nx_ii rfl rfl ?_
  refine nx_ld rfl rfl rfl rfl ?_
  refine nx_ii rfl rfl ?_
  show nX _ _ _ _ _ _ 245 _ _ _ _ _
  refine nx_iald (p := (3360, 0)) rfl rfl (Nat.le_of_ble_eq_true rfl) (Nat.le_of_ble_eq_true rfl) rfl H (fun H => ?_)
  refine nx_st (ls' := [some (eR (some (13, 0))), some (eI v1), some (eI v2), some (eI v3), some (eI v4), some (eI v5), some (eI v6), some (eI v7), some (eI (tA t 3360 0 ((90 * v1) + v7).toNatClampNeg))]) rfl rfl rfl (Nat.le_of_ble_eq_true rfl) rfl ?_
  refine nx_ld rfl rfl rfl rfl ?_
  refine nx_ld rfl rfl rfl rfl ?_
  refine nx_ld rfl rfl rfl rfl ?_
  refine nx_ld rfl rfl rfl rfl ?_
  refine nx_cVI2 (as := [eI v1, eI v6, eI (tA t 3360 0 ((90 * v1) + v7).toNatClampNeg)]) (st' := []) rfl rfl (Nat.le_of_ble_eq_true rfl) rfl rfl (Nat.le_of_ble_eq_true rfl) (c0 := 13) rfl (by decide) H (fun Q H => TF_X13_worked hW  H) (fun x22 t23 H => ?_)
  refine nx_if rfl rfl (by rfl) H (fun H => ?_) (fun H => ?_)
  · refine nx_ld rfl rfl rfl rfl ?_
    refine nx_st (ls' := [some (eR (some (13, 0))), some (eI v1), some (eI v2), some (eI v3), some (eI v4), some (eI v5), some (eI (tA t 3360 0 ((90 * v1) + v7).toNatClampNeg)), some (eI v7), some (eI (tA t 3360 0 ((90 * v1) + v7).toNatClampNeg))]) rfl rfl rfl (Nat.le_of_ble_eq_true rfl) rfl ?_
    refine nx_iinc2 1 (ls' := [some (eR (some (13, 0))), some (eI v1), some (eI v2), some (eI v3), some (eI v4), some (eI v5), some (eI (tA t 3360 0 ((90 * v1) + v7).toNatClampNeg)), some (eI (v7 + 1)), some (eI (tA t 3360 0 ((90 * v1) + v7).toNatClampNeg))]) rfl rfl rfl rfl rfl ?_
    refine nx_goto rfl rfl ?_
    exact hk223 _ _ _ _ _ _ _ _ _ H
  refine nx_ld rfl rfl rfl rfl ?_
  exact nx_rit rfl rfl H
def B_X13_firstBroken_223 : Nat → TS → Int32 → Int32 → Int32 → Option (Int32 × TS)
  | 0 => fun _ _ _ _ => none
  | n + 1 => fun t v1 v6 v7 => BB_X13_firstBroken_223 (B_X13_firstBroken_223 n) t v1 v6 v7
theorem TB_X13_firstBroken_223 {W : NW} {d : Nat} {Q : Option NV → TS → Prop} {a0 : Nat → Nat → Nat} {e0 : Nat → Nat → Bool} {bc bs : Nat} (hW : W.2.2.2 = mm_fx) : ∀ (n : Nat) (t : TS) (v1 : Int32) (v2 : Int32) (v3 : Int32) (v4 : Int32) (v5 : Int32) (v6 : Int32) (v7 : Int32) (v8 : Option NV), wp (B_X13_firstBroken_223 n t v1 v6 v7) (fun r => Q (some (eI r.1)) r.2) → nX W (d + 6) tX13_firstBroken Q a0 e0 223 [some (eR (some (13, 0))), some (eI v1), some (eI v2), some (eI v3), some (eI v4), some (eI v5), some (eI v6), some (eI v7), v8] [] t bc bs := by
  intro n
  induction n with
  | zero => intro t v1 v2 v3 v4 v5 v6 v7 v8 H; exact (wp_none H).elim
  | succ n ih =>
    intro t v1 v2 v3 v4 v5 v6 v7 v8 H
    exact TBB_X13_firstBroken_223 hW    ih t v1 v2 v3 v4 v5 v6 v7 v8 H
def B_X13_firstBroken_88 (t : TS) (v1 : Int32) (v2 : Int32) (s0 : Int32) (s1 : Int32) : Option (Int32 × TS) := (gd s1 (tL t 3368 0) (nxt (uA t 3368 0 s1.toNatClampNeg s0) (fun t21 => (gd (2 : Int32) (tL t21 3368 0) (nxt (uA t21 3368 0 (2 : Int32).toNatClampNeg (tI t21 1351 0)) (fun t22 => (gd (3 : Int32) (tL t22 3368 0) (nxt (uA t22 3368 0 (3 : Int32).toNatClampNeg (tI t22 1350 0)) (fun t23 => (gd (4 : Int32) (tL t23 3368 0) (nxt (uA t23 3368 0 (4 : Int32).toNatClampNeg (tI t23 1352 0)) (fun t24 => (Option.bind (F_X13_wagesOf t24 v2) (fun r25 => (gd (5 : Int32) (tL t24 3368 0) (nxt (uA t24 3368 0 (5 : Int32).toNatClampNeg r25) (fun t26 => (Option.bind (F_X13_capOf t26 v2 ((tI t26 1301 0) / 300)) (fun r27 => (gd (6 : Int32) (tL t26 3368 0) (nxt (uA t26 3368 0 (6 : Int32).toNatClampNeg r27) (fun t28 => (Option.bind (F_X13_threeYears t28 v2 1) (fun r29 => (gd (7 : Int32) (tL t28 3368 0) (nxt (uA t28 3368 0 (7 : Int32).toNatClampNeg r29) (fun t30 => (Option.bind (F_X13_threeYears t30 v2 0) (fun r31 => (gd (8 : Int32) (tL t30 3368 0) (nxt (uA t30 3368 0 (8 : Int32).toNatClampNeg r31) (fun t32 => (gd v2 (tL t32 3309 0) (gd (9 : Int32) (tL t32 3368 0) (nxt (uA t32 3368 0 (9 : Int32).toNatClampNeg (tA t32 3309 0 v2.toNatClampNeg)) (fun t33 => (gd (10 : Int32) (tL t33 3368 0) (nxt (uA t33 3368 0 (10 : Int32).toNatClampNeg ((tI t33 1301 0) / 300)) (fun t34 => (gd v2 (tL t34 3310 0) (gd (11 : Int32) (tL t34 3368 0) (nxt (uA t34 3368 0 (11 : Int32).toNatClampNeg (tA t34 3310 0 v2.toNatClampNeg)) (fun t35 => (B_X13_firstBroken_223  10000 t35 v1 0 0))))))))))))))))))))))))))))))))))))))))))))
theorem TB_X13_firstBroken_88 {W : NW} {d : Nat} {Q : Option NV → TS → Prop} {a0 : Nat → Nat → Nat} {e0 : Nat → Nat → Bool} {bc bs : Nat} (hW : W.2.2.2 = mm_fx) : ∀ (t : TS) (v1 : Int32) (v2 : Int32) (v3 : Int32) (v4 : Int32) (v5 : Int32) (s0 : Int32) (s1 : Int32), wp (B_X13_firstBroken_88 t v1 v2 s0 s1) (fun r => Q (some (eI r.1)) r.2) → nX W (d + 6) tX13_firstBroken Q a0 e0 88 [some (eR (some (13, 0))), some (eI v1), some (eI v2), some (eI v3), some (eI v4), some (eI v5), none, none, none] [eI s0, eI s1, eR (some (3368, 0))] t bc bs := by
  intro t v1 v2 v3 v4 v5 s0 s1 H
  unfold B_X13_firstBroken_88 at H
  refine nx_iast (p := (3368, 0)) rfl rfl (Nat.le_of_ble_eq_true rfl) (Nat.le_of_ble_eq_true rfl) rfl H (fun t21 H => ?_)
  refine nx_ld rfl rfl rfl rfl ?_
  refine nx_getFix rfl rfl rfl (by decide) (by rw [hW]; rfl) rfl ?_
  refine nx_int (x := 2) rfl rfl ?_
  refine nx_ld rfl rfl rfl rfl ?_
  refine nx_getI rfl rfl rfl (by decide) ?_
  refine nx_iast (p := (3368, 0)) rfl rfl (Nat.le_of_ble_eq_true rfl) (Nat.le_of_ble_eq_true rfl) rfl H (fun t22 H => ?_)
  show nX _ _ _ _ _ _ 99 _ _ _ _ _
  refine nx_ld rfl rfl rfl rfl ?_
  refine nx_getFix rfl rfl rfl (by decide) (by rw [hW]; rfl) rfl ?_
  refine nx_int (x := 3) rfl rfl ?_
  refine nx_ld rfl rfl rfl rfl ?_
  refine nx_getI rfl rfl rfl (by decide) ?_
  refine nx_iast (p := (3368, 0)) rfl rfl (Nat.le_of_ble_eq_true rfl) (Nat.le_of_ble_eq_true rfl) rfl H (fun t23 H => ?_)
  refine nx_ld rfl rfl rfl rfl ?_
  refine nx_getFix rfl rfl rfl (by decide) (by rw [hW]; rfl) rfl ?_
  show nX _ _ _ _ _ _ 113 _ _ _ _ _
  refine nx_int (x := 4) rfl rfl ?_
  refine nx_ld rfl rfl rfl rfl ?_
  refine nx_getI rfl rfl rfl (by decide) ?_
  refine nx_iast (p := (3368, 0)) rfl rfl (Nat.le_of_ble_eq_true rfl) (Nat.le_of_ble_eq_true rfl) rfl H (fun t24 H => ?_)
  refine nx_ld rfl rfl rfl rfl ?_
  refine nx_getFix rfl rfl rfl (by decide) (by rw [hW]; rfl) rfl ?_
  refine nx_int (x := 5) rfl rfl ?_
  refine nx_ld rfl rfl rfl rfl ?_
  show nX _ _ _ _ _ _ 125 _ _ _ _ _
  refine nx_ld rfl rfl rfl rfl ?_
  refine nx_cVI (as := [eI v2]) (st' := [eI 5, eR (some (3368, 0))]) rfl rfl (Nat.le_of_ble_eq_true rfl) rfl rfl (Nat.le_of_ble_eq_true rfl) (c0 := 13) rfl (by decide) H (fun Q H => TF_X13_wagesOf hW  H) (fun r25 H => ?_)
  refine nx_iast (p := (3368, 0)) rfl rfl (Nat.le_of_ble_eq_true rfl) (Nat.le_of_ble_eq_true rfl) rfl H (fun t26 H => ?_)
  refine nx_ld rfl rfl rfl rfl ?_
  refine nx_getFix rfl rfl rfl (by decide) (by rw [hW]; rfl) rfl ?_
  refine nx_int (x := 6) rfl rfl ?_
  refine nx_ld rfl rfl rfl rfl ?_
  refine nx_ld rfl rfl rfl rfl ?_
  show nX _ _ _ _ _ _ 138 _ _ _ _ _
  refine nx_ld rfl rfl rfl rfl ?_
  refine nx_getI rfl rfl rfl (by decide) ?_
  refine nx_int (x := 300) rfl rfl ?_
  refine nx_idivL rfl rfl (by decide) ?_
  refine nx_cVI (as := [eI v2, eI ((tI t26 1301 0) / 300)]) (st' := [eI 6, eR (some (3368, 0))]) rfl rfl (Nat.le_of_ble_eq_true rfl) rfl rfl (Nat.le_of_ble_eq_true rfl) (c0 := 13) rfl (by decide) H (fun Q H => TF_X13_capOf hW  H) (fun r27 H => ?_)
  refine nx_iast (p := (3368, 0)) rfl rfl (Nat.le_of_ble_eq_true rfl) (Nat.le_of_ble_eq_true rfl) rfl H (fun t28 H => ?_)
  refine nx_ld rfl rfl rfl rfl ?_
  refine nx_getFix rfl rfl rfl (by decide) (by rw [hW]; rfl) rfl ?_
  show nX _ _ _ _ _ _ 154 _ _ _ _ _
  refine nx_int (x := 7) rfl rfl ?_
  refine nx_ld rfl rfl rfl rfl ?_
  refine nx_ld rfl rfl rfl rfl ?_
  refine nx_int (x := 1) rfl rfl ?_
  refine nx_cVI (as := [eI v2, eI 1]) (st' := [eI 7, eR (some (3368, 0))]) rfl rfl (Nat.le_of_ble_eq_true rfl) rfl rfl (Nat.le_of_ble_eq_true rfl) (c0 := 13) rfl (by decide) H (fun Q H => TF_X13_threeYears hW  H) (fun r29 H => ?_)
  refine nx_iast (p := (3368, 0)) rfl rfl (Nat.le_of_ble_eq_true rfl) (Nat.le_of_ble_eq_true rfl) rfl H (fun t30 H => ?_)
  refine nx_ld rfl rfl rfl rfl ?_
  refine nx_getFix rfl rfl rfl (by decide) (by rw [hW]; rfl) rfl ?_
  show nX _ _ _ _ _ _ 167 _ _ _ _ _
  refine nx_int (x := 8) rfl rfl ?_
  refine nx_ld rfl rfl rfl rfl ?_
  refine nx_ld rfl rfl rfl rfl ?_
  refine nx_int (x := 0) rfl rfl ?_
  refine nx_cVI (as := [eI v2, eI 0]) (st' := [eI 8, eR (some (3368, 0))]) rfl rfl (Nat.le_of_ble_eq_true rfl) rfl rfl (Nat.le_of_ble_eq_true rfl) (c0 := 13) rfl (by decide) H (fun Q H => TF_X13_threeYears hW  H) (fun r31 H => ?_)
  refine nx_iast (p := (3368, 0)) rfl rfl (Nat.le_of_ble_eq_true rfl) (Nat.le_of_ble_eq_true rfl) rfl H (fun t32 H => ?_)
  refine nx_ld rfl rfl rfl rfl ?_
  refine nx_getFix rfl rfl rfl (by decide) (by rw [hW]; rfl) rfl ?_
  show nX _ _ _ _ _ _ 180 _ _ _ _ _
  refine nx_int (x := 9) rfl rfl ?_
  refine nx_ld rfl rfl rfl rfl ?_
  refine nx_getFix rfl rfl rfl (by decide) (by rw [hW]; rfl) rfl ?_
  refine nx_ld rfl rfl rfl rfl ?_
  refine nx_iald (p := (3309, 0)) rfl rfl (Nat.le_of_ble_eq_true rfl) (Nat.le_of_ble_eq_true rfl) rfl H (fun H => ?_)
  refine nx_iast (p := (3368, 0)) rfl rfl (Nat.le_of_ble_eq_true rfl) (Nat.le_of_ble_eq_true rfl) rfl H (fun t33 H => ?_)
  refine nx_ld rfl rfl rfl rfl ?_
  refine nx_getFix rfl rfl rfl (by decide) (by rw [hW]; rfl) rfl ?_
  show nX _ _ _ _ _ _ 193 _ _ _ _ _
  refine nx_int (x := 10) rfl rfl ?_
  refine nx_ld rfl rfl rfl rfl ?_
  refine nx_getI rfl rfl rfl (by decide) ?_
  refine nx_int (x := 300) rfl rfl ?_
  refine nx_idivL rfl rfl (by decide) ?_
  refine nx_iast (p := (3368, 0)) rfl rfl (Nat.le_of_ble_eq_true rfl) (Nat.le_of_ble_eq_true rfl) rfl H (fun t34 H => ?_)
  refine nx_ld rfl rfl rfl rfl ?_
  refine nx_getFix rfl rfl rfl (by decide) (by rw [hW]; rfl) rfl ?_
  show nX _ _ _ _ _ _ 208 _ _ _ _ _
  refine nx_int (x := 11) rfl rfl ?_
  refine nx_ld rfl rfl rfl rfl ?_
  refine nx_getFix rfl rfl rfl (by decide) (by rw [hW]; rfl) rfl ?_
  refine nx_ld rfl rfl rfl rfl ?_
  refine nx_iald (p := (3310, 0)) rfl rfl (Nat.le_of_ble_eq_true rfl) (Nat.le_of_ble_eq_true rfl) rfl H (fun H => ?_)
  refine nx_iast (p := (3368, 0)) rfl rfl (Nat.le_of_ble_eq_true rfl) (Nat.le_of_ble_eq_true rfl) rfl H (fun t35 H => ?_)
  refine nx_int (x := 0) rfl rfl ?_
  refine nx_st (ls' := [some (eR (some (13, 0))), some (eI v1), some (eI v2), some (eI v3), some (eI v4), some (eI v5), some (eI 0), none, none]) rfl rfl rfl (Nat.le_of_ble_eq_true rfl) rfl ?_
  show nX _ _ _ _ _ _ 220 _ _ _ _ _
  refine nx_int (x := 0) rfl rfl ?_
  refine nx_st (ls' := [some (eR (some (13, 0))), some (eI v1), some (eI v2), some (eI v3), some (eI v4), some (eI v5), some (eI 0), some (eI 0), none]) rfl rfl rfl (Nat.le_of_ble_eq_true rfl) rfl ?_
  exact TB_X13_firstBroken_223 hW    10000 _ _ _ _ _ _ _ _ _ H
def B_X13_firstBroken_67 (t : TS) (v1 : Int32) (v2 : Int32) (v3 : Int32) (v5 : Int32) (s0 : Int32) (s1 : Int32) : Option (Int32 × TS) := (gd s1 (tL t 3368 0) (nxt (uA t 3368 0 s1.toNatClampNeg s0) (fun t21 => (if v5 = 0 then (B_X13_firstBroken_88  t21 v1 v2 0 1) else (gd v3 (tL t21 3308 0) (B_X13_firstBroken_88  t21 v1 v2 (tA t21 3308 0 v3.toNatClampNeg) 1))))))
theorem TB_X13_firstBroken_67 {W : NW} {d : Nat} {Q : Option NV → TS → Prop} {a0 : Nat → Nat → Nat} {e0 : Nat → Nat → Bool} {bc bs : Nat} (hW : W.2.2.2 = mm_fx) : ∀ (t : TS) (v1 : Int32) (v2 : Int32) (v3 : Int32) (v4 : Int32) (v5 : Int32) (s0 : Int32) (s1 : Int32), wp (B_X13_firstBroken_67 t v1 v2 v3 v5 s0 s1) (fun r => Q (some (eI r.1)) r.2) → nX W (d + 6) tX13_firstBroken Q a0 e0 67 [some (eR (some (13, 0))), some (eI v1), some (eI v2), some (eI v3), some (eI v4), some (eI v5), none, none, none] [eI s0, eI s1, eR (some (3368, 0))] t bc bs := by
  intro t v1 v2 v3 v4 v5 s0 s1 H
  unfold B_X13_firstBroken_67 at H
  refine nx_iast (p := (3368, 0)) rfl rfl (Nat.le_of_ble_eq_true rfl) (Nat.le_of_ble_eq_true rfl) rfl H (fun t21 H => ?_)
  refine nx_ld rfl rfl rfl rfl ?_
  refine nx_getFix rfl rfl rfl (by decide) (by rw [hW]; rfl) rfl ?_
  refine nx_int (x := 1) rfl rfl ?_
  refine nx_ld rfl rfl rfl rfl ?_
  refine nx_if rfl rfl (by rfl) H (fun H => ?_) (fun H => ?_)
  · refine nx_int (x := 0) rfl rfl ?_
    exact TB_X13_firstBroken_88 hW    _ _ _ _ _ _ _ _ H
  refine nx_ld rfl rfl rfl rfl ?_
  refine nx_getFix rfl rfl rfl (by decide) (by rw [hW]; rfl) rfl ?_
  refine nx_ld rfl rfl rfl rfl ?_
  refine nx_iald (p := (3308, 0)) rfl rfl (Nat.le_of_ble_eq_true rfl) (Nat.le_of_ble_eq_true rfl) rfl H (fun H => ?_)
  refine nx_goto rfl rfl ?_
  exact TB_X13_firstBroken_88 hW    _ _ _ _ _ _ _ _ H
def B_X13_firstBroken_41 (t : TS) (v1 : Int32) (v2 : Int32) (v3 : Int32) (v5 : Int32) (s0 : Int32) (s1 : Int32) : Option (Int32 × TS) := (Option.bind (F_X13_findSquad t s1 s0) (fun r21 => (if v5 = 0 then (B_X13_firstBroken_67  r21 v1 v2 v3 v5 0 0) else (Option.bind (F_X13_ageOn r21 v3 (tI r21 1301 0)) (fun r22 => (B_X13_firstBroken_67  r21 v1 v2 v3 v5 r22 0))))))
theorem TB_X13_firstBroken_41 {W : NW} {d : Nat} {Q : Option NV → TS → Prop} {a0 : Nat → Nat → Nat} {e0 : Nat → Nat → Bool} {bc bs : Nat} (hW : W.2.2.2 = mm_fx) : ∀ (t : TS) (v1 : Int32) (v2 : Int32) (v3 : Int32) (v4 : Int32) (v5 : Int32) (s0 : Int32) (s1 : Int32), wp (B_X13_firstBroken_41 t v1 v2 v3 v5 s0 s1) (fun r => Q (some (eI r.1)) r.2) → nX W (d + 6) tX13_firstBroken Q a0 e0 41 [some (eR (some (13, 0))), some (eI v1), some (eI v2), some (eI v3), some (eI v4), some (eI v5), none, none, none] [eI s0, eI s1, eR (some (13, 0))] t bc bs := by
  intro t v1 v2 v3 v4 v5 s0 s1 H
  unfold B_X13_firstBroken_41 at H
  refine nx_cVVt (as := [eI s1, eI s0]) (st' := []) rfl rfl (Nat.le_of_ble_eq_true rfl) rfl rfl (Nat.le_of_ble_eq_true rfl) (c0 := 13) rfl (by decide) H (fun Q H => TF_X13_findSquad hW  H) (fun r21 H => ?_)
  refine nx_ld rfl rfl rfl rfl ?_
  refine nx_getFix rfl rfl rfl (by decide) (by rw [hW]; rfl) rfl ?_
  refine nx_int (x := 0) rfl rfl ?_
  refine nx_ld rfl rfl rfl rfl ?_
  refine nx_if rfl rfl (by rfl) H (fun H => ?_) (fun H => ?_)
  · refine nx_int (x := 0) rfl rfl ?_
    exact TB_X13_firstBroken_67 hW    _ _ _ _ _ _ _ _ H
  refine nx_ld rfl rfl rfl rfl ?_
  refine nx_ld rfl rfl rfl rfl ?_
  refine nx_ld rfl rfl rfl rfl ?_
  refine nx_getI rfl rfl rfl (by decide) ?_
  refine nx_cVI (as := [eI v3, eI (tI r21 1301 0)]) (st' := [eI 0, eR (some (3368, 0))]) rfl rfl (Nat.le_of_ble_eq_true rfl) rfl rfl (Nat.le_of_ble_eq_true rfl) (c0 := 13) rfl (by decide) H (fun Q H => TF_X13_ageOn hW  H) (fun r22 H => ?_)
  refine nx_goto rfl rfl ?_
  exact TB_X13_firstBroken_67 hW    _ _ _ _ _ _ _ _ H
def B_X13_firstBroken_27 (t : TS) (v1 : Int32) (v2 : Int32) (v3 : Int32) (v4 : Int32) (s0 : Int32) : Option (Int32 × TS) := (if v4 = 0 then (B_X13_firstBroken_41  t v1 v2 v3 s0 (-1) v2) else (B_X13_firstBroken_41  t v1 v2 v3 s0 v3 v2))
theorem TB_X13_firstBroken_27 {W : NW} {d : Nat} {Q : Option NV → TS → Prop} {a0 : Nat → Nat → Nat} {e0 : Nat → Nat → Bool} {bc bs : Nat} (hW : W.2.2.2 = mm_fx) : ∀ (t : TS) (v1 : Int32) (v2 : Int32) (v3 : Int32) (v4 : Int32) (s0 : Int32), wp (B_X13_firstBroken_27 t v1 v2 v3 v4 s0) (fun r => Q (some (eI r.1)) r.2) → nX W (d + 6) tX13_firstBroken Q a0 e0 27 [some (eR (some (13, 0))), some (eI v1), some (eI v2), some (eI v3), some (eI v4), none, none, none, none] [eI s0] t bc bs := by
  intro t v1 v2 v3 v4 s0 H
  unfold B_X13_firstBroken_27 at H
  refine nx_st (ls' := [some (eR (some (13, 0))), some (eI v1), some (eI v2), some (eI v3), some (eI v4), some (eI s0), none, none, none]) rfl rfl rfl (Nat.le_of_ble_eq_true rfl) rfl ?_
  refine nx_ld rfl rfl rfl rfl ?_
  refine nx_ld rfl rfl rfl rfl ?_
  refine nx_ld rfl rfl rfl rfl ?_
  refine nx_if rfl rfl (by rfl) H (fun H => ?_) (fun H => ?_)
  · refine nx_int (x := (-1)) rfl rfl ?_
    exact TB_X13_firstBroken_41 hW    _ _ _ _ _ _ _ _ H
  refine nx_ld rfl rfl rfl rfl ?_
  refine nx_goto rfl rfl ?_
  exact TB_X13_firstBroken_41 hW    _ _ _ _ _ _ _ _ H
def B_X13_firstBroken_26 (t : TS) (v1 : Int32) (v2 : Int32) (v3 : Int32) (v4 : Int32) : Option (Int32 × TS) := (B_X13_firstBroken_27  t v1 v2 v3 v4 0)
theorem TB_X13_firstBroken_26 {W : NW} {d : Nat} {Q : Option NV → TS → Prop} {a0 : Nat → Nat → Nat} {e0 : Nat → Nat → Bool} {bc bs : Nat} (hW : W.2.2.2 = mm_fx) : ∀ (t : TS) (v1 : Int32) (v2 : Int32) (v3 : Int32) (v4 : Int32), wp (B_X13_firstBroken_26 t v1 v2 v3 v4) (fun r => Q (some (eI r.1)) r.2) → nX W (d + 6) tX13_firstBroken Q a0 e0 26 [some (eR (some (13, 0))), some (eI v1), some (eI v2), some (eI v3), some (eI v4), none, none, none, none] [] t bc bs := by
  intro t v1 v2 v3 v4 H
  unfold B_X13_firstBroken_26 at H
  refine nx_int (x := 0) rfl rfl ?_
  exact TB_X13_firstBroken_27 hW    _ _ _ _ _ _ H
def F_X13_firstBroken (t : TS) (x1 : Int32) (x2 : Int32) (x3 : Int32) (x4 : Int32) : Option (Int32 × TS) := (if 0 ≤ x1 then (gd x1 (tL t 3356 0) (if ¬ (irm (tA t 3356 0 x1.toNatClampNeg) 10) = 0 then (B_X13_firstBroken_26  t x1 x2 x3 x4) else (if x3 < 0 then (B_X13_firstBroken_26  t x1 x2 x3 x4) else (B_X13_firstBroken_27  t x1 x2 x3 x4 1)))) else (some ((-1), t)))
theorem TF_X13_firstBroken {W : NW} {d : Nat} {t : TS} {x1 : Int32} {x2 : Int32} {x3 : Int32} {x4 : Int32} {Q : Option NV → TS → Prop} {bc bs : Nat} (hW : W.2.2.2 = mm_fx) (H : wp (F_X13_firstBroken t x1 x2 x3 x4) (fun r => Q (some (eI r.1)) r.2)) : nC W (d + 7) 231 [eR (some (13, 0)), eI x1, eI x2, eI x3, eI x4] t bc bs Q := by
  refine nC_in (d := (d + 6)) (T := tX13_firstBroken) (ls := [some (eR (some (13, 0))), some (eI x1), some (eI x2), some (eI x3), some (eI x4), none, none, none, none]) rfl (Nat.le_of_ble_eq_true rfl) rfl (fun a0 e0 => ?_)
  unfold F_X13_firstBroken at H
  refine nx_ld rfl rfl rfl rfl ?_
  refine nx_if rfl rfl (by rfl) H (fun H => ?_) (fun H => ?_)
  · refine nx_ld rfl rfl rfl rfl ?_
    refine nx_getFix rfl rfl rfl (by decide) (by rw [hW]; rfl) rfl ?_
    refine nx_ld rfl rfl rfl rfl ?_
    refine nx_iald (p := (3356, 0)) rfl rfl (Nat.le_of_ble_eq_true rfl) (Nat.le_of_ble_eq_true rfl) rfl H (fun H => ?_)
    refine nx_int (x := 10) rfl rfl ?_
    refine nx_idivL rfl rfl (by decide) ?_
    refine nx_if rfl rfl (by rfl) H (fun H => ?_) (fun H => ?_)
    · exact TB_X13_firstBroken_26 hW    _ _ _ _ _ H
    refine nx_ld rfl rfl rfl rfl ?_
    refine nx_if rfl rfl (by rfl) H (fun H => ?_) (fun H => ?_)
    · exact TB_X13_firstBroken_26 hW    _ _ _ _ _ H
    refine nx_int (x := 1) rfl rfl ?_
    refine nx_goto rfl rfl ?_
    exact TB_X13_firstBroken_27 hW    _ _ _ _ _ _ H
  refine nx_int (x := (-1)) rfl rfl ?_
  exact nx_rit rfl rfl H
def B_X13_whyNot_263 (k23 : TS → Int32 → Int32 → Int32 → Int32 → Int32 → Int32 → Int32 → Int32 → Option (Int32 × TS)) (t : TS) (v1 : Int32) (v2 : Int32) (v3 : Int32) (v4 : Int32) (v6 : Int32) (v7 : Int32) (v8 : Int32) (v9 : Int32) (v10 : Int32) : Option (Int32 × TS) := (if v10 = 0 then (k23 t v1 v2 v3 v4 v6 v7 v8 (v9 + 1)) else (some (v9, t)))
theorem TB_X13_whyNot_263 {W : NW} {d : Nat} {Q : Option NV → TS → Prop} {a0 : Nat → Nat → Nat} {e0 : Nat → Nat → Bool} {k23 : TS → Int32 → Int32 → Int32 → Int32 → Int32 → Int32 → Int32 → Int32 → Option (Int32 × TS)} {bc bs : Nat} (hW : W.2.2.2 = mm_fx) (hk23 : ∀ (t : TS) (v1 : Int32) (v2 : Int32) (v3 : Int32) (v4 : Int32) (v5 : Int32) (v6 : Int32) (v7 : Int32) (v8 : Int32) (v9 : Int32) (v10 : Option NV), wp (k23 t v1 v2 v3 v4 v6 v7 v8 v9) (fun r => Q (some (eI r.1)) r.2) → nX W (d + 7) tX13_whyNot Q a0 e0 23 [some (eR (some (13, 0))), some (eI v1), some (eI v2), some (eI v3), some (eI v4), some (eI v5), some (eI v6), some (eI v7), some (eI v8), some (eI v9), v10] [] t bc bs) : ∀ (t : TS) (v1 : Int32) (v2 : Int32) (v3 : Int32) (v4 : Int32) (v5 : Int32) (v6 : Int32) (v7 : Int32) (v8 : Int32) (v9 : Int32) (v10 : Int32), wp (B_X13_whyNot_263 k23 t v1 v2 v3 v4 v6 v7 v8 v9 v10) (fun r => Q (some (eI r.1)) r.2) → nX W (d + 7) tX13_whyNot Q a0 e0 263 [some (eR (some (13, 0))), some (eI v1), some (eI v2), some (eI v3), some (eI v4), some (eI v5), some (eI v6), some (eI v7), some (eI v8), some (eI v9), some (eI v10)] [] t bc bs := by
  intro t v1 v2 v3 v4 v5 v6 v7 v8 v9 v10 H
  unfold B_X13_whyNot_263 at H
  refine nx_ld rfl rfl rfl rfl ?_
  refine nx_if rfl rfl (by rfl) H (fun H => ?_) (fun H => ?_)
  · refine nx_iinc2 1 (ls' := [some (eR (some (13, 0))), some (eI v1), some (eI v2), some (eI v3), some (eI v4), some (eI v5), some (eI v6), some (eI v7), some (eI v8), some (eI (v9 + 1)), some (eI v10)]) rfl rfl rfl rfl rfl ?_
    refine nx_goto rfl rfl ?_
    exact hk23 _ _ _ _ _ _ _ _ _ _ _ H
  refine nx_ld rfl rfl rfl rfl ?_
  exact nx_rit rfl rfl H
def B_X13_whyNot_261 (k23 : TS → Int32 → Int32 → Int32 → Int32 → Int32 → Int32 → Int32 → Int32 → Option (Int32 × TS)) (t : TS) (v1 : Int32) (v2 : Int32) (v3 : Int32) (v4 : Int32) (v6 : Int32) (v7 : Int32) (v8 : Int32) (v9 : Int32) (s0 : Int32) : Option (Int32 × TS) := (B_X13_whyNot_263 k23 t v1 v2 v3 v4 v6 v7 v8 v9 s0)
theorem TB_X13_whyNot_261 {W : NW} {d : Nat} {Q : Option NV → TS → Prop} {a0 : Nat → Nat → Nat} {e0 : Nat → Nat → Bool} {k23 : TS → Int32 → Int32 → Int32 → Int32 → Int32 → Int32 → Int32 → Int32 → Option (Int32 × TS)} {bc bs : Nat} (hW : W.2.2.2 = mm_fx) (hk23 : ∀ (t : TS) (v1 : Int32) (v2 : Int32) (v3 : Int32) (v4 : Int32) (v5 : Int32) (v6 : Int32) (v7 : Int32) (v8 : Int32) (v9 : Int32) (v10 : Option NV), wp (k23 t v1 v2 v3 v4 v6 v7 v8 v9) (fun r => Q (some (eI r.1)) r.2) → nX W (d + 7) tX13_whyNot Q a0 e0 23 [some (eR (some (13, 0))), some (eI v1), some (eI v2), some (eI v3), some (eI v4), some (eI v5), some (eI v6), some (eI v7), some (eI v8), some (eI v9), v10] [] t bc bs) : ∀ (t : TS) (v1 : Int32) (v2 : Int32) (v3 : Int32) (v4 : Int32) (v5 : Int32) (v6 : Int32) (v7 : Int32) (v8 : Int32) (v9 : Int32) (v10 : Option NV) (s0 : Int32), wp (B_X13_whyNot_261 k23 t v1 v2 v3 v4 v6 v7 v8 v9 s0) (fun r => Q (some (eI r.1)) r.2) → nX W (d + 7) tX13_whyNot Q a0 e0 261 [some (eR (some (13, 0))), some (eI v1), some (eI v2), some (eI v3), some (eI v4), some (eI v5), some (eI v6), some (eI v7), some (eI v8), some (eI v9), v10] [eI s0] t bc bs := by
  intro t v1 v2 v3 v4 v5 v6 v7 v8 v9 v10 s0 H
  unfold B_X13_whyNot_261 at H
  refine nx_st (ls' := [some (eR (some (13, 0))), some (eI v1), some (eI v2), some (eI v3), some (eI v4), some (eI v5), some (eI v6), some (eI v7), some (eI v8), some (eI v9), some (eI s0)]) rfl rfl rfl (Nat.le_of_ble_eq_true rfl) rfl ?_
  exact TB_X13_whyNot_263 hW   hk23 _ _ _ _ _ _ _ _ _ _ _ H
def B_X13_whyNot_117 (k23 : TS → Int32 → Int32 → Int32 → Int32 → Int32 → Int32 → Int32 → Int32 → Option (Int32 × TS)) (t : TS) (v1 : Int32) (v2 : Int32) (v3 : Int32) (v4 : Int32) (v6 : Int32) (v7 : Int32) (v8 : Int32) (v9 : Int32) (s0 : Int32) : Option (Int32 × TS) := (B_X13_whyNot_263 k23 t v1 v2 v3 v4 v6 v7 v8 v9 s0)
theorem TB_X13_whyNot_117 {W : NW} {d : Nat} {Q : Option NV → TS → Prop} {a0 : Nat → Nat → Nat} {e0 : Nat → Nat → Bool} {k23 : TS → Int32 → Int32 → Int32 → Int32 → Int32 → Int32 → Int32 → Int32 → Option (Int32 × TS)} {bc bs : Nat} (hW : W.2.2.2 = mm_fx) (hk23 : ∀ (t : TS) (v1 : Int32) (v2 : Int32) (v3 : Int32) (v4 : Int32) (v5 : Int32) (v6 : Int32) (v7 : Int32) (v8 : Int32) (v9 : Int32) (v10 : Option NV), wp (k23 t v1 v2 v3 v4 v6 v7 v8 v9) (fun r => Q (some (eI r.1)) r.2) → nX W (d + 7) tX13_whyNot Q a0 e0 23 [some (eR (some (13, 0))), some (eI v1), some (eI v2), some (eI v3), some (eI v4), some (eI v5), some (eI v6), some (eI v7), some (eI v8), some (eI v9), v10] [] t bc bs) : ∀ (t : TS) (v1 : Int32) (v2 : Int32) (v3 : Int32) (v4 : Int32) (v5 : Int32) (v6 : Int32) (v7 : Int32) (v8 : Int32) (v9 : Int32) (v10 : Option NV) (s0 : Int32), wp (B_X13_whyNot_117 k23 t v1 v2 v3 v4 v6 v7 v8 v9 s0) (fun r => Q (some (eI r.1)) r.2) → nX W (d + 7) tX13_whyNot Q a0 e0 117 [some (eR (some (13, 0))), some (eI v1), some (eI v2), some (eI v3), some (eI v4), some (eI v5), some (eI v6), some (eI v7), some (eI v8), some (eI v9), v10] [eI s0] t bc bs := by
  intro t v1 v2 v3 v4 v5 v6 v7 v8 v9 v10 s0 H
  unfold B_X13_whyNot_117 at H
  refine nx_st (ls' := [some (eR (some (13, 0))), some (eI v1), some (eI v2), some (eI v3), some (eI v4), some (eI v5), some (eI v6), some (eI v7), some (eI v8), some (eI v9), some (eI s0)]) rfl rfl rfl (Nat.le_of_ble_eq_true rfl) rfl ?_
  refine nx_goto rfl rfl ?_
  exact TB_X13_whyNot_263 hW   hk23 _ _ _ _ _ _ _ _ _ _ _ H
def B_X13_whyNot_112 (k23 : TS → Int32 → Int32 → Int32 → Int32 → Int32 → Int32 → Int32 → Int32 → Option (Int32 × TS)) (t : TS) (v1 : Int32) (v2 : Int32) (v3 : Int32) (v4 : Int32) (v6 : Int32) (v7 : Int32) (v8 : Int32) (v9 : Int32) : Option (Int32 × TS) := (B_X13_whyNot_117 k23 t v1 v2 v3 v4 v6 v7 v8 v9 1)
theorem TB_X13_whyNot_112 {W : NW} {d : Nat} {Q : Option NV → TS → Prop} {a0 : Nat → Nat → Nat} {e0 : Nat → Nat → Bool} {k23 : TS → Int32 → Int32 → Int32 → Int32 → Int32 → Int32 → Int32 → Int32 → Option (Int32 × TS)} {bc bs : Nat} (hW : W.2.2.2 = mm_fx) (hk23 : ∀ (t : TS) (v1 : Int32) (v2 : Int32) (v3 : Int32) (v4 : Int32) (v5 : Int32) (v6 : Int32) (v7 : Int32) (v8 : Int32) (v9 : Int32) (v10 : Option NV), wp (k23 t v1 v2 v3 v4 v6 v7 v8 v9) (fun r => Q (some (eI r.1)) r.2) → nX W (d + 7) tX13_whyNot Q a0 e0 23 [some (eR (some (13, 0))), some (eI v1), some (eI v2), some (eI v3), some (eI v4), some (eI v5), some (eI v6), some (eI v7), some (eI v8), some (eI v9), v10] [] t bc bs) : ∀ (t : TS) (v1 : Int32) (v2 : Int32) (v3 : Int32) (v4 : Int32) (v5 : Int32) (v6 : Int32) (v7 : Int32) (v8 : Int32) (v9 : Int32) (v10 : Option NV), wp (B_X13_whyNot_112 k23 t v1 v2 v3 v4 v6 v7 v8 v9) (fun r => Q (some (eI r.1)) r.2) → nX W (d + 7) tX13_whyNot Q a0 e0 112 [some (eR (some (13, 0))), some (eI v1), some (eI v2), some (eI v3), some (eI v4), some (eI v5), some (eI v6), some (eI v7), some (eI v8), some (eI v9), v10] [] t bc bs := by
  intro t v1 v2 v3 v4 v5 v6 v7 v8 v9 v10 H
  unfold B_X13_whyNot_112 at H
  refine nx_int (x := 1) rfl rfl ?_
  refine nx_goto rfl rfl ?_
  exact TB_X13_whyNot_117 hW   hk23 _ _ _ _ _ _ _ _ _ _ _ _ H
def B_X13_whyNot_116 (k23 : TS → Int32 → Int32 → Int32 → Int32 → Int32 → Int32 → Int32 → Int32 → Option (Int32 × TS)) (t : TS) (v1 : Int32) (v2 : Int32) (v3 : Int32) (v4 : Int32) (v6 : Int32) (v7 : Int32) (v8 : Int32) (v9 : Int32) : Option (Int32 × TS) := (B_X13_whyNot_117 k23 t v1 v2 v3 v4 v6 v7 v8 v9 0)
theorem TB_X13_whyNot_116 {W : NW} {d : Nat} {Q : Option NV → TS → Prop} {a0 : Nat → Nat → Nat} {e0 : Nat → Nat → Bool} {k23 : TS → Int32 → Int32 → Int32 → Int32 → Int32 → Int32 → Int32 → Int32 → Option (Int32 × TS)} {bc bs : Nat} (hW : W.2.2.2 = mm_fx) (hk23 : ∀ (t : TS) (v1 : Int32) (v2 : Int32) (v3 : Int32) (v4 : Int32) (v5 : Int32) (v6 : Int32) (v7 : Int32) (v8 : Int32) (v9 : Int32) (v10 : Option NV), wp (k23 t v1 v2 v3 v4 v6 v7 v8 v9) (fun r => Q (some (eI r.1)) r.2) → nX W (d + 7) tX13_whyNot Q a0 e0 23 [some (eR (some (13, 0))), some (eI v1), some (eI v2), some (eI v3), some (eI v4), some (eI v5), some (eI v6), some (eI v7), some (eI v8), some (eI v9), v10] [] t bc bs) : ∀ (t : TS) (v1 : Int32) (v2 : Int32) (v3 : Int32) (v4 : Int32) (v5 : Int32) (v6 : Int32) (v7 : Int32) (v8 : Int32) (v9 : Int32) (v10 : Option NV), wp (B_X13_whyNot_116 k23 t v1 v2 v3 v4 v6 v7 v8 v9) (fun r => Q (some (eI r.1)) r.2) → nX W (d + 7) tX13_whyNot Q a0 e0 116 [some (eR (some (13, 0))), some (eI v1), some (eI v2), some (eI v3), some (eI v4), some (eI v5), some (eI v6), some (eI v7), some (eI v8), some (eI v9), v10] [] t bc bs := by
  intro t v1 v2 v3 v4 v5 v6 v7 v8 v9 v10 H
  unfold B_X13_whyNot_116 at H
  refine nx_int (x := 0) rfl rfl ?_
  exact TB_X13_whyNot_117 hW   hk23 _ _ _ _ _ _ _ _ _ _ _ _ H
def B_X13_whyNot_140 (k23 : TS → Int32 → Int32 → Int32 → Int32 → Int32 → Int32 → Int32 → Int32 → Option (Int32 × TS)) (t : TS) (v1 : Int32) (v2 : Int32) (v3 : Int32) (v4 : Int32) (v6 : Int32) (v7 : Int32) (v8 : Int32) (v9 : Int32) (s0 : Int32) : Option (Int32 × TS) := (B_X13_whyNot_263 k23 t v1 v2 v3 v4 v6 v7 v8 v9 s0)
theorem TB_X13_whyNot_140 {W : NW} {d : Nat} {Q : Option NV → TS → Prop} {a0 : Nat → Nat → Nat} {e0 : Nat → Nat → Bool} {k23 : TS → Int32 → Int32 → Int32 → Int32 → Int32 → Int32 → Int32 → Int32 → Option (Int32 × TS)} {bc bs : Nat} (hW : W.2.2.2 = mm_fx) (hk23 : ∀ (t : TS) (v1 : Int32) (v2 : Int32) (v3 : Int32) (v4 : Int32) (v5 : Int32) (v6 : Int32) (v7 : Int32) (v8 : Int32) (v9 : Int32) (v10 : Option NV), wp (k23 t v1 v2 v3 v4 v6 v7 v8 v9) (fun r => Q (some (eI r.1)) r.2) → nX W (d + 7) tX13_whyNot Q a0 e0 23 [some (eR (some (13, 0))), some (eI v1), some (eI v2), some (eI v3), some (eI v4), some (eI v5), some (eI v6), some (eI v7), some (eI v8), some (eI v9), v10] [] t bc bs) : ∀ (t : TS) (v1 : Int32) (v2 : Int32) (v3 : Int32) (v4 : Int32) (v5 : Int32) (v6 : Int32) (v7 : Int32) (v8 : Int32) (v9 : Int32) (v10 : Option NV) (s0 : Int32), wp (B_X13_whyNot_140 k23 t v1 v2 v3 v4 v6 v7 v8 v9 s0) (fun r => Q (some (eI r.1)) r.2) → nX W (d + 7) tX13_whyNot Q a0 e0 140 [some (eR (some (13, 0))), some (eI v1), some (eI v2), some (eI v3), some (eI v4), some (eI v5), some (eI v6), some (eI v7), some (eI v8), some (eI v9), v10] [eI s0] t bc bs := by
  intro t v1 v2 v3 v4 v5 v6 v7 v8 v9 v10 s0 H
  unfold B_X13_whyNot_140 at H
  refine nx_st (ls' := [some (eR (some (13, 0))), some (eI v1), some (eI v2), some (eI v3), some (eI v4), some (eI v5), some (eI v6), some (eI v7), some (eI v8), some (eI v9), some (eI s0)]) rfl rfl rfl (Nat.le_of_ble_eq_true rfl) rfl ?_
  refine nx_goto rfl rfl ?_
  exact TB_X13_whyNot_263 hW   hk23 _ _ _ _ _ _ _ _ _ _ _ H
def B_X13_whyNot_164 (k23 : TS → Int32 → Int32 → Int32 → Int32 → Int32 → Int32 → Int32 → Int32 → Option (Int32 × TS)) (t : TS) (v1 : Int32) (v2 : Int32) (v3 : Int32) (v4 : Int32) (v6 : Int32) (v7 : Int32) (v8 : Int32) (v9 : Int32) (s0 : Int32) : Option (Int32 × TS) := (B_X13_whyNot_263 k23 t v1 v2 v3 v4 v6 v7 v8 v9 s0)
theorem TB_X13_whyNot_164 {W : NW} {d : Nat} {Q : Option NV → TS → Prop} {a0 : Nat → Nat → Nat} {e0 : Nat → Nat → Bool} {k23 : TS → Int32 → Int32 → Int32 → Int32 → Int32 → Int32 → Int32 → Int32 → Option (Int32 × TS)} {bc bs : Nat} (hW : W.2.2.2 = mm_fx) (hk23 : ∀ (t : TS) (v1 : Int32) (v2 : Int32) (v3 : Int32) (v4 : Int32) (v5 : Int32) (v6 : Int32) (v7 : Int32) (v8 : Int32) (v9 : Int32) (v10 : Option NV), wp (k23 t v1 v2 v3 v4 v6 v7 v8 v9) (fun r => Q (some (eI r.1)) r.2) → nX W (d + 7) tX13_whyNot Q a0 e0 23 [some (eR (some (13, 0))), some (eI v1), some (eI v2), some (eI v3), some (eI v4), some (eI v5), some (eI v6), some (eI v7), some (eI v8), some (eI v9), v10] [] t bc bs) : ∀ (t : TS) (v1 : Int32) (v2 : Int32) (v3 : Int32) (v4 : Int32) (v5 : Int32) (v6 : Int32) (v7 : Int32) (v8 : Int32) (v9 : Int32) (v10 : Option NV) (s0 : Int32), wp (B_X13_whyNot_164 k23 t v1 v2 v3 v4 v6 v7 v8 v9 s0) (fun r => Q (some (eI r.1)) r.2) → nX W (d + 7) tX13_whyNot Q a0 e0 164 [some (eR (some (13, 0))), some (eI v1), some (eI v2), some (eI v3), some (eI v4), some (eI v5), some (eI v6), some (eI v7), some (eI v8), some (eI v9), v10] [eI s0] t bc bs := by
  intro t v1 v2 v3 v4 v5 v6 v7 v8 v9 v10 s0 H
  unfold B_X13_whyNot_164 at H
  refine nx_st (ls' := [some (eR (some (13, 0))), some (eI v1), some (eI v2), some (eI v3), some (eI v4), some (eI v5), some (eI v6), some (eI v7), some (eI v8), some (eI v9), some (eI s0)]) rfl rfl rfl (Nat.le_of_ble_eq_true rfl) rfl ?_
  refine nx_goto rfl rfl ?_
  exact TB_X13_whyNot_263 hW   hk23 _ _ _ _ _ _ _ _ _ _ _ H
def B_X13_whyNot_201 (k23 : TS → Int32 → Int32 → Int32 → Int32 → Int32 → Int32 → Int32 → Int32 → Option (Int32 × TS)) (t : TS) (v1 : Int32) (v2 : Int32) (v3 : Int32) (v4 : Int32) (v6 : Int32) (v7 : Int32) (v8 : Int32) (v9 : Int32) (s0 : Int32) : Option (Int32 × TS) := (B_X13_whyNot_263 k23 t v1 v2 v3 v4 v6 v7 v8 v9 s0)
theorem TB_X13_whyNot_201 {W : NW} {d : Nat} {Q : Option NV → TS → Prop} {a0 : Nat → Nat → Nat} {e0 : Nat → Nat → Bool} {k23 : TS → Int32 → Int32 → Int32 → Int32 → Int32 → Int32 → Int32 → Int32 → Option (Int32 × TS)} {bc bs : Nat} (hW : W.2.2.2 = mm_fx) (hk23 : ∀ (t : TS) (v1 : Int32) (v2 : Int32) (v3 : Int32) (v4 : Int32) (v5 : Int32) (v6 : Int32) (v7 : Int32) (v8 : Int32) (v9 : Int32) (v10 : Option NV), wp (k23 t v1 v2 v3 v4 v6 v7 v8 v9) (fun r => Q (some (eI r.1)) r.2) → nX W (d + 7) tX13_whyNot Q a0 e0 23 [some (eR (some (13, 0))), some (eI v1), some (eI v2), some (eI v3), some (eI v4), some (eI v5), some (eI v6), some (eI v7), some (eI v8), some (eI v9), v10] [] t bc bs) : ∀ (t : TS) (v1 : Int32) (v2 : Int32) (v3 : Int32) (v4 : Int32) (v5 : Int32) (v6 : Int32) (v7 : Int32) (v8 : Int32) (v9 : Int32) (v10 : Option NV) (s0 : Int32), wp (B_X13_whyNot_201 k23 t v1 v2 v3 v4 v6 v7 v8 v9 s0) (fun r => Q (some (eI r.1)) r.2) → nX W (d + 7) tX13_whyNot Q a0 e0 201 [some (eR (some (13, 0))), some (eI v1), some (eI v2), some (eI v3), some (eI v4), some (eI v5), some (eI v6), some (eI v7), some (eI v8), some (eI v9), v10] [eI s0] t bc bs := by
  intro t v1 v2 v3 v4 v5 v6 v7 v8 v9 v10 s0 H
  unfold B_X13_whyNot_201 at H
  refine nx_st (ls' := [some (eR (some (13, 0))), some (eI v1), some (eI v2), some (eI v3), some (eI v4), some (eI v5), some (eI v6), some (eI v7), some (eI v8), some (eI v9), some (eI s0)]) rfl rfl rfl (Nat.le_of_ble_eq_true rfl) rfl ?_
  refine nx_goto rfl rfl ?_
  exact TB_X13_whyNot_263 hW   hk23 _ _ _ _ _ _ _ _ _ _ _ H
def B_X13_whyNot_222 (k23 : TS → Int32 → Int32 → Int32 → Int32 → Int32 → Int32 → Int32 → Int32 → Option (Int32 × TS)) (t : TS) (v1 : Int32) (v2 : Int32) (v3 : Int32) (v4 : Int32) (v6 : Int32) (v7 : Int32) (v8 : Int32) (v9 : Int32) (s0 : Int32) : Option (Int32 × TS) := (B_X13_whyNot_263 k23 t v1 v2 v3 v4 v6 v7 v8 v9 s0)
theorem TB_X13_whyNot_222 {W : NW} {d : Nat} {Q : Option NV → TS → Prop} {a0 : Nat → Nat → Nat} {e0 : Nat → Nat → Bool} {k23 : TS → Int32 → Int32 → Int32 → Int32 → Int32 → Int32 → Int32 → Int32 → Option (Int32 × TS)} {bc bs : Nat} (hW : W.2.2.2 = mm_fx) (hk23 : ∀ (t : TS) (v1 : Int32) (v2 : Int32) (v3 : Int32) (v4 : Int32) (v5 : Int32) (v6 : Int32) (v7 : Int32) (v8 : Int32) (v9 : Int32) (v10 : Option NV), wp (k23 t v1 v2 v3 v4 v6 v7 v8 v9) (fun r => Q (some (eI r.1)) r.2) → nX W (d + 7) tX13_whyNot Q a0 e0 23 [some (eR (some (13, 0))), some (eI v1), some (eI v2), some (eI v3), some (eI v4), some (eI v5), some (eI v6), some (eI v7), some (eI v8), some (eI v9), v10] [] t bc bs) : ∀ (t : TS) (v1 : Int32) (v2 : Int32) (v3 : Int32) (v4 : Int32) (v5 : Int32) (v6 : Int32) (v7 : Int32) (v8 : Int32) (v9 : Int32) (v10 : Option NV) (s0 : Int32), wp (B_X13_whyNot_222 k23 t v1 v2 v3 v4 v6 v7 v8 v9 s0) (fun r => Q (some (eI r.1)) r.2) → nX W (d + 7) tX13_whyNot Q a0 e0 222 [some (eR (some (13, 0))), some (eI v1), some (eI v2), some (eI v3), some (eI v4), some (eI v5), some (eI v6), some (eI v7), some (eI v8), some (eI v9), v10] [eI s0] t bc bs := by
  intro t v1 v2 v3 v4 v5 v6 v7 v8 v9 v10 s0 H
  unfold B_X13_whyNot_222 at H
  refine nx_st (ls' := [some (eR (some (13, 0))), some (eI v1), some (eI v2), some (eI v3), some (eI v4), some (eI v5), some (eI v6), some (eI v7), some (eI v8), some (eI v9), some (eI s0)]) rfl rfl rfl (Nat.le_of_ble_eq_true rfl) rfl ?_
  refine nx_goto rfl rfl ?_
  exact TB_X13_whyNot_263 hW   hk23 _ _ _ _ _ _ _ _ _ _ _ H
def BB_X13_whyNot_23 (k23 : TS → Int32 → Int32 → Int32 → Int32 → Int32 → Int32 → Int32 → Int32 → Option (Int32 × TS)) (t : TS) (v1 : Int32) (v2 : Int32) (v3 : Int32) (v4 : Int32) (v6 : Int32) (v7 : Int32) (v8 : Int32) (v9 : Int32) : Option (Int32 × TS) := (if v6 < v9 then (some (0, t)) else (swi v9 1 [(Option.bind (F_X13_ownerOn t v1 (tI t 1301 0)) (fun r25 => (if r25 = v2 then (B_X13_whyNot_112 k23 t v1 v2 v3 v4 v6 v7 v8 v9) else (if v7 < 0 then (B_X13_whyNot_116 k23 t v1 v2 v3 v4 v6 v7 v8 v9) else (gd v7 (tL t 3321 0) (if ¬ (tA t 3321 0 v7.toNatClampNeg) = 2 then (B_X13_whyNot_116 k23 t v1 v2 v3 v4 v6 v7 v8 v9) else (if ¬ v3 = 0 then (B_X13_whyNot_112 k23 t v1 v2 v3 v4 v6 v7 v8 v9) else (gd v7 (tL t 3318 0) (if (tA t 3318 0 v7.toNatClampNeg) = v2 then (B_X13_whyNot_116 k23 t v1 v2 v3 v4 v6 v7 v8 v9) else (B_X13_whyNot_112 k23 t v1 v2 v3 v4 v6 v7 v8 v9)))))))))), (Option.bind (F_X13_isOpen t v8 (tI t 1301 0)) (fun r26 => (if ¬ r26 = 0 then (B_X13_whyNot_140 k23 t v1 v2 v3 v4 v6 v7 v8 v9 0) else (B_X13_whyNot_140 k23 t v1 v2 v3 v4 v6 v7 v8 v9 1)))), (gd v8 (tL t 3306 0) (if (tI t 1302 0) ≤ (tA t 3306 0 v8.toNatClampNeg) then (B_X13_whyNot_164 k23 t v1 v2 v3 v4 v6 v7 v8 v9 0) else (B_X13_whyNot_164 k23 t v1 v2 v3 v4 v6 v7 v8 v9 1))), (Option.bind (F_X13_forceOf t (10 * v8) (tI t 1301 0) (tI t 1301 0)) (fun r27 => (ob2 (F_X13_firstBroken t r27 v2 v1 0) (fun x29 t30 => (if x29 < 0 then (B_X13_whyNot_201 k23 t30 v1 v2 v3 v4 v6 v7 v8 v9 0) else (B_X13_whyNot_201 k23 t30 v1 v2 v3 v4 v6 v7 v8 v9 1)))))), (gd v2 (tL t 3310 0) (if v4 ≤ (tA t 3310 0 v2.toNatClampNeg) then (B_X13_whyNot_222 k23 t v1 v2 v3 v4 v6 v7 v8 v9 0) else (B_X13_whyNot_222 k23 t v1 v2 v3 v4 v6 v7 v8 v9 1)))] (Option.bind (F_X13_forceOf t ((10 * v8) + 1) (tI t 1301 0) (tI t 1301 0)) (fun r21 => (ob2 (F_X13_firstBroken t r21 v2 v1 1) (fun x23 t24 => (if x23 < 0 then (B_X13_whyNot_261 k23 t24 v1 v2 v3 v4 v6 v7 v8 v9 0) else (B_X13_whyNot_261 k23 t24 v1 v2 v3 v4 v6 v7 v8 v9 1))))))))
theorem TBB_X13_whyNot_23 {W : NW} {d : Nat} {Q : Option NV → TS → Prop} {a0 : Nat → Nat → Nat} {e0 : Nat → Nat → Bool} {k23 : TS → Int32 → Int32 → Int32 → Int32 → Int32 → Int32 → Int32 → Int32 → Option (Int32 × TS)} {bc bs : Nat} (hW : W.2.2.2 = mm_fx) (hk23 : ∀ (t : TS) (v1 : Int32) (v2 : Int32) (v3 : Int32) (v4 : Int32) (v5 : Int32) (v6 : Int32) (v7 : Int32) (v8 : Int32) (v9 : Int32) (v10 : Option NV), wp (k23 t v1 v2 v3 v4 v6 v7 v8 v9) (fun r => Q (some (eI r.1)) r.2) → nX W (d + 7) tX13_whyNot Q a0 e0 23 [some (eR (some (13, 0))), some (eI v1), some (eI v2), some (eI v3), some (eI v4), some (eI v5), some (eI v6), some (eI v7), some (eI v8), some (eI v9), v10] [] t bc bs) : ∀ (t : TS) (v1 : Int32) (v2 : Int32) (v3 : Int32) (v4 : Int32) (v5 : Int32) (v6 : Int32) (v7 : Int32) (v8 : Int32) (v9 : Int32) (v10 : Option NV), wp (BB_X13_whyNot_23 k23 t v1 v2 v3 v4 v6 v7 v8 v9) (fun r => Q (some (eI r.1)) r.2) → nX W (d + 7) tX13_whyNot Q a0 e0 23 [some (eR (some (13, 0))), some (eI v1), some (eI v2), some (eI v3), some (eI v4), some (eI v5), some (eI v6), some (eI v7), some (eI v8), some (eI v9), v10] [] t bc bs := by
  intro t v1 v2 v3 v4 v5 v6 v7 v8 v9 v10 H
  unfold BB_X13_whyNot_23 at H
  refine nx_ld rfl rfl rfl rfl ?_
  refine nx_ld rfl rfl rfl rfl ?_
  refine nx_icmp rfl rfl (by rfl) H (fun H => ?_) (fun H => ?_)
  · refine nx_int (x := 0) rfl rfl ?_
    exact nx_rit rfl rfl H
  refine nx_ld rfl rfl rfl rfl ?_
  refine nx_tsw rfl rfl (by decide) (by decide) (by decide) H (fun H => ?_) ?_
  · show nX _ _ _ _ _ _ 227 _ _ _ _ _
    refine nx_ld rfl rfl rfl rfl ?_
    refine nx_ld rfl rfl rfl rfl ?_
    refine nx_int (x := 10) rfl rfl ?_
    refine nx_ld rfl rfl rfl rfl ?_
    refine nx_ii rfl rfl ?_
    refine nx_int (x := 1) rfl rfl ?_
    refine nx_ii rfl rfl ?_
    show nX _ _ _ _ _ _ 236 _ _ _ _ _
    refine nx_ld rfl rfl rfl rfl ?_
    refine nx_getI rfl rfl rfl (by decide) ?_
    refine nx_ld rfl rfl rfl rfl ?_
    refine nx_getI rfl rfl rfl (by decide) ?_
    refine nx_cVI (as := [eI ((10 * v8) + 1), eI (tI t 1301 0), eI (tI t 1301 0)]) (st' := [eR (some (13, 0))]) rfl rfl (Nat.le_of_ble_eq_true rfl) rfl rfl (Nat.le_of_ble_eq_true rfl) (c0 := 13) rfl (by decide) H (fun Q H => TF_X13_forceOf hW  H) (fun r21 H => ?_)
    refine nx_ld rfl rfl rfl rfl ?_
    refine nx_ld rfl rfl rfl rfl ?_
    refine nx_int (x := 1) rfl rfl ?_
    show nX _ _ _ _ _ _ 250 _ _ _ _ _
    refine nx_cVI2 (as := [eI r21, eI v2, eI v1, eI 1]) (st' := []) rfl rfl (Nat.le_of_ble_eq_true rfl) rfl rfl (Nat.le_of_ble_eq_true rfl) (c0 := 13) rfl (by decide) H (fun Q H => TF_X13_firstBroken hW  H) (fun x23 t24 H => ?_)
    refine nx_if rfl rfl (by rfl) H (fun H => ?_) (fun H => ?_)
    · refine nx_int (x := 0) rfl rfl ?_
      exact TB_X13_whyNot_261 hW   hk23 _ _ _ _ _ _ _ _ _ _ _ _ H
    refine nx_int (x := 1) rfl rfl ?_
    refine nx_goto rfl rfl ?_
    exact TB_X13_whyNot_261 hW   hk23 _ _ _ _ _ _ _ _ _ _ _ _ H
  refine ⟨fun H => ?_, fun H => ?_, fun H => ?_, fun H => ?_, fun H => ?_, trivial⟩
  · show nX _ _ _ _ _ _ 68 _ _ _ _ _
    refine nx_ld rfl rfl rfl rfl ?_
    refine nx_ld rfl rfl rfl rfl ?_
    refine nx_ld rfl rfl rfl rfl ?_
    refine nx_getI rfl rfl rfl (by decide) ?_
    refine nx_cVI (as := [eI v1, eI (tI t 1301 0)]) (st' := []) rfl rfl (Nat.le_of_ble_eq_true rfl) rfl rfl (Nat.le_of_ble_eq_true rfl) (c0 := 13) rfl (by decide) H (fun Q H => TF_X13_ownerOn hW  H) (fun r25 H => ?_)
    refine nx_ld rfl rfl rfl rfl ?_
    refine nx_icmp rfl rfl (by rfl) H (fun H => ?_) (fun H => ?_)
    · exact TB_X13_whyNot_112 hW   hk23 _ _ _ _ _ _ _ _ _ _ _ H
    refine nx_ld rfl rfl rfl rfl ?_
    refine nx_if rfl rfl (by rfl) H (fun H => ?_) (fun H => ?_)
    · exact TB_X13_whyNot_116 hW   hk23 _ _ _ _ _ _ _ _ _ _ _ H
    refine nx_ld rfl rfl rfl rfl ?_
    refine nx_getFix rfl rfl rfl (by decide) (by rw [hW]; rfl) rfl ?_
    refine nx_ld rfl rfl rfl rfl ?_
    refine nx_iald (p := (3321, 0)) rfl rfl (Nat.le_of_ble_eq_true rfl) (Nat.le_of_ble_eq_true rfl) rfl H (fun H => ?_)
    refine nx_int (x := 2) rfl rfl ?_
    refine nx_icmp rfl rfl (by rfl) H (fun H => ?_) (fun H => ?_)
    · exact TB_X13_whyNot_116 hW   hk23 _ _ _ _ _ _ _ _ _ _ _ H
    refine nx_ld rfl rfl rfl rfl ?_
    refine nx_if rfl rfl (by rfl) H (fun H => ?_) (fun H => ?_)
    · exact TB_X13_whyNot_112 hW   hk23 _ _ _ _ _ _ _ _ _ _ _ H
    refine nx_ld rfl rfl rfl rfl ?_
    refine nx_getFix rfl rfl rfl (by decide) (by rw [hW]; rfl) rfl ?_
    refine nx_ld rfl rfl rfl rfl ?_
    refine nx_iald (p := (3318, 0)) rfl rfl (Nat.le_of_ble_eq_true rfl) (Nat.le_of_ble_eq_true rfl) rfl H (fun H => ?_)
    refine nx_ld rfl rfl rfl rfl ?_
    refine nx_icmp rfl rfl (by rfl) H (fun H => ?_) (fun H => ?_)
    · exact TB_X13_whyNot_116 hW   hk23 _ _ _ _ _ _ _ _ _ _ _ H
    exact TB_X13_whyNot_112 hW   hk23 _ _ _ _ _ _ _ _ _ _ _ H
  · show nX _ _ _ _ _ _ 122 _ _ _ _ _
    refine nx_ld rfl rfl rfl rfl ?_
    refine nx_ld rfl rfl rfl rfl ?_
    refine nx_ld rfl rfl rfl rfl ?_
    refine nx_getI rfl rfl rfl (by decide) ?_
    refine nx_cVI (as := [eI v8, eI (tI t 1301 0)]) (st' := []) rfl rfl (Nat.le_of_ble_eq_true rfl) rfl rfl (Nat.le_of_ble_eq_true rfl) (c0 := 13) rfl (by decide) H (fun Q H => TF_X13_isOpen hW  H) (fun r26 H => ?_)
    refine nx_if rfl rfl (by rfl) H (fun H => ?_) (fun H => ?_)
    · refine nx_int (x := 0) rfl rfl ?_
      exact TB_X13_whyNot_140 hW   hk23 _ _ _ _ _ _ _ _ _ _ _ _ H
    refine nx_int (x := 1) rfl rfl ?_
    refine nx_goto rfl rfl ?_
    exact TB_X13_whyNot_140 hW   hk23 _ _ _ _ _ _ _ _ _ _ _ _ H
  · show nX _ _ _ _ _ _ 145 _ _ _ _ _
    refine nx_ld rfl rfl rfl rfl ?_
    refine nx_getI rfl rfl rfl (by decide) ?_
    refine nx_ld rfl rfl rfl rfl ?_
    refine nx_getFix rfl rfl rfl (by decide) (by rw [hW]; rfl) rfl ?_
    refine nx_ld rfl rfl rfl rfl ?_
    refine nx_iald (p := (3306, 0)) rfl rfl (Nat.le_of_ble_eq_true rfl) (Nat.le_of_ble_eq_true rfl) rfl H (fun H => ?_)
    refine nx_icmp rfl rfl (by rfl) H (fun H => ?_) (fun H => ?_)
    · refine nx_int (x := 0) rfl rfl ?_
      exact TB_X13_whyNot_164 hW   hk23 _ _ _ _ _ _ _ _ _ _ _ _ H
    refine nx_int (x := 1) rfl rfl ?_
    refine nx_goto rfl rfl ?_
    exact TB_X13_whyNot_164 hW   hk23 _ _ _ _ _ _ _ _ _ _ _ _ H
  · show nX _ _ _ _ _ _ 169 _ _ _ _ _
    refine nx_ld rfl rfl rfl rfl ?_
    refine nx_ld rfl rfl rfl rfl ?_
    refine nx_int (x := 10) rfl rfl ?_
    refine nx_ld rfl rfl rfl rfl ?_
    refine nx_ii rfl rfl ?_
    refine nx_ld rfl rfl rfl rfl ?_
    refine nx_getI rfl rfl rfl (by decide) ?_
    show nX _ _ _ _ _ _ 180 _ _ _ _ _
    refine nx_ld rfl rfl rfl rfl ?_
    refine nx_getI rfl rfl rfl (by decide) ?_
    refine nx_cVI (as := [eI (10 * v8), eI (tI t 1301 0), eI (tI t 1301 0)]) (st' := [eR (some (13, 0))]) rfl rfl (Nat.le_of_ble_eq_true rfl) rfl rfl (Nat.le_of_ble_eq_true rfl) (c0 := 13) rfl (by decide) H (fun Q H => TF_X13_forceOf hW  H) (fun r27 H => ?_)
    refine nx_ld rfl rfl rfl rfl ?_
    refine nx_ld rfl rfl rfl rfl ?_
    refine nx_int (x := 0) rfl rfl ?_
    refine nx_cVI2 (as := [eI r27, eI v2, eI v1, eI 0]) (st' := []) rfl rfl (Nat.le_of_ble_eq_true rfl) rfl rfl (Nat.le_of_ble_eq_true rfl) (c0 := 13) rfl (by decide) H (fun Q H => TF_X13_firstBroken hW  H) (fun x29 t30 H => ?_)
    refine nx_if rfl rfl (by rfl) H (fun H => ?_) (fun H => ?_)
    · refine nx_int (x := 0) rfl rfl ?_
      exact TB_X13_whyNot_201 hW   hk23 _ _ _ _ _ _ _ _ _ _ _ _ H
    refine nx_int (x := 1) rfl rfl ?_
    refine nx_goto rfl rfl ?_
    exact TB_X13_whyNot_201 hW   hk23 _ _ _ _ _ _ _ _ _ _ _ _ H
  · show nX _ _ _ _ _ _ 206 _ _ _ _ _
    refine nx_ld rfl rfl rfl rfl ?_
    refine nx_getFix rfl rfl rfl (by decide) (by rw [hW]; rfl) rfl ?_
    refine nx_ld rfl rfl rfl rfl ?_
    refine nx_iald (p := (3310, 0)) rfl rfl (Nat.le_of_ble_eq_true rfl) (Nat.le_of_ble_eq_true rfl) rfl H (fun H => ?_)
    refine nx_ld rfl rfl rfl rfl ?_
    refine nx_icmp rfl rfl (by rfl) H (fun H => ?_) (fun H => ?_)
    · refine nx_int (x := 0) rfl rfl ?_
      exact TB_X13_whyNot_222 hW   hk23 _ _ _ _ _ _ _ _ _ _ _ _ H
    refine nx_int (x := 1) rfl rfl ?_
    refine nx_goto rfl rfl ?_
    exact TB_X13_whyNot_222 hW   hk23 _ _ _ _ _ _ _ _ _ _ _ _ H
def B_X13_whyNot_23 : Nat → TS → Int32 → Int32 → Int32 → Int32 → Int32 → Int32 → Int32 → Int32 → Option (Int32 × TS)
  | 0 => fun _ _ _ _ _ _ _ _ _ => none
  | n + 1 => fun t v1 v2 v3 v4 v6 v7 v8 v9 => BB_X13_whyNot_23 (B_X13_whyNot_23 n) t v1 v2 v3 v4 v6 v7 v8 v9
theorem TB_X13_whyNot_23 {W : NW} {d : Nat} {Q : Option NV → TS → Prop} {a0 : Nat → Nat → Nat} {e0 : Nat → Nat → Bool} {bc bs : Nat} (hW : W.2.2.2 = mm_fx) : ∀ (n : Nat) (t : TS) (v1 : Int32) (v2 : Int32) (v3 : Int32) (v4 : Int32) (v5 : Int32) (v6 : Int32) (v7 : Int32) (v8 : Int32) (v9 : Int32) (v10 : Option NV), wp (B_X13_whyNot_23 n t v1 v2 v3 v4 v6 v7 v8 v9) (fun r => Q (some (eI r.1)) r.2) → nX W (d + 7) tX13_whyNot Q a0 e0 23 [some (eR (some (13, 0))), some (eI v1), some (eI v2), some (eI v3), some (eI v4), some (eI v5), some (eI v6), some (eI v7), some (eI v8), some (eI v9), v10] [] t bc bs := by
  intro n
  induction n with
  | zero => intro t v1 v2 v3 v4 v5 v6 v7 v8 v9 v10 H; exact (wp_none H).elim
  | succ n ih =>
    intro t v1 v2 v3 v4 v5 v6 v7 v8 v9 v10 H
    exact TBB_X13_whyNot_23 hW    ih t v1 v2 v3 v4 v5 v6 v7 v8 v9 v10 H
def F_X13_whyNot (t : TS) (x1 : Int32) (x2 : Int32) (x3 : Int32) (x4 : Int32) (x5 : Int32) (x6 : Int32) : Option (Int32 × TS) := (Option.bind (F_X13_spanOn t x1 (tI t 1301 0)) (fun r21 => (gd x2 (tL t 3309 0) (B_X13_whyNot_23  10000 t x1 x2 x3 x4 x6 r21 (tA t 3309 0 x2.toNatClampNeg) x5))))
theorem TF_X13_whyNot {W : NW} {d : Nat} {t : TS} {x1 : Int32} {x2 : Int32} {x3 : Int32} {x4 : Int32} {x5 : Int32} {x6 : Int32} {Q : Option NV → TS → Prop} {bc bs : Nat} (hW : W.2.2.2 = mm_fx) (H : wp (F_X13_whyNot t x1 x2 x3 x4 x5 x6) (fun r => Q (some (eI r.1)) r.2)) : nC W (d + 8) 191 [eR (some (13, 0)), eI x1, eI x2, eI x3, eI x4, eI x5, eI x6] t bc bs Q := by
  refine nC_in (d := (d + 7)) (T := tX13_whyNot) (ls := [some (eR (some (13, 0))), some (eI x1), some (eI x2), some (eI x3), some (eI x4), some (eI x5), some (eI x6), none, none, none, none]) rfl (Nat.le_of_ble_eq_true rfl) rfl (fun a0 e0 => ?_)
  unfold F_X13_whyNot at H
  refine nx_ld rfl rfl rfl rfl ?_
  refine nx_ld rfl rfl rfl rfl ?_
  refine nx_ld rfl rfl rfl rfl ?_
  refine nx_getI rfl rfl rfl (by decide) ?_
  refine nx_cVI (as := [eI x1, eI (tI t 1301 0)]) (st' := []) rfl rfl (Nat.le_of_ble_eq_true rfl) rfl rfl (Nat.le_of_ble_eq_true rfl) (c0 := 13) rfl (by decide) H (fun Q H => TF_X13_spanOn hW  H) (fun r21 H => ?_)
  refine nx_st (ls' := [some (eR (some (13, 0))), some (eI x1), some (eI x2), some (eI x3), some (eI x4), some (eI x5), some (eI x6), some (eI r21), none, none, none]) rfl rfl rfl (Nat.le_of_ble_eq_true rfl) rfl ?_
  refine nx_ld rfl rfl rfl rfl ?_
  show nX _ _ _ _ _ _ 12 _ _ _ _ _
  refine nx_getFix rfl rfl rfl (by decide) (by rw [hW]; rfl) rfl ?_
  refine nx_ld rfl rfl rfl rfl ?_
  refine nx_iald (p := (3309, 0)) rfl rfl (Nat.le_of_ble_eq_true rfl) (Nat.le_of_ble_eq_true rfl) rfl H (fun H => ?_)
  refine nx_st (ls' := [some (eR (some (13, 0))), some (eI x1), some (eI x2), some (eI x3), some (eI x4), some (eI x5), some (eI x6), some (eI r21), some (eI (tA t 3309 0 x2.toNatClampNeg)), none, none]) rfl rfl rfl (Nat.le_of_ble_eq_true rfl) rfl ?_
  refine nx_ld rfl rfl rfl rfl ?_
  refine nx_st (ls' := [some (eR (some (13, 0))), some (eI x1), some (eI x2), some (eI x3), some (eI x4), some (eI x5), some (eI x6), some (eI r21), some (eI (tA t 3309 0 x2.toNatClampNeg)), some (eI x5), none]) rfl rfl rfl (Nat.le_of_ble_eq_true rfl) rfl ?_
  exact TB_X13_whyNot_23 hW    10000 _ _ _ _ _ _ _ _ _ _ _ H
def B_X13_why_57 (t : TS) (s0 : Int32) (s1 : Int32) (s2 : Int32) : Option (Int32 × TS) := (gd (0 : Int32) (tL t 3349 0) (ob2 (F_X13_whyNot t s2 s1 s0 (tA t 3349 0 (0 : Int32).toNatClampNeg) 1 6) (fun x22 t23 => (some (x22, t23)))))
theorem TB_X13_why_57 {W : NW} {d : Nat} {Q : Option NV → TS → Prop} {a0 : Nat → Nat → Nat} {e0 : Nat → Nat → Bool} {bc bs : Nat} (hW : W.2.2.2 = mm_fx) : ∀ (t : TS) (v1 : Int32) (v2 : Int32) (v3 : Int32) (s0 : Int32) (s1 : Int32) (s2 : Int32), wp (B_X13_why_57 t s0 s1 s2) (fun r => Q (some (eI r.1)) r.2) → nX W (d + 8) tX13_why Q a0 e0 57 [some (eR (some (13, 0))), some (eI v1), some (eI v2), some (eI v3)] [eI s0, eI s1, eI s2, eR (some (13, 0))] t bc bs := by
  intro t v1 v2 v3 s0 s1 s2 H
  unfold B_X13_why_57 at H
  refine nx_ld rfl rfl rfl rfl ?_
  refine nx_getFix rfl rfl rfl (by decide) (by rw [hW]; rfl) rfl ?_
  refine nx_int (x := 0) rfl rfl ?_
  refine nx_iald (p := (3349, 0)) rfl rfl (Nat.le_of_ble_eq_true rfl) (Nat.le_of_ble_eq_true rfl) rfl H (fun H => ?_)
  refine nx_int (x := 1) rfl rfl ?_
  refine nx_int (x := 6) rfl rfl ?_
  refine nx_cVI2 (as := [eI s2, eI s1, eI s0, eI (tA t 3349 0 (0 : Int32).toNatClampNeg), eI 1, eI 6]) (st' := []) rfl rfl (Nat.le_of_ble_eq_true rfl) rfl rfl (Nat.le_of_ble_eq_true rfl) (c0 := 13) rfl (by decide) H (fun Q H => TF_X13_whyNot hW  H) (fun x22 t23 H => ?_)
  show nX _ _ _ _ _ _ 69 _ _ _ _ _
  exact nx_rit rfl rfl H
def F_X13_why (t : TS) (x1 : Int32) (x2 : Int32) (x3 : Int32) : Option (Int32 × TS) := (Option.bind (F_X13_isPlayer t x1) (fun r21 => (if r21 = 0 then (some ((-1), t)) else (Option.bind (F_X13_isClub t x2) (fun r22 => (if r22 = 0 then (some ((-1), t)) else (Option.bind (F_X13_in t x3 0 1) (fun r23 => (if ¬ r23 = 0 then (Option.bind (F_X13_ownerOn t x1 (tI t 1301 0)) (fun r24 => (if 0 ≤ r24 then (if ¬ x3 = 1 then (B_X13_why_57  t 0 x2 x1) else (B_X13_why_57  t 1 x2 x1)) else (some ((-2), t))))) else (some ((-1), t)))))))))))
theorem TF_X13_why {W : NW} {d : Nat} {t : TS} {x1 : Int32} {x2 : Int32} {x3 : Int32} {Q : Option NV → TS → Prop} {bc bs : Nat} (hW : W.2.2.2 = mm_fx) (H : wp (F_X13_why t x1 x2 x3) (fun r => Q (some (eI r.1)) r.2)) : nC W (d + 9) 192 [eR (some (13, 0)), eI x1, eI x2, eI x3] t bc bs Q := by
  refine nC_in (d := (d + 8)) (T := tX13_why) (ls := [some (eR (some (13, 0))), some (eI x1), some (eI x2), some (eI x3)]) rfl (Nat.le_of_ble_eq_true rfl) rfl (fun a0 e0 => ?_)
  unfold F_X13_why at H
  refine nx_ld rfl rfl rfl rfl ?_
  refine nx_ld rfl rfl rfl rfl ?_
  refine nx_cVI (as := [eI x1]) (st' := []) rfl rfl (Nat.le_of_ble_eq_true rfl) rfl rfl (Nat.le_of_ble_eq_true rfl) (c0 := 13) rfl (by decide) H (fun Q H => TF_X13_isPlayer hW  H) (fun r21 H => ?_)
  refine nx_if rfl rfl (by rfl) H (fun H => ?_) (fun H => ?_)
  · refine nx_int (x := (-1)) rfl rfl ?_
    exact nx_rit rfl rfl H
  refine nx_ld rfl rfl rfl rfl ?_
  refine nx_ld rfl rfl rfl rfl ?_
  refine nx_cVI (as := [eI x2]) (st' := []) rfl rfl (Nat.le_of_ble_eq_true rfl) rfl rfl (Nat.le_of_ble_eq_true rfl) (c0 := 13) rfl (by decide) H (fun Q H => TF_X13_isClub hW  H) (fun r22 H => ?_)
  refine nx_if rfl rfl (by rfl) H (fun H => ?_) (fun H => ?_)
  · refine nx_int (x := (-1)) rfl rfl ?_
    exact nx_rit rfl rfl H
  refine nx_ld rfl rfl rfl rfl ?_
  refine nx_int (x := 0) rfl rfl ?_
  refine nx_int (x := 1) rfl rfl ?_
  refine nx_cSI (as := [eI x3, eI 0, eI 1]) (st' := []) rfl rfl (Nat.le_of_ble_eq_true rfl) rfl rfl (Nat.le_of_ble_eq_true rfl) H (fun Q H => TF_X13_in hW  H) (fun r23 H => ?_)
  refine nx_if rfl rfl (by rfl) H (fun H => ?_) (fun H => ?_)
  · refine nx_ld rfl rfl rfl rfl ?_
    refine nx_ld rfl rfl rfl rfl ?_
    refine nx_ld rfl rfl rfl rfl ?_
    refine nx_getI rfl rfl rfl (by decide) ?_
    refine nx_cVI (as := [eI x1, eI (tI t 1301 0)]) (st' := []) rfl rfl (Nat.le_of_ble_eq_true rfl) rfl rfl (Nat.le_of_ble_eq_true rfl) (c0 := 13) rfl (by decide) H (fun Q H => TF_X13_ownerOn hW  H) (fun r24 H => ?_)
    refine nx_if rfl rfl (by rfl) H (fun H => ?_) (fun H => ?_)
    · refine nx_ld rfl rfl rfl rfl ?_
      refine nx_ld rfl rfl rfl rfl ?_
      refine nx_ld rfl rfl rfl rfl ?_
      refine nx_ld rfl rfl rfl rfl ?_
      refine nx_int (x := 1) rfl rfl ?_
      refine nx_icmp rfl rfl (by rfl) H (fun H => ?_) (fun H => ?_)
      · refine nx_int (x := 0) rfl rfl ?_
        exact TB_X13_why_57 hW    _ _ _ _ _ _ _ H
      refine nx_int (x := 1) rfl rfl ?_
      refine nx_goto rfl rfl ?_
      exact TB_X13_why_57 hW    _ _ _ _ _ _ _ H
    refine nx_int (x := (-2)) rfl rfl ?_
    refine nx_goto rfl rfl ?_
    exact nx_rit rfl rfl H
  refine nx_int (x := (-1)) rfl rfl ?_
  exact nx_rit rfl rfl H
def F_X13_up (t : TS) (x1 : Int32) (x2 : Int32) : Option Int32 := (some ((((x1 * x2) + 99) / 100)))
theorem TF_X13_up {W : NW} {d : Nat} {t : TS} {x1 : Int32} {x2 : Int32} {Q : Option NV → TS → Prop} {bc bs : Nat} (hW : W.2.2.2 = mm_fx) (H : wp (F_X13_up t x1 x2) (fun r => Q (some (eI r)) t)) : nC W (d + 1) 193 [eI x1, eI x2] t bc bs Q := by
  refine nC_in (d := d) (T := tX13_up) (ls := [some (eI x1), some (eI x2)]) rfl (Nat.le_of_ble_eq_true rfl) rfl (fun a0 e0 => ?_)
  unfold F_X13_up at H
  refine nx_ld rfl rfl rfl rfl ?_
  refine nx_ld rfl rfl rfl rfl ?_
  refine nx_ii rfl rfl ?_
  refine nx_int (x := 99) rfl rfl ?_
  refine nx_ii rfl rfl ?_
  refine nx_int (x := 100) rfl rfl ?_
  refine nx_idivL rfl rfl (by decide) ?_
  show nX _ _ _ _ _ _ 9 _ _ _ _ _
  exact nx_ri rfl rfl H
def F_X13_addMove (t : TS) (x1 : Int32) (x2 : Int32) (x3 : Int32) (x4 : Int32) : Option (Int32 × TS) := (gd (tI t 1327 0) (tL t 3328 0) (nxt (uA t 3328 0 (tI t 1327 0).toNatClampNeg x1) (fun t21 => (Option.bind (F_X13_ownerOn t21 x1 (tI t21 1301 0)) (fun r22 => (gd (tI t 1327 0) (tL t21 3329 0) (nxt (uA t21 3329 0 (tI t 1327 0).toNatClampNeg r22) (fun t23 => (gd (tI t 1327 0) (tL t23 3330 0) (nxt (uA t23 3330 0 (tI t 1327 0).toNatClampNeg x2) (fun t24 => (gd (tI t 1327 0) (tL t24 3331 0) (nxt (uA t24 3331 0 (tI t 1327 0).toNatClampNeg x3) (fun t25 => (gd (tI t 1327 0) (tL t25 3332 0) (nxt (uA t25 3332 0 (tI t 1327 0).toNatClampNeg (tI t25 1301 0)) (fun t26 => (gd (tI t 1327 0) (tL t26 3333 0) (nxt (uA t26 3333 0 (tI t 1327 0).toNatClampNeg (vp_nar .boolean x4)) (fun t27 => (gd (tI t 1327 0) (tL t27 3334 0) (nxt (uA t27 3334 0 (tI t 1327 0).toNatClampNeg (vp_nar .boolean 0)) (fun t28 => (gd (tI t 1327 0) (tL t28 3342 0) (nxt (uA t28 3342 0 (tI t 1327 0).toNatClampNeg (-1)) (fun t29 => (nxt (uI t29 1327 0 ((tI t29 1327 0) + 1)) (fun t30 => (some ((tI t 1327 0), t30))))))))))))))))))))))))))))))
theorem TF_X13_addMove {W : NW} {d : Nat} {t : TS} {x1 : Int32} {x2 : Int32} {x3 : Int32} {x4 : Int32} {Q : Option NV → TS → Prop} {bc bs : Nat} (hW : W.2.2.2 = mm_fx) (H : wp (F_X13_addMove t x1 x2 x3 x4) (fun r => Q (some (eI r.1)) r.2)) : nC W (d + 4) 194 [eR (some (13, 0)), eI x1, eI x2, eI x3, eI x4] t bc bs Q := by
  refine nC_in (d := (d + 3)) (T := tX13_addMove) (ls := [some (eR (some (13, 0))), some (eI x1), some (eI x2), some (eI x3), some (eI x4), none]) rfl (Nat.le_of_ble_eq_true rfl) rfl (fun a0 e0 => ?_)
  unfold F_X13_addMove at H
  refine nx_ld rfl rfl rfl rfl ?_
  refine nx_getI rfl rfl rfl (by decide) ?_
  refine nx_st (ls' := [some (eR (some (13, 0))), some (eI x1), some (eI x2), some (eI x3), some (eI x4), some (eI (tI t 1327 0))]) rfl rfl rfl (Nat.le_of_ble_eq_true rfl) rfl ?_
  refine nx_ld rfl rfl rfl rfl ?_
  refine nx_getFix rfl rfl rfl (by decide) (by rw [hW]; rfl) rfl ?_
  refine nx_ld rfl rfl rfl rfl ?_
  refine nx_ld rfl rfl rfl rfl ?_
  show nX _ _ _ _ _ _ 13 _ _ _ _ _
  refine nx_iast (p := (3328, 0)) rfl rfl (Nat.le_of_ble_eq_true rfl) (Nat.le_of_ble_eq_true rfl) rfl H (fun t21 H => ?_)
  refine nx_ld rfl rfl rfl rfl ?_
  refine nx_getFix rfl rfl rfl (by decide) (by rw [hW]; rfl) rfl ?_
  refine nx_ld rfl rfl rfl rfl ?_
  refine nx_ld rfl rfl rfl rfl ?_
  refine nx_ld rfl rfl rfl rfl ?_
  refine nx_ld rfl rfl rfl rfl ?_
  refine nx_getI rfl rfl rfl (by decide) ?_
  show nX _ _ _ _ _ _ 26 _ _ _ _ _
  refine nx_cVI (as := [eI x1, eI (tI t21 1301 0)]) (st' := [eI (tI t 1327 0), eR (some (3329, 0))]) rfl rfl (Nat.le_of_ble_eq_true rfl) rfl rfl (Nat.le_of_ble_eq_true rfl) (c0 := 13) rfl (by decide) H (fun Q H => TF_X13_ownerOn hW  H) (fun r22 H => ?_)
  refine nx_iast (p := (3329, 0)) rfl rfl (Nat.le_of_ble_eq_true rfl) (Nat.le_of_ble_eq_true rfl) rfl H (fun t23 H => ?_)
  refine nx_ld rfl rfl rfl rfl ?_
  refine nx_getFix rfl rfl rfl (by decide) (by rw [hW]; rfl) rfl ?_
  refine nx_ld rfl rfl rfl rfl ?_
  refine nx_ld rfl rfl rfl rfl ?_
  refine nx_iast (p := (3330, 0)) rfl rfl (Nat.le_of_ble_eq_true rfl) (Nat.le_of_ble_eq_true rfl) rfl H (fun t24 H => ?_)
  refine nx_ld rfl rfl rfl rfl ?_
  show nX _ _ _ _ _ _ 39 _ _ _ _ _
  refine nx_getFix rfl rfl rfl (by decide) (by rw [hW]; rfl) rfl ?_
  refine nx_ld rfl rfl rfl rfl ?_
  refine nx_ld rfl rfl rfl rfl ?_
  refine nx_iast (p := (3331, 0)) rfl rfl (Nat.le_of_ble_eq_true rfl) (Nat.le_of_ble_eq_true rfl) rfl H (fun t25 H => ?_)
  refine nx_ld rfl rfl rfl rfl ?_
  refine nx_getFix rfl rfl rfl (by decide) (by rw [hW]; rfl) rfl ?_
  refine nx_ld rfl rfl rfl rfl ?_
  refine nx_ld rfl rfl rfl rfl ?_
  show nX _ _ _ _ _ _ 53 _ _ _ _ _
  refine nx_getI rfl rfl rfl (by decide) ?_
  refine nx_iast (p := (3332, 0)) rfl rfl (Nat.le_of_ble_eq_true rfl) (Nat.le_of_ble_eq_true rfl) rfl H (fun t26 H => ?_)
  refine nx_ld rfl rfl rfl rfl ?_
  refine nx_getFix rfl rfl rfl (by decide) (by rw [hW]; rfl) rfl ?_
  refine nx_ld rfl rfl rfl rfl ?_
  refine nx_ld rfl rfl rfl rfl ?_
  refine nx_zast (c := 3333) (i := 0) rfl rfl (Nat.le_of_ble_eq_true rfl) (Nat.le_of_ble_eq_true rfl) rfl H (fun t27 H => ?_)
  refine nx_ld rfl rfl rfl rfl ?_
  show nX _ _ _ _ _ _ 67 _ _ _ _ _
  refine nx_getFix rfl rfl rfl (by decide) (by rw [hW]; rfl) rfl ?_
  refine nx_ld rfl rfl rfl rfl ?_
  refine nx_int (x := 0) rfl rfl ?_
  refine nx_zast (c := 3334) (i := 0) rfl rfl (Nat.le_of_ble_eq_true rfl) (Nat.le_of_ble_eq_true rfl) rfl H (fun t28 H => ?_)
  refine nx_ld rfl rfl rfl rfl ?_
  refine nx_getFix rfl rfl rfl (by decide) (by rw [hW]; rfl) rfl ?_
  refine nx_ld rfl rfl rfl rfl ?_
  refine nx_int (x := (-1)) rfl rfl ?_
  show nX _ _ _ _ _ _ 81 _ _ _ _ _
  refine nx_iast (p := (3342, 0)) rfl rfl (Nat.le_of_ble_eq_true rfl) (Nat.le_of_ble_eq_true rfl) rfl H (fun t29 H => ?_)
  refine nx_ld rfl rfl rfl rfl ?_
  refine nx_dup rfl rfl (Nat.ne_of_beq_eq_false rfl) ?_
  refine nx_getI rfl rfl rfl (by decide) ?_
  refine nx_int (x := 1) rfl rfl ?_
  refine nx_ii rfl rfl ?_
  refine nx_putI rfl rfl rfl (by decide) H (fun t30 H => ?_)
  refine nx_ld rfl rfl rfl rfl ?_
  show nX _ _ _ _ _ _ 94 _ _ _ _ _
  exact nx_rit rfl rfl H
def F_X13_addMoveSpan (t : TS) (x1 : Int32) (x2 : Int32) (x3 : Int32) : Option TS := (gd x1 (tL t 3328 0) (gd x1 (tL t 3330 0) (ob2 (F_X13_addSpan t (tA t 3328 0 x1.toNatClampNeg) (tA t 3330 0 x1.toNatClampNeg) (tI t 1301 0) x2 x3) (fun x22 t23 => (gd x1 (tL t23 3340 0) (nxt (uA t23 3340 0 x1.toNatClampNeg x22) (fun t24 => (gd x1 (tL t24 3340 0) (gd (tA t24 3340 0 x1.toNatClampNeg) (tL t24 3324 0) (nxt (uA t24 3324 0 (tA t24 3340 0 x1.toNatClampNeg).toNatClampNeg x1) (fun t25 => (some t25))))))))))))
theorem TF_X13_addMoveSpan {W : NW} {d : Nat} {t : TS} {x1 : Int32} {x2 : Int32} {x3 : Int32} {Q : Option NV → TS → Prop} {bc bs : Nat} (hW : W.2.2.2 = mm_fx) (H : wp (F_X13_addMoveSpan t x1 x2 x3) (fun r => Q none r)) : nC W (d + 2) 195 [eR (some (13, 0)), eI x1, eI x2, eI x3] t bc bs Q := by
  refine nC_in (d := (d + 1)) (T := tX13_addMoveSpan) (ls := [some (eR (some (13, 0))), some (eI x1), some (eI x2), some (eI x3)]) rfl (Nat.le_of_ble_eq_true rfl) rfl (fun a0 e0 => ?_)
  unfold F_X13_addMoveSpan at H
  refine nx_ld rfl rfl rfl rfl ?_
  refine nx_getFix rfl rfl rfl (by decide) (by rw [hW]; rfl) rfl ?_
  refine nx_ld rfl rfl rfl rfl ?_
  refine nx_ld rfl rfl rfl rfl ?_
  refine nx_ld rfl rfl rfl rfl ?_
  refine nx_getFix rfl rfl rfl (by decide) (by rw [hW]; rfl) rfl ?_
  refine nx_ld rfl rfl rfl rfl ?_
  show nX _ _ _ _ _ _ 11 _ _ _ _ _
  refine nx_iald (p := (3328, 0)) rfl rfl (Nat.le_of_ble_eq_true rfl) (Nat.le_of_ble_eq_true rfl) rfl H (fun H => ?_)
  refine nx_ld rfl rfl rfl rfl ?_
  refine nx_getFix rfl rfl rfl (by decide) (by rw [hW]; rfl) rfl ?_
  refine nx_ld rfl rfl rfl rfl ?_
  refine nx_iald (p := (3330, 0)) rfl rfl (Nat.le_of_ble_eq_true rfl) (Nat.le_of_ble_eq_true rfl) rfl H (fun H => ?_)
  refine nx_ld rfl rfl rfl rfl ?_
  refine nx_getI rfl rfl rfl (by decide) ?_
  refine nx_ld rfl rfl rfl rfl ?_
  show nX _ _ _ _ _ _ 23 _ _ _ _ _
  refine nx_ld rfl rfl rfl rfl ?_
  refine nx_cVI2 (as := [eI (tA t 3328 0 x1.toNatClampNeg), eI (tA t 3330 0 x1.toNatClampNeg), eI (tI t 1301 0), eI x2, eI x3]) (st' := [eI x1, eR (some (3340, 0))]) rfl rfl (Nat.le_of_ble_eq_true rfl) rfl rfl (Nat.le_of_ble_eq_true rfl) (c0 := 13) rfl (by decide) H (fun Q H => TF_X13_addSpan hW  H) (fun x22 t23 H => ?_)
  refine nx_iast (p := (3340, 0)) rfl rfl (Nat.le_of_ble_eq_true rfl) (Nat.le_of_ble_eq_true rfl) rfl H (fun t24 H => ?_)
  refine nx_ld rfl rfl rfl rfl ?_
  refine nx_getFix rfl rfl rfl (by decide) (by rw [hW]; rfl) rfl ?_
  refine nx_ld rfl rfl rfl rfl ?_
  refine nx_getFix rfl rfl rfl (by decide) (by rw [hW]; rfl) rfl ?_
  refine nx_ld rfl rfl rfl rfl ?_
  show nX _ _ _ _ _ _ 37 _ _ _ _ _
  refine nx_iald (p := (3340, 0)) rfl rfl (Nat.le_of_ble_eq_true rfl) (Nat.le_of_ble_eq_true rfl) rfl H (fun H => ?_)
  refine nx_ld rfl rfl rfl rfl ?_
  refine nx_iast (p := (3324, 0)) rfl rfl (Nat.le_of_ble_eq_true rfl) (Nat.le_of_ble_eq_true rfl) rfl H (fun t25 H => ?_)
  exact nx_rv rfl rfl H
def F_X13_rest (t : TS) (x1 : Int64) (x2 : Int64) (x3 : Int64) : Option Int64 := (gzJ x3 (some (jrm (x1 * x2) x3)))
theorem TF_X13_rest {W : NW} {d : Nat} {t : TS} {x1 : Int64} {x2 : Int64} {x3 : Int64} {Q : Option NV → TS → Prop} {bc bs : Nat} (hW : W.2.2.2 = mm_fx) (H : wp (F_X13_rest t x1 x2 x3) (fun r => Q (some (eJ r)) t)) : nC W (d + 1) 196 [eJ x1, eJ x2, eJ x3] t bc bs Q := by
  refine nC_in (d := d) (T := tX13_rest) (ls := [some (eJ x1), none, some (eJ x2), none, some (eJ x3), none]) rfl (Nat.le_of_ble_eq_true rfl) rfl (fun a0 e0 => ?_)
  unfold F_X13_rest at H
  refine nx_ld rfl rfl rfl rfl ?_
  refine nx_ld rfl rfl rfl rfl ?_
  refine nx_jj rfl rfl ?_
  refine nx_ld rfl rfl rfl rfl ?_
  refine nx_jdiv rfl rfl H (fun H => ?_)
  exact nx_rj rfl rfl H
def B_X13_payShares_317 (t : TS) (v1 : Int32) (v5 : Int32) : Option TS := (gd v1 (tL t 3343 0) (nxt (uA t 3343 0 v1.toNatClampNeg v5) (fun t21 => (some t21))))
theorem TB_X13_payShares_317 {W : NW} {d : Nat} {Q : Option NV → TS → Prop} {a0 : Nat → Nat → Nat} {e0 : Nat → Nat → Bool} {bc bs : Nat} (hW : W.2.2.2 = mm_fx) : ∀ (t : TS) (v1 : Int32) (v2 : Int32) (v3 : Int64) (v5 : Int32) (v6 : Int32) (v7 : Int32) (v8 : Option NV), wp (B_X13_payShares_317 t v1 v5) (fun r => Q none r) → nX W (d + 2) tX13_payShares Q a0 e0 317 [some (eR (some (13, 0))), some (eI v1), some (eI v2), some (eJ v3), none, some (eI v5), some (eI v6), some (eI v7), v8] [] t bc bs := by
  intro t v1 v2 v3 v5 v6 v7 v8 H
  unfold B_X13_payShares_317 at H
  refine nx_ld rfl rfl rfl rfl ?_
  refine nx_getFix rfl rfl rfl (by decide) (by rw [hW]; rfl) rfl ?_
  refine nx_ld rfl rfl rfl rfl ?_
  refine nx_ld rfl rfl rfl rfl ?_
  refine nx_iast (p := (3343, 0)) rfl rfl (Nat.le_of_ble_eq_true rfl) (Nat.le_of_ble_eq_true rfl) rfl H (fun t21 H => ?_)
  exact nx_rv rfl rfl H
def B_X13_payShares_294 (k169 : TS → Int32 → Int64 → Int32 → Int32 → Option TS) (t : TS) (v1 : Int32) (v3 : Int64) (v5 : Int32) (v6 : Int32) (v7 : Int32) : Option TS := (gd ((150 * v1) + v7) (tL t 3347 0) (gd ((150 * v1) + v7) (tL t 3347 0) (nxt (uA t 3347 0 ((150 * v1) + v7).toNatClampNeg ((tA t 3347 0 ((150 * v1) + v7).toNatClampNeg) + 1)) (fun t21 => (k169 t21 v1 v3 v5 (v6 + (-1)))))))
theorem TB_X13_payShares_294 {W : NW} {d : Nat} {Q : Option NV → TS → Prop} {a0 : Nat → Nat → Nat} {e0 : Nat → Nat → Bool} {k169 : TS → Int32 → Int64 → Int32 → Int32 → Option TS} {bc bs : Nat} (hW : W.2.2.2 = mm_fx) (hk169 : ∀ (t : TS) (v1 : Int32) (v2 : Int32) (v3 : Int64) (v5 : Int32) (v6 : Int32) (v7 : Int32) (v8 : Option NV), wp (k169 t v1 v3 v5 v6) (fun r => Q none r) → nX W (d + 2) tX13_payShares Q a0 e0 169 [some (eR (some (13, 0))), some (eI v1), some (eI v2), some (eJ v3), none, some (eI v5), some (eI v6), some (eI v7), v8] [] t bc bs) : ∀ (t : TS) (v1 : Int32) (v2 : Int32) (v3 : Int64) (v5 : Int32) (v6 : Int32) (v7 : Int32) (v8 : Int32), wp (B_X13_payShares_294 k169 t v1 v3 v5 v6 v7) (fun r => Q none r) → nX W (d + 2) tX13_payShares Q a0 e0 294 [some (eR (some (13, 0))), some (eI v1), some (eI v2), some (eJ v3), none, some (eI v5), some (eI v6), some (eI v7), some (eI v8)] [] t bc bs := by
  intro t v1 v2 v3 v5 v6 v7 v8 H
  unfold B_X13_payShares_294 at H
  refine nx_ld rfl rfl rfl rfl ?_
  refine nx_getFix rfl rfl rfl (by decide) (by rw [hW]; rfl) rfl ?_
  refine nx_int (x := 150) rfl rfl ?_
  refine nx_ld rfl rfl rfl rfl ?_
  refine nx_ii rfl rfl ?_
  refine nx_ld rfl rfl rfl rfl ?_
  refine nx_ii rfl rfl ?_
  show nX _ _ _ _ _ _ 306 _ _ _ _ _
  refine nx_dup2 rfl rfl (Nat.ne_of_beq_eq_false rfl) (Nat.ne_of_beq_eq_false rfl) ?_
  refine nx_iald (p := (3347, 0)) rfl rfl (Nat.le_of_ble_eq_true rfl) (Nat.le_of_ble_eq_true rfl) rfl H (fun H => ?_)
  refine nx_int (x := 1) rfl rfl ?_
  refine nx_ii rfl rfl ?_
  refine nx_iast (p := (3347, 0)) rfl rfl (Nat.le_of_ble_eq_true rfl) (Nat.le_of_ble_eq_true rfl) rfl H (fun t21 H => ?_)
  refine nx_iinc2 (-1) (ls' := [some (eR (some (13, 0))), some (eI v1), some (eI v2), some (eJ v3), none, some (eI v5), some (eI (v6 + (-1))), some (eI v7), some (eI v8)]) rfl rfl rfl rfl rfl ?_
  refine nx_goto rfl rfl ?_
  exact hk169 _ _ _ _ _ _ _ _ H
def B_X13_payShares_288 (k169 : TS → Int32 → Int64 → Int32 → Int32 → Option TS) (k180 : TS → Int32 → Int64 → Int32 → Int32 → Int32 → Int32 → Option TS) (t : TS) (v1 : Int32) (v3 : Int64) (v5 : Int32) (v6 : Int32) (v7 : Int32) (v8 : Int32) : Option TS := (k180 t v1 v3 v5 v6 v7 (v8 + 1))
theorem TB_X13_payShares_288 {W : NW} {d : Nat} {Q : Option NV → TS → Prop} {a0 : Nat → Nat → Nat} {e0 : Nat → Nat → Bool} {k169 : TS → Int32 → Int64 → Int32 → Int32 → Option TS} {k180 : TS → Int32 → Int64 → Int32 → Int32 → Int32 → Int32 → Option TS} {bc bs : Nat} (hW : W.2.2.2 = mm_fx) (hk169 : ∀ (t : TS) (v1 : Int32) (v2 : Int32) (v3 : Int64) (v5 : Int32) (v6 : Int32) (v7 : Int32) (v8 : Option NV), wp (k169 t v1 v3 v5 v6) (fun r => Q none r) → nX W (d + 2) tX13_payShares Q a0 e0 169 [some (eR (some (13, 0))), some (eI v1), some (eI v2), some (eJ v3), none, some (eI v5), some (eI v6), some (eI v7), v8] [] t bc bs) (hk180 : ∀ (t : TS) (v1 : Int32) (v2 : Int32) (v3 : Int64) (v5 : Int32) (v6 : Int32) (v7 : Int32) (v8 : Int32), wp (k180 t v1 v3 v5 v6 v7 v8) (fun r => Q none r) → nX W (d + 2) tX13_payShares Q a0 e0 180 [some (eR (some (13, 0))), some (eI v1), some (eI v2), some (eJ v3), none, some (eI v5), some (eI v6), some (eI v7), some (eI v8)] [] t bc bs) : ∀ (t : TS) (v1 : Int32) (v2 : Int32) (v3 : Int64) (v5 : Int32) (v6 : Int32) (v7 : Int32) (v8 : Int32), wp (B_X13_payShares_288 k169 k180 t v1 v3 v5 v6 v7 v8) (fun r => Q none r) → nX W (d + 2) tX13_payShares Q a0 e0 288 [some (eR (some (13, 0))), some (eI v1), some (eI v2), some (eJ v3), none, some (eI v5), some (eI v6), some (eI v7), some (eI v8)] [] t bc bs := by
  intro t v1 v2 v3 v5 v6 v7 v8 H
  unfold B_X13_payShares_288 at H
  refine nx_iinc2 1 (ls' := [some (eR (some (13, 0))), some (eI v1), some (eI v2), some (eJ v3), none, some (eI v5), some (eI v6), some (eI v7), some (eI (v8 + 1))]) rfl rfl rfl rfl rfl ?_
  refine nx_goto rfl rfl ?_
  exact hk180 _ _ _ _ _ _ _ _ H
def B_X13_payShares_284 (k169 : TS → Int32 → Int64 → Int32 → Int32 → Option TS) (k180 : TS → Int32 → Int64 → Int32 → Int32 → Int32 → Int32 → Option TS) (t : TS) (v1 : Int32) (v3 : Int64) (v5 : Int32) (v6 : Int32) (v8 : Int32) : Option TS := (B_X13_payShares_288 k169 k180 t v1 v3 v5 v6 v8 v8)
theorem TB_X13_payShares_284 {W : NW} {d : Nat} {Q : Option NV → TS → Prop} {a0 : Nat → Nat → Nat} {e0 : Nat → Nat → Bool} {k169 : TS → Int32 → Int64 → Int32 → Int32 → Option TS} {k180 : TS → Int32 → Int64 → Int32 → Int32 → Int32 → Int32 → Option TS} {bc bs : Nat} (hW : W.2.2.2 = mm_fx) (hk169 : ∀ (t : TS) (v1 : Int32) (v2 : Int32) (v3 : Int64) (v5 : Int32) (v6 : Int32) (v7 : Int32) (v8 : Option NV), wp (k169 t v1 v3 v5 v6) (fun r => Q none r) → nX W (d + 2) tX13_payShares Q a0 e0 169 [some (eR (some (13, 0))), some (eI v1), some (eI v2), some (eJ v3), none, some (eI v5), some (eI v6), some (eI v7), v8] [] t bc bs) (hk180 : ∀ (t : TS) (v1 : Int32) (v2 : Int32) (v3 : Int64) (v5 : Int32) (v6 : Int32) (v7 : Int32) (v8 : Int32), wp (k180 t v1 v3 v5 v6 v7 v8) (fun r => Q none r) → nX W (d + 2) tX13_payShares Q a0 e0 180 [some (eR (some (13, 0))), some (eI v1), some (eI v2), some (eJ v3), none, some (eI v5), some (eI v6), some (eI v7), some (eI v8)] [] t bc bs) : ∀ (t : TS) (v1 : Int32) (v2 : Int32) (v3 : Int64) (v5 : Int32) (v6 : Int32) (v7 : Int32) (v8 : Int32), wp (B_X13_payShares_284 k169 k180 t v1 v3 v5 v6 v8) (fun r => Q none r) → nX W (d + 2) tX13_payShares Q a0 e0 284 [some (eR (some (13, 0))), some (eI v1), some (eI v2), some (eJ v3), none, some (eI v5), some (eI v6), some (eI v7), some (eI v8)] [] t bc bs := by
  intro t v1 v2 v3 v5 v6 v7 v8 H
  unfold B_X13_payShares_284 at H
  refine nx_ld rfl rfl rfl rfl ?_
  refine nx_st (ls' := [some (eR (some (13, 0))), some (eI v1), some (eI v2), some (eJ v3), none, some (eI v5), some (eI v6), some (eI v8), some (eI v8)]) rfl rfl rfl (Nat.le_of_ble_eq_true rfl) rfl ?_
  exact TB_X13_payShares_288 hW   hk169 hk180 _ _ _ _ _ _ _ _ H
def BB_X13_payShares_180 (k169 : TS → Int32 → Int64 → Int32 → Int32 → Option TS) (k180 : TS → Int32 → Int64 → Int32 → Int32 → Int32 → Int32 → Option TS) (t : TS) (v1 : Int32) (v3 : Int64) (v5 : Int32) (v6 : Int32) (v7 : Int32) (v8 : Int32) : Option TS := (if (tI t 1307 0) ≤ v8 then (B_X13_payShares_294 k169 t v1 v3 v5 v6 v7) else (gd v1 (tL t 3329 0) (if v8 = (tA t 3329 0 v1.toNatClampNeg) then (B_X13_payShares_288 k169 k180 t v1 v3 v5 v6 v7 v8) else (gd v8 (tL t 3325 0) (if (tA t 3325 0 v8.toNatClampNeg) = 0 then (B_X13_payShares_288 k169 k180 t v1 v3 v5 v6 v7 v8) else (gd ((150 * v1) + v8) (tL t 3347 0) (gd v8 (tL t 3325 0) (gzJ v3 (if (lg_cmp ((tA t 3347 0 ((150 * v1) + v8).toNatClampNeg).toInt64) (((v5.toInt64) * ((tA t 3325 0 v8.toNatClampNeg).toInt64)) / v3)) ≤ 0 then (if v7 < 0 then (B_X13_payShares_284 k169 k180 t v1 v3 v5 v6 v8) else (gd v8 (tL t 3325 0) (Option.bind (F_X13_rest t (v5.toInt64) ((tA t 3325 0 v8.toNatClampNeg).toInt64) v3) (fun r21 => (gd v7 (tL t 3325 0) (Option.bind (F_X13_rest t (v5.toInt64) ((tA t 3325 0 v7.toNatClampNeg).toInt64) v3) (fun r22 => (if (lg_cmp r21 r22) ≤ 0 then (B_X13_payShares_288 k169 k180 t v1 v3 v5 v6 v7 v8) else (B_X13_payShares_284 k169 k180 t v1 v3 v5 v6 v8))))))))) else (B_X13_payShares_288 k169 k180 t v1 v3 v5 v6 v7 v8))))))))))
theorem TBB_X13_payShares_180 {W : NW} {d : Nat} {Q : Option NV → TS → Prop} {a0 : Nat → Nat → Nat} {e0 : Nat → Nat → Bool} {k169 : TS → Int32 → Int64 → Int32 → Int32 → Option TS} {k180 : TS → Int32 → Int64 → Int32 → Int32 → Int32 → Int32 → Option TS} {bc bs : Nat} (hW : W.2.2.2 = mm_fx) (hk169 : ∀ (t : TS) (v1 : Int32) (v2 : Int32) (v3 : Int64) (v5 : Int32) (v6 : Int32) (v7 : Int32) (v8 : Option NV), wp (k169 t v1 v3 v5 v6) (fun r => Q none r) → nX W (d + 2) tX13_payShares Q a0 e0 169 [some (eR (some (13, 0))), some (eI v1), some (eI v2), some (eJ v3), none, some (eI v5), some (eI v6), some (eI v7), v8] [] t bc bs) (hk180 : ∀ (t : TS) (v1 : Int32) (v2 : Int32) (v3 : Int64) (v5 : Int32) (v6 : Int32) (v7 : Int32) (v8 : Int32), wp (k180 t v1 v3 v5 v6 v7 v8) (fun r => Q none r) → nX W (d + 2) tX13_payShares Q a0 e0 180 [some (eR (some (13, 0))), some (eI v1), some (eI v2), some (eJ v3), none, some (eI v5), some (eI v6), some (eI v7), some (eI v8)] [] t bc bs) : ∀ (t : TS) (v1 : Int32) (v2 : Int32) (v3 : Int64) (v5 : Int32) (v6 : Int32) (v7 : Int32) (v8 : Int32), wp (BB_X13_payShares_180 k169 k180 t v1 v3 v5 v6 v7 v8) (fun r => Q none r) → nX W (d + 2) tX13_payShares Q a0 e0 180 [some (eR (some (13, 0))), some (eI v1), some (eI v2), some (eJ v3), none, some (eI v5), some (eI v6), some (eI v7), some (eI v8)] [] t bc bs := by
  intro t v1 v2 v3 v5 v6 v7 v8 H
  unfold BB_X13_payShares_180 at H
  refine nx_ld rfl rfl rfl rfl ?_
  refine nx_ld rfl rfl rfl rfl ?_
  refine nx_getI rfl rfl rfl (by decide) ?_
  refine nx_icmp rfl rfl (by rfl) H (fun H => ?_) (fun H => ?_)
  · exact TB_X13_payShares_294 hW   hk169 _ _ _ _ _ _ _ _ H
  refine nx_ld rfl rfl rfl rfl ?_
  refine nx_ld rfl rfl rfl rfl ?_
  refine nx_getFix rfl rfl rfl (by decide) (by rw [hW]; rfl) rfl ?_
  refine nx_ld rfl rfl rfl rfl ?_
  refine nx_iald (p := (3329, 0)) rfl rfl (Nat.le_of_ble_eq_true rfl) (Nat.le_of_ble_eq_true rfl) rfl H (fun H => ?_)
  refine nx_icmp rfl rfl (by rfl) H (fun H => ?_) (fun H => ?_)
  · exact TB_X13_payShares_288 hW   hk169 hk180 _ _ _ _ _ _ _ _ H
  refine nx_ld rfl rfl rfl rfl ?_
  refine nx_getFix rfl rfl rfl (by decide) (by rw [hW]; rfl) rfl ?_
  refine nx_ld rfl rfl rfl rfl ?_
  refine nx_iald (p := (3325, 0)) rfl rfl (Nat.le_of_ble_eq_true rfl) (Nat.le_of_ble_eq_true rfl) rfl H (fun H => ?_)
  refine nx_if rfl rfl (by rfl) H (fun H => ?_) (fun H => ?_)
  · exact TB_X13_payShares_288 hW   hk169 hk180 _ _ _ _ _ _ _ _ H
  refine nx_ld rfl rfl rfl rfl ?_
  refine nx_getFix rfl rfl rfl (by decide) (by rw [hW]; rfl) rfl ?_
  refine nx_int (x := 150) rfl rfl ?_
  refine nx_ld rfl rfl rfl rfl ?_
  refine nx_ii rfl rfl ?_
  refine nx_ld rfl rfl rfl rfl ?_
  refine nx_ii rfl rfl ?_
  show nX _ _ _ _ _ _ 222 _ _ _ _ _
  refine nx_iald (p := (3347, 0)) rfl rfl (Nat.le_of_ble_eq_true rfl) (Nat.le_of_ble_eq_true rfl) rfl H (fun H => ?_)
  refine nx_i2l rfl rfl ?_
  refine nx_ld rfl rfl rfl rfl ?_
  refine nx_i2l rfl rfl ?_
  refine nx_ld rfl rfl rfl rfl ?_
  refine nx_getFix rfl rfl rfl (by decide) (by rw [hW]; rfl) rfl ?_
  refine nx_ld rfl rfl rfl rfl ?_
  refine nx_iald (p := (3325, 0)) rfl rfl (Nat.le_of_ble_eq_true rfl) (Nat.le_of_ble_eq_true rfl) rfl H (fun H => ?_)
  show nX _ _ _ _ _ _ 234 _ _ _ _ _
  refine nx_i2l rfl rfl ?_
  refine nx_jj rfl rfl ?_
  refine nx_ld rfl rfl rfl rfl ?_
  refine nx_jdiv rfl rfl H (fun H => ?_)
  refine nx_lcmp rfl rfl ?_
  refine nx_if rfl rfl (by rfl) H (fun H => ?_) (fun H => ?_)
  · refine nx_ld rfl rfl rfl rfl ?_
    refine nx_if rfl rfl (by rfl) H (fun H => ?_) (fun H => ?_)
    · exact TB_X13_payShares_284 hW   hk169 hk180 _ _ _ _ _ _ _ _ H
    refine nx_ld rfl rfl rfl rfl ?_
    refine nx_i2l rfl rfl ?_
    refine nx_ld rfl rfl rfl rfl ?_
    refine nx_getFix rfl rfl rfl (by decide) (by rw [hW]; rfl) rfl ?_
    refine nx_ld rfl rfl rfl rfl ?_
    refine nx_iald (p := (3325, 0)) rfl rfl (Nat.le_of_ble_eq_true rfl) (Nat.le_of_ble_eq_true rfl) rfl H (fun H => ?_)
    refine nx_i2l rfl rfl ?_
    show nX _ _ _ _ _ _ 261 _ _ _ _ _
    refine nx_ld rfl rfl rfl rfl ?_
    refine nx_cSJ (as := [eJ (v5.toInt64), eJ ((tA t 3325 0 v8.toNatClampNeg).toInt64), eJ v3]) (st' := []) rfl rfl (Nat.le_of_ble_eq_true rfl) rfl rfl (Nat.le_of_ble_eq_true rfl) H (fun Q H => TF_X13_rest hW  H) (fun r21 H => ?_)
    refine nx_ld rfl rfl rfl rfl ?_
    refine nx_i2l rfl rfl ?_
    refine nx_ld rfl rfl rfl rfl ?_
    refine nx_getFix rfl rfl rfl (by decide) (by rw [hW]; rfl) rfl ?_
    refine nx_ld rfl rfl rfl rfl ?_
    refine nx_iald (p := (3325, 0)) rfl rfl (Nat.le_of_ble_eq_true rfl) (Nat.le_of_ble_eq_true rfl) rfl H (fun H => ?_)
    show nX _ _ _ _ _ _ 275 _ _ _ _ _
    refine nx_i2l rfl rfl ?_
    refine nx_ld rfl rfl rfl rfl ?_
    refine nx_cSJ (as := [eJ (v5.toInt64), eJ ((tA t 3325 0 v7.toNatClampNeg).toInt64), eJ v3]) (st' := [eJ r21]) rfl rfl (Nat.le_of_ble_eq_true rfl) rfl rfl (Nat.le_of_ble_eq_true rfl) H (fun Q H => TF_X13_rest hW  H) (fun r22 H => ?_)
    refine nx_lcmp rfl rfl ?_
    refine nx_if rfl rfl (by rfl) H (fun H => ?_) (fun H => ?_)
    · exact TB_X13_payShares_288 hW   hk169 hk180 _ _ _ _ _ _ _ _ H
    exact TB_X13_payShares_284 hW   hk169 hk180 _ _ _ _ _ _ _ _ H
  refine nx_goto rfl rfl ?_
  exact TB_X13_payShares_288 hW   hk169 hk180 _ _ _ _ _ _ _ _ H
def B_X13_payShares_180 (k169 : TS → Int32 → Int64 → Int32 → Int32 → Option TS) : Nat → TS → Int32 → Int64 → Int32 → Int32 → Int32 → Int32 → Option TS
  | 0 => fun _ _ _ _ _ _ _ => none
  | n + 1 => fun t v1 v3 v5 v6 v7 v8 => BB_X13_payShares_180 k169 (B_X13_payShares_180 k169 n) t v1 v3 v5 v6 v7 v8
theorem TB_X13_payShares_180 {W : NW} {d : Nat} {Q : Option NV → TS → Prop} {a0 : Nat → Nat → Nat} {e0 : Nat → Nat → Bool} {k169 : TS → Int32 → Int64 → Int32 → Int32 → Option TS} {bc bs : Nat} (hW : W.2.2.2 = mm_fx) (hk169 : ∀ (t : TS) (v1 : Int32) (v2 : Int32) (v3 : Int64) (v5 : Int32) (v6 : Int32) (v7 : Int32) (v8 : Option NV), wp (k169 t v1 v3 v5 v6) (fun r => Q none r) → nX W (d + 2) tX13_payShares Q a0 e0 169 [some (eR (some (13, 0))), some (eI v1), some (eI v2), some (eJ v3), none, some (eI v5), some (eI v6), some (eI v7), v8] [] t bc bs) : ∀ (n : Nat) (t : TS) (v1 : Int32) (v2 : Int32) (v3 : Int64) (v5 : Int32) (v6 : Int32) (v7 : Int32) (v8 : Int32), wp (B_X13_payShares_180 k169 n t v1 v3 v5 v6 v7 v8) (fun r => Q none r) → nX W (d + 2) tX13_payShares Q a0 e0 180 [some (eR (some (13, 0))), some (eI v1), some (eI v2), some (eJ v3), none, some (eI v5), some (eI v6), some (eI v7), some (eI v8)] [] t bc bs := by
  intro n
  induction n with
  | zero => intro t v1 v2 v3 v5 v6 v7 v8 H; exact (wp_none H).elim
  | succ n ih =>
    intro t v1 v2 v3 v5 v6 v7 v8 H
    exact TBB_X13_payShares_180 hW   hk169 ih t v1 v2 v3 v5 v6 v7 v8 H
def BB_X13_payShares_169 (k169 : TS → Int32 → Int64 → Int32 → Int32 → Option TS) (t : TS) (v1 : Int32) (v3 : Int64) (v5 : Int32) (v6 : Int32) : Option TS := (if v6 ≤ 0 then (B_X13_payShares_317  t v1 v5) else (B_X13_payShares_180 k169 10000 t v1 v3 v5 v6 (-1) 0))
theorem TBB_X13_payShares_169 {W : NW} {d : Nat} {Q : Option NV → TS → Prop} {a0 : Nat → Nat → Nat} {e0 : Nat → Nat → Bool} {k169 : TS → Int32 → Int64 → Int32 → Int32 → Option TS} {bc bs : Nat} (hW : W.2.2.2 = mm_fx) (hk169 : ∀ (t : TS) (v1 : Int32) (v2 : Int32) (v3 : Int64) (v5 : Int32) (v6 : Int32) (v7 : Int32) (v8 : Option NV), wp (k169 t v1 v3 v5 v6) (fun r => Q none r) → nX W (d + 2) tX13_payShares Q a0 e0 169 [some (eR (some (13, 0))), some (eI v1), some (eI v2), some (eJ v3), none, some (eI v5), some (eI v6), some (eI v7), v8] [] t bc bs) : ∀ (t : TS) (v1 : Int32) (v2 : Int32) (v3 : Int64) (v5 : Int32) (v6 : Int32) (v7 : Int32) (v8 : Option NV), wp (BB_X13_payShares_169 k169 t v1 v3 v5 v6) (fun r => Q none r) → nX W (d + 2) tX13_payShares Q a0 e0 169 [some (eR (some (13, 0))), some (eI v1), some (eI v2), some (eJ v3), none, some (eI v5), some (eI v6), some (eI v7), v8] [] t bc bs := by
  intro t v1 v2 v3 v5 v6 v7 v8 H
  unfold BB_X13_payShares_169 at H
  refine nx_ld rfl rfl rfl rfl ?_
  refine nx_if rfl rfl (by rfl) H (fun H => ?_) (fun H => ?_)
  · exact TB_X13_payShares_317 hW    _ _ _ _ _ _ _ _ H
  refine nx_int (x := (-1)) rfl rfl ?_
  refine nx_st (ls' := [some (eR (some (13, 0))), some (eI v1), some (eI v2), some (eJ v3), none, some (eI v5), some (eI v6), some (eI (-1)), v8]) rfl rfl rfl (Nat.le_of_ble_eq_true rfl) rfl ?_
  refine nx_int (x := 0) rfl rfl ?_
  refine nx_st (ls' := [some (eR (some (13, 0))), some (eI v1), some (eI v2), some (eJ v3), none, some (eI v5), some (eI v6), some (eI (-1)), some (eI 0)]) rfl rfl rfl (Nat.le_of_ble_eq_true rfl) rfl ?_
  exact TB_X13_payShares_180 hW   hk169 10000 _ _ _ _ _ _ _ _ H
def B_X13_payShares_169 : Nat → TS → Int32 → Int64 → Int32 → Int32 → Option TS
  | 0 => fun _ _ _ _ _ => none
  | n + 1 => fun t v1 v3 v5 v6 => BB_X13_payShares_169 (B_X13_payShares_169 n) t v1 v3 v5 v6
theorem TB_X13_payShares_169 {W : NW} {d : Nat} {Q : Option NV → TS → Prop} {a0 : Nat → Nat → Nat} {e0 : Nat → Nat → Bool} {bc bs : Nat} (hW : W.2.2.2 = mm_fx) : ∀ (n : Nat) (t : TS) (v1 : Int32) (v2 : Int32) (v3 : Int64) (v5 : Int32) (v6 : Int32) (v7 : Int32) (v8 : Option NV), wp (B_X13_payShares_169 n t v1 v3 v5 v6) (fun r => Q none r) → nX W (d + 2) tX13_payShares Q a0 e0 169 [some (eR (some (13, 0))), some (eI v1), some (eI v2), some (eJ v3), none, some (eI v5), some (eI v6), some (eI v7), v8] [] t bc bs := by
  intro n
  induction n with
  | zero => intro t v1 v2 v3 v5 v6 v7 v8 H; exact (wp_none H).elim
  | succ n ih =>
    intro t v1 v2 v3 v5 v6 v7 v8 H
    exact TBB_X13_payShares_169 hW    ih t v1 v2 v3 v5 v6 v7 v8 H
def B_X13_payShares_163 (k84 : TS → Int32 → Int64 → Int32 → Int32 → Int32 → Option TS) (t : TS) (v1 : Int32) (v3 : Int64) (v5 : Int32) (v6 : Int32) (v7 : Int32) : Option TS := (k84 t v1 v3 v5 v6 (v7 + 1))
theorem TB_X13_payShares_163 {W : NW} {d : Nat} {Q : Option NV → TS → Prop} {a0 : Nat → Nat → Nat} {e0 : Nat → Nat → Bool} {k84 : TS → Int32 → Int64 → Int32 → Int32 → Int32 → Option TS} {bc bs : Nat} (hW : W.2.2.2 = mm_fx) (hk84 : ∀ (t : TS) (v1 : Int32) (v2 : Int32) (v3 : Int64) (v5 : Int32) (v6 : Int32) (v7 : Int32), wp (k84 t v1 v3 v5 v6 v7) (fun r => Q none r) → nX W (d + 2) tX13_payShares Q a0 e0 84 [some (eR (some (13, 0))), some (eI v1), some (eI v2), some (eJ v3), none, some (eI v5), some (eI v6), some (eI v7), none] [] t bc bs) : ∀ (t : TS) (v1 : Int32) (v2 : Int32) (v3 : Int64) (v5 : Int32) (v6 : Int32) (v7 : Int32), wp (B_X13_payShares_163 k84 t v1 v3 v5 v6 v7) (fun r => Q none r) → nX W (d + 2) tX13_payShares Q a0 e0 163 [some (eR (some (13, 0))), some (eI v1), some (eI v2), some (eJ v3), none, some (eI v5), some (eI v6), some (eI v7), none] [] t bc bs := by
  intro t v1 v2 v3 v5 v6 v7 H
  unfold B_X13_payShares_163 at H
  refine nx_iinc2 1 (ls' := [some (eR (some (13, 0))), some (eI v1), some (eI v2), some (eJ v3), none, some (eI v5), some (eI v6), some (eI (v7 + 1)), none]) rfl rfl rfl rfl rfl ?_
  refine nx_goto rfl rfl ?_
  exact hk84 _ _ _ _ _ _ _ H
def BB_X13_payShares_84 (k84 : TS → Int32 → Int64 → Int32 → Int32 → Int32 → Option TS) (t : TS) (v1 : Int32) (v3 : Int64) (v5 : Int32) (v6 : Int32) (v7 : Int32) : Option TS := (if (tI t 1307 0) ≤ v7 then (B_X13_payShares_169  10000 t v1 v3 v5 v6) else (gd v1 (tL t 3329 0) (if v7 = (tA t 3329 0 v1.toNatClampNeg) then (B_X13_payShares_163 k84 t v1 v3 v5 v6 v7) else (gd v7 (tL t 3325 0) (if ¬ (tA t 3325 0 v7.toNatClampNeg) = 0 then (gd v7 (tL t 3325 0) (gzJ v3 (gd ((150 * v1) + v7) (tL t 3347 0) (nxt (uA t 3347 0 ((150 * v1) + v7).toNatClampNeg ((((v5.toInt64) * ((tA t 3325 0 v7.toNatClampNeg).toInt64)) / v3).toInt32)) (fun t21 => (gd ((150 * v1) + v7) (tL t21 3347 0) (B_X13_payShares_163 k84 t21 v1 v3 v5 (v6 - (tA t21 3347 0 ((150 * v1) + v7).toNatClampNeg)) v7))))))) else (B_X13_payShares_163 k84 t v1 v3 v5 v6 v7))))))
theorem TBB_X13_payShares_84 {W : NW} {d : Nat} {Q : Option NV → TS → Prop} {a0 : Nat → Nat → Nat} {e0 : Nat → Nat → Bool} {k84 : TS → Int32 → Int64 → Int32 → Int32 → Int32 → Option TS} {bc bs : Nat} (hW : W.2.2.2 = mm_fx) (hk84 : ∀ (t : TS) (v1 : Int32) (v2 : Int32) (v3 : Int64) (v5 : Int32) (v6 : Int32) (v7 : Int32), wp (k84 t v1 v3 v5 v6 v7) (fun r => Q none r) → nX W (d + 2) tX13_payShares Q a0 e0 84 [some (eR (some (13, 0))), some (eI v1), some (eI v2), some (eJ v3), none, some (eI v5), some (eI v6), some (eI v7), none] [] t bc bs) : ∀ (t : TS) (v1 : Int32) (v2 : Int32) (v3 : Int64) (v5 : Int32) (v6 : Int32) (v7 : Int32), wp (BB_X13_payShares_84 k84 t v1 v3 v5 v6 v7) (fun r => Q none r) → nX W (d + 2) tX13_payShares Q a0 e0 84 [some (eR (some (13, 0))), some (eI v1), some (eI v2), some (eJ v3), none, some (eI v5), some (eI v6), some (eI v7), none] [] t bc bs := by
  intro t v1 v2 v3 v5 v6 v7 H
  unfold BB_X13_payShares_84 at H
  refine nx_ld rfl rfl rfl rfl ?_
  refine nx_ld rfl rfl rfl rfl ?_
  refine nx_getI rfl rfl rfl (by decide) ?_
  refine nx_icmp rfl rfl (by rfl) H (fun H => ?_) (fun H => ?_)
  · exact TB_X13_payShares_169 hW    10000 _ _ _ _ _ _ _ _ H
  refine nx_ld rfl rfl rfl rfl ?_
  refine nx_ld rfl rfl rfl rfl ?_
  refine nx_getFix rfl rfl rfl (by decide) (by rw [hW]; rfl) rfl ?_
  refine nx_ld rfl rfl rfl rfl ?_
  refine nx_iald (p := (3329, 0)) rfl rfl (Nat.le_of_ble_eq_true rfl) (Nat.le_of_ble_eq_true rfl) rfl H (fun H => ?_)
  refine nx_icmp rfl rfl (by rfl) H (fun H => ?_) (fun H => ?_)
  · exact TB_X13_payShares_163 hW   hk84 _ _ _ _ _ _ _ H
  refine nx_ld rfl rfl rfl rfl ?_
  refine nx_getFix rfl rfl rfl (by decide) (by rw [hW]; rfl) rfl ?_
  refine nx_ld rfl rfl rfl rfl ?_
  refine nx_iald (p := (3325, 0)) rfl rfl (Nat.le_of_ble_eq_true rfl) (Nat.le_of_ble_eq_true rfl) rfl H (fun H => ?_)
  refine nx_if rfl rfl (by rfl) H (fun H => ?_) (fun H => ?_)
  · refine nx_ld rfl rfl rfl rfl ?_
    refine nx_getFix rfl rfl rfl (by decide) (by rw [hW]; rfl) rfl ?_
    refine nx_int (x := 150) rfl rfl ?_
    refine nx_ld rfl rfl rfl rfl ?_
    refine nx_ii rfl rfl ?_
    refine nx_ld rfl rfl rfl rfl ?_
    refine nx_ii rfl rfl ?_
    show nX _ _ _ _ _ _ 129 _ _ _ _ _
    refine nx_ld rfl rfl rfl rfl ?_
    refine nx_i2l rfl rfl ?_
    refine nx_ld rfl rfl rfl rfl ?_
    refine nx_getFix rfl rfl rfl (by decide) (by rw [hW]; rfl) rfl ?_
    refine nx_ld rfl rfl rfl rfl ?_
    refine nx_iald (p := (3325, 0)) rfl rfl (Nat.le_of_ble_eq_true rfl) (Nat.le_of_ble_eq_true rfl) rfl H (fun H => ?_)
    refine nx_i2l rfl rfl ?_
    refine nx_jj rfl rfl ?_
    show nX _ _ _ _ _ _ 141 _ _ _ _ _
    refine nx_ld rfl rfl rfl rfl ?_
    refine nx_jdiv rfl rfl H (fun H => ?_)
    refine nx_l2i rfl rfl ?_
    refine nx_iast (p := (3347, 0)) rfl rfl (Nat.le_of_ble_eq_true rfl) (Nat.le_of_ble_eq_true rfl) rfl H (fun t21 H => ?_)
    refine nx_ld rfl rfl rfl rfl ?_
    refine nx_ld rfl rfl rfl rfl ?_
    refine nx_getFix rfl rfl rfl (by decide) (by rw [hW]; rfl) rfl ?_
    refine nx_int (x := 150) rfl rfl ?_
    show nX _ _ _ _ _ _ 154 _ _ _ _ _
    refine nx_ld rfl rfl rfl rfl ?_
    refine nx_ii rfl rfl ?_
    refine nx_ld rfl rfl rfl rfl ?_
    refine nx_ii rfl rfl ?_
    refine nx_iald (p := (3347, 0)) rfl rfl (Nat.le_of_ble_eq_true rfl) (Nat.le_of_ble_eq_true rfl) rfl H (fun H => ?_)
    refine nx_ii rfl rfl ?_
    refine nx_st (ls' := [some (eR (some (13, 0))), some (eI v1), some (eI v2), some (eJ v3), none, some (eI v5), some (eI (v6 - (tA t21 3347 0 ((150 * v1) + v7).toNatClampNeg))), some (eI v7), none]) rfl rfl rfl (Nat.le_of_ble_eq_true rfl) rfl ?_
    exact TB_X13_payShares_163 hW   hk84 _ _ _ _ _ _ _ H
  refine nx_goto rfl rfl ?_
  exact TB_X13_payShares_163 hW   hk84 _ _ _ _ _ _ _ H
def B_X13_payShares_84 : Nat → TS → Int32 → Int64 → Int32 → Int32 → Int32 → Option TS
  | 0 => fun _ _ _ _ _ _ => none
  | n + 1 => fun t v1 v3 v5 v6 v7 => BB_X13_payShares_84 (B_X13_payShares_84 n) t v1 v3 v5 v6 v7
theorem TB_X13_payShares_84 {W : NW} {d : Nat} {Q : Option NV → TS → Prop} {a0 : Nat → Nat → Nat} {e0 : Nat → Nat → Bool} {bc bs : Nat} (hW : W.2.2.2 = mm_fx) : ∀ (n : Nat) (t : TS) (v1 : Int32) (v2 : Int32) (v3 : Int64) (v5 : Int32) (v6 : Int32) (v7 : Int32), wp (B_X13_payShares_84 n t v1 v3 v5 v6 v7) (fun r => Q none r) → nX W (d + 2) tX13_payShares Q a0 e0 84 [some (eR (some (13, 0))), some (eI v1), some (eI v2), some (eJ v3), none, some (eI v5), some (eI v6), some (eI v7), none] [] t bc bs := by
  intro n
  induction n with
  | zero => intro t v1 v2 v3 v5 v6 v7 H; exact (wp_none H).elim
  | succ n ih =>
    intro t v1 v2 v3 v5 v6 v7 H
    exact TBB_X13_payShares_84 hW    ih t v1 v2 v3 v5 v6 v7 H
def B_X13_payShares_58 (t : TS) (v1 : Int32) (v3 : Int64) : Option TS := (gd v1 (tL t 3331 0) (Option.bind (F_X13_up t (tA t 3331 0 v1.toNatClampNeg) 5) (fun r21 => (if ¬ (lg_cmp v3 0) = 0 then (B_X13_payShares_84  10000 t v1 v3 r21 r21 0) else (some t)))))
theorem TB_X13_payShares_58 {W : NW} {d : Nat} {Q : Option NV → TS → Prop} {a0 : Nat → Nat → Nat} {e0 : Nat → Nat → Bool} {bc bs : Nat} (hW : W.2.2.2 = mm_fx) : ∀ (t : TS) (v1 : Int32) (v2 : Int32) (v3 : Int64) (v5 : Int32), wp (B_X13_payShares_58 t v1 v3) (fun r => Q none r) → nX W (d + 2) tX13_payShares Q a0 e0 58 [some (eR (some (13, 0))), some (eI v1), some (eI v2), some (eJ v3), none, some (eI v5), none, none, none] [] t bc bs := by
  intro t v1 v2 v3 v5 H
  unfold B_X13_payShares_58 at H
  refine nx_ld rfl rfl rfl rfl ?_
  refine nx_getFix rfl rfl rfl (by decide) (by rw [hW]; rfl) rfl ?_
  refine nx_ld rfl rfl rfl rfl ?_
  refine nx_iald (p := (3331, 0)) rfl rfl (Nat.le_of_ble_eq_true rfl) (Nat.le_of_ble_eq_true rfl) rfl H (fun H => ?_)
  refine nx_int (x := 5) rfl rfl ?_
  refine nx_cSI (as := [eI (tA t 3331 0 v1.toNatClampNeg), eI 5]) (st' := []) rfl rfl (Nat.le_of_ble_eq_true rfl) rfl rfl (Nat.le_of_ble_eq_true rfl) H (fun Q H => TF_X13_up hW  H) (fun r21 H => ?_)
  refine nx_st (ls' := [some (eR (some (13, 0))), some (eI v1), some (eI v2), some (eJ v3), none, some (eI r21), none, none, none]) rfl rfl rfl (Nat.le_of_ble_eq_true rfl) rfl ?_
  show nX _ _ _ _ _ _ 70 _ _ _ _ _
  refine nx_ld rfl rfl rfl rfl ?_
  refine nx_long (x := 0) rfl rfl ?_
  refine nx_lcmp rfl rfl ?_
  refine nx_if rfl rfl (by rfl) H (fun H => ?_) (fun H => ?_)
  · refine nx_ld rfl rfl rfl rfl ?_
    refine nx_st (ls' := [some (eR (some (13, 0))), some (eI v1), some (eI v2), some (eJ v3), none, some (eI r21), some (eI r21), none, none]) rfl rfl rfl (Nat.le_of_ble_eq_true rfl) rfl ?_
    refine nx_int (x := 0) rfl rfl ?_
    refine nx_st (ls' := [some (eR (some (13, 0))), some (eI v1), some (eI v2), some (eJ v3), none, some (eI r21), some (eI r21), some (eI 0), none]) rfl rfl rfl (Nat.le_of_ble_eq_true rfl) rfl ?_
    exact TB_X13_payShares_84 hW    10000 _ _ _ _ _ _ _ H
  exact nx_rv rfl rfl H
def B_X13_payShares_50 (k17 : TS → Int32 → Int64 → Int32 → Option TS) (t : TS) (v1 : Int32) (v5 : Int32) (s0 : Int64) (s1 : Int64) : Option TS := (k17 t v1 (s1 + s0) (v5 + 1))
theorem TB_X13_payShares_50 {W : NW} {d : Nat} {Q : Option NV → TS → Prop} {a0 : Nat → Nat → Nat} {e0 : Nat → Nat → Bool} {k17 : TS → Int32 → Int64 → Int32 → Option TS} {bc bs : Nat} (hW : W.2.2.2 = mm_fx) (hk17 : ∀ (t : TS) (v1 : Int32) (v2 : Int32) (v3 : Int64) (v5 : Int32), wp (k17 t v1 v3 v5) (fun r => Q none r) → nX W (d + 2) tX13_payShares Q a0 e0 17 [some (eR (some (13, 0))), some (eI v1), some (eI v2), some (eJ v3), none, some (eI v5), none, none, none] [] t bc bs) : ∀ (t : TS) (v1 : Int32) (v2 : Int32) (v3 : Int64) (v5 : Int32) (s0 : Int64) (s1 : Int64), wp (B_X13_payShares_50 k17 t v1 v5 s0 s1) (fun r => Q none r) → nX W (d + 2) tX13_payShares Q a0 e0 50 [some (eR (some (13, 0))), some (eI v1), some (eI v2), some (eJ v3), none, some (eI v5), none, none, none] [eJ s0, eJ s1] t bc bs := by
  intro t v1 v2 v3 v5 s0 s1 H
  unfold B_X13_payShares_50 at H
  refine nx_jj rfl rfl ?_
  refine nx_st2 (ls' := [some (eR (some (13, 0))), some (eI v1), some (eI v2), some (eJ (s1 + s0)), none, some (eI v5), none, none, none]) rfl rfl (Nat.le_of_ble_eq_true rfl) rfl ?_
  refine nx_iinc2 1 (ls' := [some (eR (some (13, 0))), some (eI v1), some (eI v2), some (eJ (s1 + s0)), none, some (eI (v5 + 1)), none, none, none]) rfl rfl rfl rfl rfl ?_
  refine nx_goto rfl rfl ?_
  exact hk17 _ _ _ _ _ H
def BB_X13_payShares_17 (k17 : TS → Int32 → Int64 → Int32 → Option TS) (t : TS) (v1 : Int32) (v3 : Int64) (v5 : Int32) : Option TS := (if (tI t 1307 0) ≤ v5 then (B_X13_payShares_58  t v1 v3) else (gd v1 (tL t 3329 0) (if ¬ v5 = (tA t 3329 0 v1.toNatClampNeg) then (gd v5 (tL t 3325 0) (B_X13_payShares_50 k17 t v1 v5 ((tA t 3325 0 v5.toNatClampNeg).toInt64) v3)) else (B_X13_payShares_50 k17 t v1 v5 0 v3))))
theorem TBB_X13_payShares_17 {W : NW} {d : Nat} {Q : Option NV → TS → Prop} {a0 : Nat → Nat → Nat} {e0 : Nat → Nat → Bool} {k17 : TS → Int32 → Int64 → Int32 → Option TS} {bc bs : Nat} (hW : W.2.2.2 = mm_fx) (hk17 : ∀ (t : TS) (v1 : Int32) (v2 : Int32) (v3 : Int64) (v5 : Int32), wp (k17 t v1 v3 v5) (fun r => Q none r) → nX W (d + 2) tX13_payShares Q a0 e0 17 [some (eR (some (13, 0))), some (eI v1), some (eI v2), some (eJ v3), none, some (eI v5), none, none, none] [] t bc bs) : ∀ (t : TS) (v1 : Int32) (v2 : Int32) (v3 : Int64) (v5 : Int32), wp (BB_X13_payShares_17 k17 t v1 v3 v5) (fun r => Q none r) → nX W (d + 2) tX13_payShares Q a0 e0 17 [some (eR (some (13, 0))), some (eI v1), some (eI v2), some (eJ v3), none, some (eI v5), none, none, none] [] t bc bs := by
  intro t v1 v2 v3 v5 H
  unfold BB_X13_payShares_17 at H
  refine nx_ld rfl rfl rfl rfl ?_
  refine nx_ld rfl rfl rfl rfl ?_
  refine nx_getI rfl rfl rfl (by decide) ?_
  refine nx_icmp rfl rfl (by rfl) H (fun H => ?_) (fun H => ?_)
  · exact TB_X13_payShares_58 hW    _ _ _ _ _ H
  refine nx_ld rfl rfl rfl rfl ?_
  refine nx_ld rfl rfl rfl rfl ?_
  refine nx_ld rfl rfl rfl rfl ?_
  refine nx_getFix rfl rfl rfl (by decide) (by rw [hW]; rfl) rfl ?_
  refine nx_ld rfl rfl rfl rfl ?_
  refine nx_iald (p := (3329, 0)) rfl rfl (Nat.le_of_ble_eq_true rfl) (Nat.le_of_ble_eq_true rfl) rfl H (fun H => ?_)
  refine nx_icmp rfl rfl (by rfl) H (fun H => ?_) (fun H => ?_)
  · refine nx_ld rfl rfl rfl rfl ?_
    refine nx_getFix rfl rfl rfl (by decide) (by rw [hW]; rfl) rfl ?_
    refine nx_ld rfl rfl rfl rfl ?_
    refine nx_iald (p := (3325, 0)) rfl rfl (Nat.le_of_ble_eq_true rfl) (Nat.le_of_ble_eq_true rfl) rfl H (fun H => ?_)
    refine nx_i2l rfl rfl ?_
    exact TB_X13_payShares_50 hW   hk17 _ _ _ _ _ _ _ H
  refine nx_long (x := 0) rfl rfl ?_
  refine nx_goto rfl rfl ?_
  exact TB_X13_payShares_50 hW   hk17 _ _ _ _ _ _ _ H
def B_X13_payShares_17 : Nat → TS → Int32 → Int64 → Int32 → Option TS
  | 0 => fun _ _ _ _ => none
  | n + 1 => fun t v1 v3 v5 => BB_X13_payShares_17 (B_X13_payShares_17 n) t v1 v3 v5
theorem TB_X13_payShares_17 {W : NW} {d : Nat} {Q : Option NV → TS → Prop} {a0 : Nat → Nat → Nat} {e0 : Nat → Nat → Bool} {bc bs : Nat} (hW : W.2.2.2 = mm_fx) : ∀ (n : Nat) (t : TS) (v1 : Int32) (v2 : Int32) (v3 : Int64) (v5 : Int32), wp (B_X13_payShares_17 n t v1 v3 v5) (fun r => Q none r) → nX W (d + 2) tX13_payShares Q a0 e0 17 [some (eR (some (13, 0))), some (eI v1), some (eI v2), some (eJ v3), none, some (eI v5), none, none, none] [] t bc bs := by
  intro n
  induction n with
  | zero => intro t v1 v2 v3 v5 H; exact (wp_none H).elim
  | succ n ih =>
    intro t v1 v2 v3 v5 H
    exact TBB_X13_payShares_17 hW    ih t v1 v2 v3 v5 H
def F_X13_payShares (t : TS) (x1 : Int32) : Option TS := (gd x1 (tL t 3328 0) (Option.bind (F_X13_findTaught t (tA t 3328 0 x1.toNatClampNeg)) (fun r21 => (B_X13_payShares_17  10000 r21 x1 0 0))))
theorem TF_X13_payShares {W : NW} {d : Nat} {t : TS} {x1 : Int32} {Q : Option NV → TS → Prop} {bc bs : Nat} (hW : W.2.2.2 = mm_fx) (H : wp (F_X13_payShares t x1) (fun r => Q none r)) : nC W (d + 3) 197 [eR (some (13, 0)), eI x1] t bc bs Q := by
  refine nC_in (d := (d + 2)) (T := tX13_payShares) (ls := [some (eR (some (13, 0))), some (eI x1), none, none, none, none, none, none, none]) rfl (Nat.le_of_ble_eq_true rfl) rfl (fun a0 e0 => ?_)
  unfold F_X13_payShares at H
  refine nx_ld rfl rfl rfl rfl ?_
  refine nx_getFix rfl rfl rfl (by decide) (by rw [hW]; rfl) rfl ?_
  refine nx_ld rfl rfl rfl rfl ?_
  refine nx_iald (p := (3328, 0)) rfl rfl (Nat.le_of_ble_eq_true rfl) (Nat.le_of_ble_eq_true rfl) rfl H (fun H => ?_)
  refine nx_st (ls' := [some (eR (some (13, 0))), some (eI x1), some (eI (tA t 3328 0 x1.toNatClampNeg)), none, none, none, none, none, none]) rfl rfl rfl (Nat.le_of_ble_eq_true rfl) rfl ?_
  refine nx_ld rfl rfl rfl rfl ?_
  refine nx_ld rfl rfl rfl rfl ?_
  show nX _ _ _ _ _ _ 9 _ _ _ _ _
  refine nx_cVVt (as := [eI (tA t 3328 0 x1.toNatClampNeg)]) (st' := []) rfl rfl (Nat.le_of_ble_eq_true rfl) rfl rfl (Nat.le_of_ble_eq_true rfl) (c0 := 13) rfl (by decide) H (fun Q H => TF_X13_findTaught hW  H) (fun r21 H => ?_)
  refine nx_long (x := 0) rfl rfl ?_
  refine nx_st2 (ls' := [some (eR (some (13, 0))), some (eI x1), some (eI (tA t 3328 0 x1.toNatClampNeg)), some (eJ 0), none, none, none, none, none]) rfl rfl (Nat.le_of_ble_eq_true rfl) rfl ?_
  refine nx_int (x := 0) rfl rfl ?_
  refine nx_st (ls' := [some (eR (some (13, 0))), some (eI x1), some (eI (tA t 3328 0 x1.toNatClampNeg)), some (eJ 0), none, some (eI 0), none, none, none]) rfl rfl rfl (Nat.le_of_ble_eq_true rfl) rfl ?_
  exact TB_X13_payShares_17 hW    10000 _ _ _ _ _ H
