/-! functions of methods over the typed heap, and that the runs follow them (by program: wip/whole/walk.py) -/
def B_X13_sale_281 (t : TS) (v8 : Int32) : Option (Int32 × TS) := (gd (1 : Int32) (tL t 3349 0) (Option.bind (F_X13_addMoveSpan t v8 (tA t 3349 0 (1 : Int32).toNatClampNeg) 1) (fun r21 => (gd v8 (tL r21 3340 0) (gd (2 : Int32) (tL r21 3349 0) (gd (tA r21 3340 0 v8.toNatClampNeg) (tL r21 3323 0) (nxt (uA r21 3323 0 (tA r21 3340 0 v8.toNatClampNeg).toNatClampNeg (tA r21 3349 0 (2 : Int32).toNatClampNeg)) (fun t22 => (some (v8, t22))))))))))
theorem TB_X13_sale_281 {W : NW} {d : Nat} {Q : Option NV → TS → Prop} {a0 : Nat → Nat → Nat} {e0 : Nat → Nat → Bool} {bc bs : Nat} (hW : W.2.2.2 = mm_fx) : ∀ (t : TS) (v1 : Int32) (v2 : Int32) (v3 : Int32) (v4 : Int32) (v5 : Int32) (v6 : Int32) (v7 : Int32) (v8 : Int32) (v9 : Int32) (v10 : Int32), wp (B_X13_sale_281 t v8) (fun r => Q (some (eI r.1)) r.2) → nX W (d + 4) tX13_sale Q a0 e0 281 [some (eR (some (13, 0))), some (eI v1), some (eI v2), some (eI v3), some (eI v4), some (eI v5), some (eI v6), some (eI v7), some (eI v8), some (eI v9), some (eI v10)] [] t bc bs := by
  intro t v1 v2 v3 v4 v5 v6 v7 v8 v9 v10 H
  unfold B_X13_sale_281 at H
  refine nx_ld rfl rfl rfl rfl ?_
  refine nx_ld rfl rfl rfl rfl ?_
  refine nx_ld rfl rfl rfl rfl ?_
  refine nx_getFix rfl rfl rfl (by decide) (by rw [hW]; rfl) rfl ?_
  refine nx_int (x := 1) rfl rfl ?_
  refine nx_iald (p := (3349, 0)) rfl rfl (Nat.le_of_ble_eq_true rfl) (Nat.le_of_ble_eq_true rfl) rfl H (fun H => ?_)
  refine nx_int (x := 1) rfl rfl ?_
  show nX _ _ _ _ _ _ 291 _ _ _ _ _
  refine nx_cVVt (as := [eI v8, eI (tA t 3349 0 (1 : Int32).toNatClampNeg), eI 1]) (st' := []) rfl rfl (Nat.le_of_ble_eq_true rfl) rfl rfl (Nat.le_of_ble_eq_true rfl) (c0 := 13) rfl (by decide) H (fun Q H => TF_X13_addMoveSpan hW  H) (fun r21 H => ?_)
  refine nx_ld rfl rfl rfl rfl ?_
  refine nx_getFix rfl rfl rfl (by decide) (by rw [hW]; rfl) rfl ?_
  refine nx_ld rfl rfl rfl rfl ?_
  refine nx_getFix rfl rfl rfl (by decide) (by rw [hW]; rfl) rfl ?_
  refine nx_ld rfl rfl rfl rfl ?_
  refine nx_iald (p := (3340, 0)) rfl rfl (Nat.le_of_ble_eq_true rfl) (Nat.le_of_ble_eq_true rfl) rfl H (fun H => ?_)
  refine nx_ld rfl rfl rfl rfl ?_
  show nX _ _ _ _ _ _ 306 _ _ _ _ _
  refine nx_getFix rfl rfl rfl (by decide) (by rw [hW]; rfl) rfl ?_
  refine nx_int (x := 2) rfl rfl ?_
  refine nx_iald (p := (3349, 0)) rfl rfl (Nat.le_of_ble_eq_true rfl) (Nat.le_of_ble_eq_true rfl) rfl H (fun H => ?_)
  refine nx_iast (p := (3323, 0)) rfl rfl (Nat.le_of_ble_eq_true rfl) (Nat.le_of_ble_eq_true rfl) rfl H (fun t22 H => ?_)
  refine nx_ld rfl rfl rfl rfl ?_
  exact nx_rit rfl rfl H
def BB_X13_sale_242 (k242 : TS → Int32 → Int32 → Option (Int32 × TS)) (t : TS) (v8 : Int32) (v10 : Int32) : Option (Int32 × TS) := (if (tI t 1307 0) ≤ v10 then (B_X13_sale_281  t v8) else (gd v10 (tL t 3310 0) (gd ((150 * v8) + v10) (tL t 3347 0) (gd v10 (tL t 3310 0) (nxt (uA t 3310 0 v10.toNatClampNeg ((tA t 3310 0 v10.toNatClampNeg) + (tA t 3347 0 ((150 * v8) + v10).toNatClampNeg))) (fun t21 => (k242 t21 v8 (v10 + 1))))))))
theorem TBB_X13_sale_242 {W : NW} {d : Nat} {Q : Option NV → TS → Prop} {a0 : Nat → Nat → Nat} {e0 : Nat → Nat → Bool} {k242 : TS → Int32 → Int32 → Option (Int32 × TS)} {bc bs : Nat} (hW : W.2.2.2 = mm_fx) (hk242 : ∀ (t : TS) (v1 : Int32) (v2 : Int32) (v3 : Int32) (v4 : Int32) (v5 : Int32) (v6 : Int32) (v7 : Int32) (v8 : Int32) (v9 : Int32) (v10 : Int32), wp (k242 t v8 v10) (fun r => Q (some (eI r.1)) r.2) → nX W (d + 4) tX13_sale Q a0 e0 242 [some (eR (some (13, 0))), some (eI v1), some (eI v2), some (eI v3), some (eI v4), some (eI v5), some (eI v6), some (eI v7), some (eI v8), some (eI v9), some (eI v10)] [] t bc bs) : ∀ (t : TS) (v1 : Int32) (v2 : Int32) (v3 : Int32) (v4 : Int32) (v5 : Int32) (v6 : Int32) (v7 : Int32) (v8 : Int32) (v9 : Int32) (v10 : Int32), wp (BB_X13_sale_242 k242 t v8 v10) (fun r => Q (some (eI r.1)) r.2) → nX W (d + 4) tX13_sale Q a0 e0 242 [some (eR (some (13, 0))), some (eI v1), some (eI v2), some (eI v3), some (eI v4), some (eI v5), some (eI v6), some (eI v7), some (eI v8), some (eI v9), some (eI v10)] [] t bc bs := by
  intro t v1 v2 v3 v4 v5 v6 v7 v8 v9 v10 H
  unfold BB_X13_sale_242 at H
  refine nx_ld rfl rfl rfl rfl ?_
  refine nx_ld rfl rfl rfl rfl ?_
  refine nx_getI rfl rfl rfl (by decide) ?_
  refine nx_icmp rfl rfl (by rfl) H (fun H => ?_) (fun H => ?_)
  · exact TB_X13_sale_281 hW    _ _ _ _ _ _ _ _ _ _ _ H
  refine nx_ld rfl rfl rfl rfl ?_
  refine nx_getFix rfl rfl rfl (by decide) (by rw [hW]; rfl) rfl ?_
  refine nx_ld rfl rfl rfl rfl ?_
  refine nx_dup2 rfl rfl (Nat.ne_of_beq_eq_false rfl) (Nat.ne_of_beq_eq_false rfl) ?_
  refine nx_iald (p := (3310, 0)) rfl rfl (Nat.le_of_ble_eq_true rfl) (Nat.le_of_ble_eq_true rfl) rfl H (fun H => ?_)
  refine nx_ld rfl rfl rfl rfl ?_
  refine nx_getFix rfl rfl rfl (by decide) (by rw [hW]; rfl) rfl ?_
  show nX _ _ _ _ _ _ 263 _ _ _ _ _
  refine nx_int (x := 150) rfl rfl ?_
  refine nx_ld rfl rfl rfl rfl ?_
  refine nx_ii rfl rfl ?_
  refine nx_ld rfl rfl rfl rfl ?_
  refine nx_ii rfl rfl ?_
  refine nx_iald (p := (3347, 0)) rfl rfl (Nat.le_of_ble_eq_true rfl) (Nat.le_of_ble_eq_true rfl) rfl H (fun H => ?_)
  refine nx_ii rfl rfl ?_
  refine nx_iast (p := (3310, 0)) rfl rfl (Nat.le_of_ble_eq_true rfl) (Nat.le_of_ble_eq_true rfl) rfl H (fun t21 H => ?_)
  show nX _ _ _ _ _ _ 275 _ _ _ _ _
  refine nx_iinc2 1 (ls' := [some (eR (some (13, 0))), some (eI v1), some (eI v2), some (eI v3), some (eI v4), some (eI v5), some (eI v6), some (eI v7), some (eI v8), some (eI v9), some (eI (v10 + 1))]) rfl rfl rfl rfl rfl ?_
  refine nx_goto rfl rfl ?_
  exact hk242 _ _ _ _ _ _ _ _ _ _ _ H
def B_X13_sale_242 : Nat → TS → Int32 → Int32 → Option (Int32 × TS)
  | 0 => fun _ _ _ => none
  | n + 1 => fun t v8 v10 => BB_X13_sale_242 (B_X13_sale_242 n) t v8 v10
theorem TB_X13_sale_242 {W : NW} {d : Nat} {Q : Option NV → TS → Prop} {a0 : Nat → Nat → Nat} {e0 : Nat → Nat → Bool} {bc bs : Nat} (hW : W.2.2.2 = mm_fx) : ∀ (n : Nat) (t : TS) (v1 : Int32) (v2 : Int32) (v3 : Int32) (v4 : Int32) (v5 : Int32) (v6 : Int32) (v7 : Int32) (v8 : Int32) (v9 : Int32) (v10 : Int32), wp (B_X13_sale_242 n t v8 v10) (fun r => Q (some (eI r.1)) r.2) → nX W (d + 4) tX13_sale Q a0 e0 242 [some (eR (some (13, 0))), some (eI v1), some (eI v2), some (eI v3), some (eI v4), some (eI v5), some (eI v6), some (eI v7), some (eI v8), some (eI v9), some (eI v10)] [] t bc bs := by
  intro n
  induction n with
  | zero => intro t v1 v2 v3 v4 v5 v6 v7 v8 v9 v10 H; exact (wp_none H).elim
  | succ n ih =>
    intro t v1 v2 v3 v4 v5 v6 v7 v8 v9 v10 H
    exact TBB_X13_sale_242 hW    ih t v1 v2 v3 v4 v5 v6 v7 v8 v9 v10 H
def B_X13_sale_239 (t : TS) (v8 : Int32) : Option (Int32 × TS) := (B_X13_sale_242  10000 t v8 0)
theorem TB_X13_sale_239 {W : NW} {d : Nat} {Q : Option NV → TS → Prop} {a0 : Nat → Nat → Nat} {e0 : Nat → Nat → Bool} {bc bs : Nat} (hW : W.2.2.2 = mm_fx) : ∀ (t : TS) (v1 : Int32) (v2 : Int32) (v3 : Int32) (v4 : Int32) (v5 : Int32) (v6 : Int32) (v7 : Int32) (v8 : Int32) (v9 : Int32), wp (B_X13_sale_239 t v8) (fun r => Q (some (eI r.1)) r.2) → nX W (d + 4) tX13_sale Q a0 e0 239 [some (eR (some (13, 0))), some (eI v1), some (eI v2), some (eI v3), some (eI v4), some (eI v5), some (eI v6), some (eI v7), some (eI v8), some (eI v9), none] [] t bc bs := by
  intro t v1 v2 v3 v4 v5 v6 v7 v8 v9 H
  unfold B_X13_sale_239 at H
  refine nx_int (x := 0) rfl rfl ?_
  refine nx_st (ls' := [some (eR (some (13, 0))), some (eI v1), some (eI v2), some (eI v3), some (eI v4), some (eI v5), some (eI v6), some (eI v7), some (eI v8), some (eI v9), some (eI 0)]) rfl rfl rfl (Nat.le_of_ble_eq_true rfl) rfl ?_
  exact TB_X13_sale_242 hW    10000 _ _ _ _ _ _ _ _ _ _ _ H
def B_X13_sale_156 (t : TS) (v2 : Int32) (v3 : Int32) (v8 : Int32) (s0 : Int32) (s1 : Int32) : Option (Int32 × TS) := (gd s1 (tL t 3344 0) (nxt (uA t 3344 0 s1.toNatClampNeg s0) (fun t21 => (gd v2 (tL t21 3310 0) (gd v8 (tL t21 3344 0) (gd v2 (tL t21 3310 0) (nxt (uA t21 3310 0 v2.toNatClampNeg ((tA t21 3310 0 v2.toNatClampNeg) - (v3 + (tA t21 3344 0 v8.toNatClampNeg)))) (fun t22 => (gd v8 (tL t22 3329 0) (gd (tA t22 3329 0 v8.toNatClampNeg) (tL t22 3310 0) (gd v8 (tL t22 3341 0) (gd v8 (tL t22 3343 0) (gd (tA t22 3329 0 v8.toNatClampNeg) (tL t22 3310 0) (nxt (uA t22 3310 0 (tA t22 3329 0 v8.toNatClampNeg).toNatClampNeg ((tA t22 3310 0 (tA t22 3329 0 v8.toNatClampNeg).toNatClampNeg) + ((v3 - (tA t22 3341 0 v8.toNatClampNeg)) - (tA t22 3343 0 v8.toNatClampNeg)))) (fun t23 => (gd v8 (tL t23 3342 0) (if (tA t23 3342 0 v8.toNatClampNeg) < 0 then (B_X13_sale_239  t23 v8) else (gd v8 (tL t23 3342 0) (gd (tA t23 3342 0 v8.toNatClampNeg) (tL t23 3310 0) (gd v8 (tL t23 3341 0) (gd (tA t23 3342 0 v8.toNatClampNeg) (tL t23 3310 0) (nxt (uA t23 3310 0 (tA t23 3342 0 v8.toNatClampNeg).toNatClampNeg ((tA t23 3310 0 (tA t23 3342 0 v8.toNatClampNeg).toNatClampNeg) + (tA t23 3341 0 v8.toNatClampNeg))) (fun t24 => (B_X13_sale_239  t24 v8))))))))))))))))))))))))
theorem TB_X13_sale_156 {W : NW} {d : Nat} {Q : Option NV → TS → Prop} {a0 : Nat → Nat → Nat} {e0 : Nat → Nat → Bool} {bc bs : Nat} (hW : W.2.2.2 = mm_fx) : ∀ (t : TS) (v1 : Int32) (v2 : Int32) (v3 : Int32) (v4 : Int32) (v5 : Int32) (v6 : Int32) (v7 : Int32) (v8 : Int32) (v9 : Int32) (s0 : Int32) (s1 : Int32), wp (B_X13_sale_156 t v2 v3 v8 s0 s1) (fun r => Q (some (eI r.1)) r.2) → nX W (d + 4) tX13_sale Q a0 e0 156 [some (eR (some (13, 0))), some (eI v1), some (eI v2), some (eI v3), some (eI v4), some (eI v5), some (eI v6), some (eI v7), some (eI v8), some (eI v9), none] [eI s0, eI s1, eR (some (3344, 0))] t bc bs := by
  intro t v1 v2 v3 v4 v5 v6 v7 v8 v9 s0 s1 H
  unfold B_X13_sale_156 at H
  refine nx_iast (p := (3344, 0)) rfl rfl (Nat.le_of_ble_eq_true rfl) (Nat.le_of_ble_eq_true rfl) rfl H (fun t21 H => ?_)
  refine nx_ld rfl rfl rfl rfl ?_
  refine nx_getFix rfl rfl rfl (by decide) (by rw [hW]; rfl) rfl ?_
  refine nx_ld rfl rfl rfl rfl ?_
  refine nx_dup2 rfl rfl (Nat.ne_of_beq_eq_false rfl) (Nat.ne_of_beq_eq_false rfl) ?_
  refine nx_iald (p := (3310, 0)) rfl rfl (Nat.le_of_ble_eq_true rfl) (Nat.le_of_ble_eq_true rfl) rfl H (fun H => ?_)
  refine nx_ld rfl rfl rfl rfl ?_
  show nX _ _ _ _ _ _ 165 _ _ _ _ _
  refine nx_ld rfl rfl rfl rfl ?_
  refine nx_getFix rfl rfl rfl (by decide) (by rw [hW]; rfl) rfl ?_
  refine nx_ld rfl rfl rfl rfl ?_
  refine nx_iald (p := (3344, 0)) rfl rfl (Nat.le_of_ble_eq_true rfl) (Nat.le_of_ble_eq_true rfl) rfl H (fun H => ?_)
  refine nx_ii rfl rfl ?_
  refine nx_ii rfl rfl ?_
  refine nx_iast (p := (3310, 0)) rfl rfl (Nat.le_of_ble_eq_true rfl) (Nat.le_of_ble_eq_true rfl) rfl H (fun t22 H => ?_)
  refine nx_ld rfl rfl rfl rfl ?_
  show nX _ _ _ _ _ _ 176 _ _ _ _ _
  refine nx_getFix rfl rfl rfl (by decide) (by rw [hW]; rfl) rfl ?_
  refine nx_ld rfl rfl rfl rfl ?_
  refine nx_getFix rfl rfl rfl (by decide) (by rw [hW]; rfl) rfl ?_
  refine nx_ld rfl rfl rfl rfl ?_
  refine nx_iald (p := (3329, 0)) rfl rfl (Nat.le_of_ble_eq_true rfl) (Nat.le_of_ble_eq_true rfl) rfl H (fun H => ?_)
  refine nx_dup2 rfl rfl (Nat.ne_of_beq_eq_false rfl) (Nat.ne_of_beq_eq_false rfl) ?_
  refine nx_iald (p := (3310, 0)) rfl rfl (Nat.le_of_ble_eq_true rfl) (Nat.le_of_ble_eq_true rfl) rfl H (fun H => ?_)
  refine nx_ld rfl rfl rfl rfl ?_
  show nX _ _ _ _ _ _ 189 _ _ _ _ _
  refine nx_ld rfl rfl rfl rfl ?_
  refine nx_getFix rfl rfl rfl (by decide) (by rw [hW]; rfl) rfl ?_
  refine nx_ld rfl rfl rfl rfl ?_
  refine nx_iald (p := (3341, 0)) rfl rfl (Nat.le_of_ble_eq_true rfl) (Nat.le_of_ble_eq_true rfl) rfl H (fun H => ?_)
  refine nx_ii rfl rfl ?_
  refine nx_ld rfl rfl rfl rfl ?_
  refine nx_getFix rfl rfl rfl (by decide) (by rw [hW]; rfl) rfl ?_
  refine nx_ld rfl rfl rfl rfl ?_
  show nX _ _ _ _ _ _ 203 _ _ _ _ _
  refine nx_iald (p := (3343, 0)) rfl rfl (Nat.le_of_ble_eq_true rfl) (Nat.le_of_ble_eq_true rfl) rfl H (fun H => ?_)
  refine nx_ii rfl rfl ?_
  refine nx_ii rfl rfl ?_
  refine nx_iast (p := (3310, 0)) rfl rfl (Nat.le_of_ble_eq_true rfl) (Nat.le_of_ble_eq_true rfl) rfl H (fun t23 H => ?_)
  refine nx_ld rfl rfl rfl rfl ?_
  refine nx_getFix rfl rfl rfl (by decide) (by rw [hW]; rfl) rfl ?_
  refine nx_ld rfl rfl rfl rfl ?_
  refine nx_iald (p := (3342, 0)) rfl rfl (Nat.le_of_ble_eq_true rfl) (Nat.le_of_ble_eq_true rfl) rfl H (fun H => ?_)
  show nX _ _ _ _ _ _ 214 _ _ _ _ _
  refine nx_if rfl rfl (by rfl) H (fun H => ?_) (fun H => ?_)
  · exact TB_X13_sale_239 hW    _ _ _ _ _ _ _ _ _ _ H
  refine nx_ld rfl rfl rfl rfl ?_
  refine nx_getFix rfl rfl rfl (by decide) (by rw [hW]; rfl) rfl ?_
  refine nx_ld rfl rfl rfl rfl ?_
  refine nx_getFix rfl rfl rfl (by decide) (by rw [hW]; rfl) rfl ?_
  refine nx_ld rfl rfl rfl rfl ?_
  refine nx_iald (p := (3342, 0)) rfl rfl (Nat.le_of_ble_eq_true rfl) (Nat.le_of_ble_eq_true rfl) rfl H (fun H => ?_)
  refine nx_dup2 rfl rfl (Nat.ne_of_beq_eq_false rfl) (Nat.ne_of_beq_eq_false rfl) ?_
  show nX _ _ _ _ _ _ 229 _ _ _ _ _
  refine nx_iald (p := (3310, 0)) rfl rfl (Nat.le_of_ble_eq_true rfl) (Nat.le_of_ble_eq_true rfl) rfl H (fun H => ?_)
  refine nx_ld rfl rfl rfl rfl ?_
  refine nx_getFix rfl rfl rfl (by decide) (by rw [hW]; rfl) rfl ?_
  refine nx_ld rfl rfl rfl rfl ?_
  refine nx_iald (p := (3341, 0)) rfl rfl (Nat.le_of_ble_eq_true rfl) (Nat.le_of_ble_eq_true rfl) rfl H (fun H => ?_)
  refine nx_ii rfl rfl ?_
  refine nx_iast (p := (3310, 0)) rfl rfl (Nat.le_of_ble_eq_true rfl) (Nat.le_of_ble_eq_true rfl) rfl H (fun t24 H => ?_)
  exact TB_X13_sale_239 hW    _ _ _ _ _ _ _ _ _ _ H
def B_X13_sale_126 (t : TS) (v1 : Int32) (v2 : Int32) (v3 : Int32) (v8 : Int32) : Option (Int32 × TS) := (Option.bind (F_X13_payShares t v8) (fun r21 => (gd v1 (tL r21 3314 0) (if 0 ≤ (tA r21 3314 0 v1.toNatClampNeg) then (Option.bind (F_X13_up r21 v3 3) (fun r22 => (B_X13_sale_156  r21 v2 v3 v8 r22 v8))) else (B_X13_sale_156  r21 v2 v3 v8 0 v8)))))
theorem TB_X13_sale_126 {W : NW} {d : Nat} {Q : Option NV → TS → Prop} {a0 : Nat → Nat → Nat} {e0 : Nat → Nat → Bool} {bc bs : Nat} (hW : W.2.2.2 = mm_fx) : ∀ (t : TS) (v1 : Int32) (v2 : Int32) (v3 : Int32) (v4 : Int32) (v5 : Int32) (v6 : Int32) (v7 : Int32) (v8 : Int32) (v9 : Int32), wp (B_X13_sale_126 t v1 v2 v3 v8) (fun r => Q (some (eI r.1)) r.2) → nX W (d + 4) tX13_sale Q a0 e0 126 [some (eR (some (13, 0))), some (eI v1), some (eI v2), some (eI v3), some (eI v4), some (eI v5), some (eI v6), some (eI v7), some (eI v8), some (eI v9), none] [] t bc bs := by
  intro t v1 v2 v3 v4 v5 v6 v7 v8 v9 H
  unfold B_X13_sale_126 at H
  refine nx_ld rfl rfl rfl rfl ?_
  refine nx_ld rfl rfl rfl rfl ?_
  refine nx_cVVt (as := [eI v8]) (st' := []) rfl rfl (Nat.le_of_ble_eq_true rfl) rfl rfl (Nat.le_of_ble_eq_true rfl) (c0 := 13) rfl (by decide) H (fun Q H => TF_X13_payShares hW  H) (fun r21 H => ?_)
  refine nx_ld rfl rfl rfl rfl ?_
  refine nx_getFix rfl rfl rfl (by decide) (by rw [hW]; rfl) rfl ?_
  refine nx_ld rfl rfl rfl rfl ?_
  refine nx_ld rfl rfl rfl rfl ?_
  show nX _ _ _ _ _ _ 139 _ _ _ _ _
  refine nx_getFix rfl rfl rfl (by decide) (by rw [hW]; rfl) rfl ?_
  refine nx_ld rfl rfl rfl rfl ?_
  refine nx_iald (p := (3314, 0)) rfl rfl (Nat.le_of_ble_eq_true rfl) (Nat.le_of_ble_eq_true rfl) rfl H (fun H => ?_)
  refine nx_if rfl rfl (by rfl) H (fun H => ?_) (fun H => ?_)
  · refine nx_ld rfl rfl rfl rfl ?_
    refine nx_int (x := 3) rfl rfl ?_
    refine nx_cSI (as := [eI v3, eI 3]) (st' := [eI v8, eR (some (3344, 0))]) rfl rfl (Nat.le_of_ble_eq_true rfl) rfl rfl (Nat.le_of_ble_eq_true rfl) H (fun Q H => TF_X13_up hW  H) (fun r22 H => ?_)
    exact TB_X13_sale_156 hW    _ _ _ _ _ _ _ _ _ _ _ _ H
  refine nx_int (x := 0) rfl rfl ?_
  refine nx_goto rfl rfl ?_
  exact TB_X13_sale_156 hW    _ _ _ _ _ _ _ _ _ _ _ _ H
def F_X13_sale (t : TS) (x1 : Int32) (x2 : Int32) (x3 : Int32) (x4 : Int32) (x5 : Int32) (x6 : Int32) : Option (Int32 × TS) := (Option.bind (F_X13_ownSpan t x1 (tI t 1301 0)) (fun r21 => (ob2 (F_X13_addMove t x1 x2 x3 0) (fun x23 t24 => (gd (3 : Int32) (tL t24 3349 0) (gd x23 (tL t24 3335 0) (nxt (uA t24 3335 0 x23.toNatClampNeg (tA t24 3349 0 (3 : Int32).toNatClampNeg)) (fun t25 => (gd x23 (tL t25 3336 0) (nxt (uA t25 3336 0 x23.toNatClampNeg x4) (fun t26 => (gd x23 (tL t26 3337 0) (nxt (uA t26 3337 0 x23.toNatClampNeg x5) (fun t27 => (gd x23 (tL t27 3338 0) (nxt (uA t27 3338 0 x23.toNatClampNeg x6) (fun t28 => (gd r21 (tL t28 3324 0) (if (tA t28 3324 0 r21.toNatClampNeg) < 0 then (B_X13_sale_126  t28 x1 x2 x3 x23) else (gd (tA t28 3324 0 r21.toNatClampNeg) (tL t28 3331 0) (if x3 ≤ (tA t28 3331 0 (tA t28 3324 0 r21.toNatClampNeg).toNatClampNeg) then (B_X13_sale_126  t28 x1 x2 x3 x23) else (gd (tA t28 3324 0 r21.toNatClampNeg) (tL t28 3331 0) (gd (tA t28 3324 0 r21.toNatClampNeg) (tL t28 3336 0) (Option.bind (F_X13_up t28 (x3 - (tA t28 3331 0 (tA t28 3324 0 r21.toNatClampNeg).toNatClampNeg)) (tA t28 3336 0 (tA t28 3324 0 r21.toNatClampNeg).toNatClampNeg)) (fun r29 => (gd x23 (tL t28 3341 0) (nxt (uA t28 3341 0 x23.toNatClampNeg r29) (fun t30 => (gd (tA t28 3324 0 r21.toNatClampNeg) (tL t30 3329 0) (gd x23 (tL t30 3342 0) (nxt (uA t30 3342 0 x23.toNatClampNeg (tA t30 3329 0 (tA t28 3324 0 r21.toNatClampNeg).toNatClampNeg)) (fun t31 => (B_X13_sale_126  t31 x1 x2 x3 x23)))))))))))))))))))))))))))))))))
theorem TF_X13_sale {W : NW} {d : Nat} {t : TS} {x1 : Int32} {x2 : Int32} {x3 : Int32} {x4 : Int32} {x5 : Int32} {x6 : Int32} {Q : Option NV → TS → Prop} {bc bs : Nat} (hW : W.2.2.2 = mm_fx) (H : wp (F_X13_sale t x1 x2 x3 x4 x5 x6) (fun r => Q (some (eI r.1)) r.2)) : nC W (d + 5) 198 [eR (some (13, 0)), eI x1, eI x2, eI x3, eI x4, eI x5, eI x6] t bc bs Q := by
  refine nC_in (d := (d + 4)) (T := tX13_sale) (ls := [some (eR (some (13, 0))), some (eI x1), some (eI x2), some (eI x3), some (eI x4), some (eI x5), some (eI x6), none, none, none, none]) rfl (Nat.le_of_ble_eq_true rfl) rfl (fun a0 e0 => ?_)
  unfold F_X13_sale at H
  refine nx_ld rfl rfl rfl rfl ?_
  refine nx_ld rfl rfl rfl rfl ?_
  refine nx_ld rfl rfl rfl rfl ?_
  refine nx_getI rfl rfl rfl (by decide) ?_
  refine nx_cVI (as := [eI x1, eI (tI t 1301 0)]) (st' := []) rfl rfl (Nat.le_of_ble_eq_true rfl) rfl rfl (Nat.le_of_ble_eq_true rfl) (c0 := 13) rfl (by decide) H (fun Q H => TF_X13_ownSpan hW  H) (fun r21 H => ?_)
  refine nx_st (ls' := [some (eR (some (13, 0))), some (eI x1), some (eI x2), some (eI x3), some (eI x4), some (eI x5), some (eI x6), some (eI r21), none, none, none]) rfl rfl rfl (Nat.le_of_ble_eq_true rfl) rfl ?_
  refine nx_ld rfl rfl rfl rfl ?_
  show nX _ _ _ _ _ _ 12 _ _ _ _ _
  refine nx_ld rfl rfl rfl rfl ?_
  refine nx_ld rfl rfl rfl rfl ?_
  refine nx_ld rfl rfl rfl rfl ?_
  refine nx_int (x := 0) rfl rfl ?_
  refine nx_cVI2 (as := [eI x1, eI x2, eI x3, eI 0]) (st' := []) rfl rfl (Nat.le_of_ble_eq_true rfl) rfl rfl (Nat.le_of_ble_eq_true rfl) (c0 := 13) rfl (by decide) H (fun Q H => TF_X13_addMove hW  H) (fun x23 t24 H => ?_)
  refine nx_st (ls' := [some (eR (some (13, 0))), some (eI x1), some (eI x2), some (eI x3), some (eI x4), some (eI x5), some (eI x6), some (eI r21), some (eI x23), none, none]) rfl rfl rfl (Nat.le_of_ble_eq_true rfl) rfl ?_
  refine nx_ld rfl rfl rfl rfl ?_
  refine nx_getFix rfl rfl rfl (by decide) (by rw [hW]; rfl) rfl ?_
  show nX _ _ _ _ _ _ 25 _ _ _ _ _
  refine nx_ld rfl rfl rfl rfl ?_
  refine nx_ld rfl rfl rfl rfl ?_
  refine nx_getFix rfl rfl rfl (by decide) (by rw [hW]; rfl) rfl ?_
  refine nx_int (x := 3) rfl rfl ?_
  refine nx_iald (p := (3349, 0)) rfl rfl (Nat.le_of_ble_eq_true rfl) (Nat.le_of_ble_eq_true rfl) rfl H (fun H => ?_)
  refine nx_iast (p := (3335, 0)) rfl rfl (Nat.le_of_ble_eq_true rfl) (Nat.le_of_ble_eq_true rfl) rfl H (fun t25 H => ?_)
  refine nx_ld rfl rfl rfl rfl ?_
  refine nx_getFix rfl rfl rfl (by decide) (by rw [hW]; rfl) rfl ?_
  show nX _ _ _ _ _ _ 38 _ _ _ _ _
  refine nx_ld rfl rfl rfl rfl ?_
  refine nx_ld rfl rfl rfl rfl ?_
  refine nx_iast (p := (3336, 0)) rfl rfl (Nat.le_of_ble_eq_true rfl) (Nat.le_of_ble_eq_true rfl) rfl H (fun t26 H => ?_)
  refine nx_ld rfl rfl rfl rfl ?_
  refine nx_getFix rfl rfl rfl (by decide) (by rw [hW]; rfl) rfl ?_
  refine nx_ld rfl rfl rfl rfl ?_
  refine nx_ld rfl rfl rfl rfl ?_
  refine nx_iast (p := (3337, 0)) rfl rfl (Nat.le_of_ble_eq_true rfl) (Nat.le_of_ble_eq_true rfl) rfl H (fun t27 H => ?_)
  show nX _ _ _ _ _ _ 52 _ _ _ _ _
  refine nx_ld rfl rfl rfl rfl ?_
  refine nx_getFix rfl rfl rfl (by decide) (by rw [hW]; rfl) rfl ?_
  refine nx_ld rfl rfl rfl rfl ?_
  refine nx_ld rfl rfl rfl rfl ?_
  refine nx_iast (p := (3338, 0)) rfl rfl (Nat.le_of_ble_eq_true rfl) (Nat.le_of_ble_eq_true rfl) rfl H (fun t28 H => ?_)
  refine nx_ld rfl rfl rfl rfl ?_
  refine nx_getFix rfl rfl rfl (by decide) (by rw [hW]; rfl) rfl ?_
  refine nx_ld rfl rfl rfl rfl ?_
  show nX _ _ _ _ _ _ 67 _ _ _ _ _
  refine nx_iald (p := (3324, 0)) rfl rfl (Nat.le_of_ble_eq_true rfl) (Nat.le_of_ble_eq_true rfl) rfl H (fun H => ?_)
  refine nx_st (ls' := [some (eR (some (13, 0))), some (eI x1), some (eI x2), some (eI x3), some (eI x4), some (eI x5), some (eI x6), some (eI r21), some (eI x23), some (eI (tA t28 3324 0 r21.toNatClampNeg)), none]) rfl rfl rfl (Nat.le_of_ble_eq_true rfl) rfl ?_
  refine nx_ld rfl rfl rfl rfl ?_
  refine nx_if rfl rfl (by rfl) H (fun H => ?_) (fun H => ?_)
  · exact TB_X13_sale_126 hW    _ _ _ _ _ _ _ _ _ _ H
  refine nx_ld rfl rfl rfl rfl ?_
  refine nx_ld rfl rfl rfl rfl ?_
  refine nx_getFix rfl rfl rfl (by decide) (by rw [hW]; rfl) rfl ?_
  refine nx_ld rfl rfl rfl rfl ?_
  refine nx_iald (p := (3331, 0)) rfl rfl (Nat.le_of_ble_eq_true rfl) (Nat.le_of_ble_eq_true rfl) rfl H (fun H => ?_)
  refine nx_icmp rfl rfl (by rfl) H (fun H => ?_) (fun H => ?_)
  · exact TB_X13_sale_126 hW    _ _ _ _ _ _ _ _ _ _ H
  refine nx_ld rfl rfl rfl rfl ?_
  refine nx_getFix rfl rfl rfl (by decide) (by rw [hW]; rfl) rfl ?_
  refine nx_ld rfl rfl rfl rfl ?_
  refine nx_ld rfl rfl rfl rfl ?_
  refine nx_ld rfl rfl rfl rfl ?_
  refine nx_getFix rfl rfl rfl (by decide) (by rw [hW]; rfl) rfl ?_
  refine nx_ld rfl rfl rfl rfl ?_
  show nX _ _ _ _ _ _ 99 _ _ _ _ _
  refine nx_iald (p := (3331, 0)) rfl rfl (Nat.le_of_ble_eq_true rfl) (Nat.le_of_ble_eq_true rfl) rfl H (fun H => ?_)
  refine nx_ii rfl rfl ?_
  refine nx_ld rfl rfl rfl rfl ?_
  refine nx_getFix rfl rfl rfl (by decide) (by rw [hW]; rfl) rfl ?_
  refine nx_ld rfl rfl rfl rfl ?_
  refine nx_iald (p := (3336, 0)) rfl rfl (Nat.le_of_ble_eq_true rfl) (Nat.le_of_ble_eq_true rfl) rfl H (fun H => ?_)
  refine nx_cSI (as := [eI (x3 - (tA t28 3331 0 (tA t28 3324 0 r21.toNatClampNeg).toNatClampNeg)), eI (tA t28 3336 0 (tA t28 3324 0 r21.toNatClampNeg).toNatClampNeg)]) (st' := [eI x23, eR (some (3341, 0))]) rfl rfl (Nat.le_of_ble_eq_true rfl) rfl rfl (Nat.le_of_ble_eq_true rfl) H (fun Q H => TF_X13_up hW  H) (fun r29 H => ?_)
  refine nx_iast (p := (3341, 0)) rfl rfl (Nat.le_of_ble_eq_true rfl) (Nat.le_of_ble_eq_true rfl) rfl H (fun t30 H => ?_)
  show nX _ _ _ _ _ _ 112 _ _ _ _ _
  refine nx_ld rfl rfl rfl rfl ?_
  refine nx_getFix rfl rfl rfl (by decide) (by rw [hW]; rfl) rfl ?_
  refine nx_ld rfl rfl rfl rfl ?_
  refine nx_ld rfl rfl rfl rfl ?_
  refine nx_getFix rfl rfl rfl (by decide) (by rw [hW]; rfl) rfl ?_
  refine nx_ld rfl rfl rfl rfl ?_
  refine nx_iald (p := (3329, 0)) rfl rfl (Nat.le_of_ble_eq_true rfl) (Nat.le_of_ble_eq_true rfl) rfl H (fun H => ?_)
  refine nx_iast (p := (3342, 0)) rfl rfl (Nat.le_of_ble_eq_true rfl) (Nat.le_of_ble_eq_true rfl) rfl H (fun t31 H => ?_)
  exact TB_X13_sale_126 hW    _ _ _ _ _ _ _ _ _ _ H
def F_X13_sell (t : TS) (x1 : Int32) (x2 : Int32) : Option (Int32 × TS) := (Option.bind (F_X13_isPlayer t x1) (fun r21 => (if r21 = 0 then (some ((-1), t)) else (Option.bind (F_X13_isClub t x2) (fun r22 => (if r22 = 0 then (some ((-1), t)) else (gd (1 : Int32) (tL t 3349 0) (if (tI t 1301 0) ≤ (tA t 3349 0 (1 : Int32).toNatClampNeg) then (Option.bind (F_X13_ownerOn t x1 (tI t 1301 0)) (fun r23 => (if 0 ≤ r23 then (gd (0 : Int32) (tL t 3349 0) (ob2 (F_X13_whyNot t x1 x2 0 (tA t 3349 0 (0 : Int32).toNatClampNeg) 1 6) (fun x25 t26 => (if x25 ≤ 0 then (if (tI t26 1327 0) = 200 then (some ((-3), t26)) else (if ¬ (tI t26 1316 0) = 600 then (gd (0 : Int32) (tL t26 3349 0) (gd (4 : Int32) (tL t26 3349 0) (gd (5 : Int32) (tL t26 3349 0) (gd (6 : Int32) (tL t26 3349 0) (ob2 (F_X13_sale t26 x1 x2 (tA t26 3349 0 (0 : Int32).toNatClampNeg) (tA t26 3349 0 (4 : Int32).toNatClampNeg) (tA t26 3349 0 (5 : Int32).toNatClampNeg) (tA t26 3349 0 (6 : Int32).toNatClampNeg)) (fun x28 t29 => (some (x28, t29)))))))) else (some ((-3), t26)))) else (some (((-20) - x25), t26)))))) else (some ((-2), t))))) else (some ((-1), t))))))))))
theorem TF_X13_sell {W : NW} {d : Nat} {t : TS} {x1 : Int32} {x2 : Int32} {Q : Option NV → TS → Prop} {bc bs : Nat} (hW : W.2.2.2 = mm_fx) (H : wp (F_X13_sell t x1 x2) (fun r => Q (some (eI r.1)) r.2)) : nC W (d + 9) 199 [eR (some (13, 0)), eI x1, eI x2] t bc bs Q := by
  refine nC_in (d := (d + 8)) (T := tX13_sell) (ls := [some (eR (some (13, 0))), some (eI x1), some (eI x2), none]) rfl (Nat.le_of_ble_eq_true rfl) rfl (fun a0 e0 => ?_)
  unfold F_X13_sell at H
  refine nx_ld rfl rfl rfl rfl ?_
  refine nx_ld rfl rfl rfl rfl ?_
  refine nx_cVI (as := [eI x1]) (st' := []) rfl rfl (Nat.le_of_ble_eq_true rfl) rfl rfl (Nat.le_of_ble_eq_true rfl) (c0 := 13) rfl (by decide) H (fun Q H => TF_X13_isPlayer hW  H) (fun r21 H => ?_)
  refine nx_if rfl rfl (by rfl) H (fun H => ?_) (fun H => ?_)
  · refine nx_int (x := (-1)) rfl rfl ?_
    exact nx_rit rfl rfl H
  refine nx_ld rfl rfl rfl rfl ?_
  refine nx_ld rfl rfl rfl rfl ?_
  refine nx_cVI (as := [eI x2]) (st' := []) rfl rfl (Nat.le_of_ble_eq_true rfl) rfl rfl (Nat.le_of_ble_eq_true rfl) (c0 := 13) rfl (by decide) H (fun Q H => TF_X13_isClub hW  H) (fun r22 H => ?_)
  refine nx_if rfl rfl (by rfl) H (fun H => ?_) (fun H => ?_)
  · refine nx_int (x := (-1)) rfl rfl ?_
    exact nx_rit rfl rfl H
  refine nx_ld rfl rfl rfl rfl ?_
  refine nx_getFix rfl rfl rfl (by decide) (by rw [hW]; rfl) rfl ?_
  refine nx_int (x := 1) rfl rfl ?_
  refine nx_iald (p := (3349, 0)) rfl rfl (Nat.le_of_ble_eq_true rfl) (Nat.le_of_ble_eq_true rfl) rfl H (fun H => ?_)
  refine nx_ld rfl rfl rfl rfl ?_
  refine nx_getI rfl rfl rfl (by decide) ?_
  refine nx_icmp rfl rfl (by rfl) H (fun H => ?_) (fun H => ?_)
  · refine nx_ld rfl rfl rfl rfl ?_
    refine nx_ld rfl rfl rfl rfl ?_
    refine nx_ld rfl rfl rfl rfl ?_
    refine nx_getI rfl rfl rfl (by decide) ?_
    refine nx_cVI (as := [eI x1, eI (tI t 1301 0)]) (st' := []) rfl rfl (Nat.le_of_ble_eq_true rfl) rfl rfl (Nat.le_of_ble_eq_true rfl) (c0 := 13) rfl (by decide) H (fun Q H => TF_X13_ownerOn hW  H) (fun r23 H => ?_)
    refine nx_if rfl rfl (by rfl) H (fun H => ?_) (fun H => ?_)
    · refine nx_ld rfl rfl rfl rfl ?_
      refine nx_ld rfl rfl rfl rfl ?_
      refine nx_ld rfl rfl rfl rfl ?_
      refine nx_int (x := 0) rfl rfl ?_
      refine nx_ld rfl rfl rfl rfl ?_
      refine nx_getFix rfl rfl rfl (by decide) (by rw [hW]; rfl) rfl ?_
      refine nx_int (x := 0) rfl rfl ?_
      show nX _ _ _ _ _ _ 55 _ _ _ _ _
      refine nx_iald (p := (3349, 0)) rfl rfl (Nat.le_of_ble_eq_true rfl) (Nat.le_of_ble_eq_true rfl) rfl H (fun H => ?_)
      refine nx_int (x := 1) rfl rfl ?_
      refine nx_int (x := 6) rfl rfl ?_
      refine nx_cVI2 (as := [eI x1, eI x2, eI 0, eI (tA t 3349 0 (0 : Int32).toNatClampNeg), eI 1, eI 6]) (st' := []) rfl rfl (Nat.le_of_ble_eq_true rfl) rfl rfl (Nat.le_of_ble_eq_true rfl) (c0 := 13) rfl (by decide) H (fun Q H => TF_X13_whyNot hW  H) (fun x25 t26 H => ?_)
      refine nx_st (ls' := [some (eR (some (13, 0))), some (eI x1), some (eI x2), some (eI x25)]) rfl rfl rfl (Nat.le_of_ble_eq_true rfl) rfl ?_
      refine nx_ld rfl rfl rfl rfl ?_
      refine nx_if rfl rfl (by rfl) H (fun H => ?_) (fun H => ?_)
      · refine nx_ld rfl rfl rfl rfl ?_
        refine nx_getI rfl rfl rfl (by decide) ?_
        refine nx_int (x := 200) rfl rfl ?_
        refine nx_icmp rfl rfl (by rfl) H (fun H => ?_) (fun H => ?_)
        · refine nx_int (x := (-3)) rfl rfl ?_
          exact nx_rit rfl rfl H
        refine nx_ld rfl rfl rfl rfl ?_
        refine nx_getI rfl rfl rfl (by decide) ?_
        refine nx_int (x := 600) rfl rfl ?_
        refine nx_icmp rfl rfl (by rfl) H (fun H => ?_) (fun H => ?_)
        · refine nx_ld rfl rfl rfl rfl ?_
          refine nx_ld rfl rfl rfl rfl ?_
          refine nx_ld rfl rfl rfl rfl ?_
          refine nx_ld rfl rfl rfl rfl ?_
          refine nx_getFix rfl rfl rfl (by decide) (by rw [hW]; rfl) rfl ?_
          refine nx_int (x := 0) rfl rfl ?_
          refine nx_iald (p := (3349, 0)) rfl rfl (Nat.le_of_ble_eq_true rfl) (Nat.le_of_ble_eq_true rfl) rfl H (fun H => ?_)
          show nX _ _ _ _ _ _ 104 _ _ _ _ _
          refine nx_ld rfl rfl rfl rfl ?_
          refine nx_getFix rfl rfl rfl (by decide) (by rw [hW]; rfl) rfl ?_
          refine nx_int (x := 4) rfl rfl ?_
          refine nx_iald (p := (3349, 0)) rfl rfl (Nat.le_of_ble_eq_true rfl) (Nat.le_of_ble_eq_true rfl) rfl H (fun H => ?_)
          refine nx_ld rfl rfl rfl rfl ?_
          refine nx_getFix rfl rfl rfl (by decide) (by rw [hW]; rfl) rfl ?_
          refine nx_int (x := 5) rfl rfl ?_
          refine nx_iald (p := (3349, 0)) rfl rfl (Nat.le_of_ble_eq_true rfl) (Nat.le_of_ble_eq_true rfl) rfl H (fun H => ?_)
          show nX _ _ _ _ _ _ 116 _ _ _ _ _
          refine nx_ld rfl rfl rfl rfl ?_
          refine nx_getFix rfl rfl rfl (by decide) (by rw [hW]; rfl) rfl ?_
          refine nx_int (x := 6) rfl rfl ?_
          refine nx_iald (p := (3349, 0)) rfl rfl (Nat.le_of_ble_eq_true rfl) (Nat.le_of_ble_eq_true rfl) rfl H (fun H => ?_)
          refine nx_cVI2 (as := [eI x1, eI x2, eI (tA t26 3349 0 (0 : Int32).toNatClampNeg), eI (tA t26 3349 0 (4 : Int32).toNatClampNeg), eI (tA t26 3349 0 (5 : Int32).toNatClampNeg), eI (tA t26 3349 0 (6 : Int32).toNatClampNeg)]) (st' := []) rfl rfl (Nat.le_of_ble_eq_true rfl) rfl rfl (Nat.le_of_ble_eq_true rfl) (c0 := 13) rfl (by decide) H (fun Q H => TF_X13_sale hW  H) (fun x28 t29 H => ?_)
          exact nx_rit rfl rfl H
        refine nx_int (x := (-3)) rfl rfl ?_
        exact nx_rit rfl rfl H
      refine nx_int (x := (-20)) rfl rfl ?_
      refine nx_ld rfl rfl rfl rfl ?_
      refine nx_ii rfl rfl ?_
      exact nx_rit rfl rfl H
    refine nx_int (x := (-2)) rfl rfl ?_
    exact nx_rit rfl rfl H
  refine nx_int (x := (-1)) rfl rfl ?_
  exact nx_rit rfl rfl H
def F_X13_lend (t : TS) (x1 : Int32) (x2 : Int32) : Option (Int32 × TS) := (Option.bind (F_X13_isPlayer t x1) (fun r21 => (if r21 = 0 then (some ((-1), t)) else (Option.bind (F_X13_isClub t x2) (fun r22 => (if r22 = 0 then (some ((-1), t)) else (gd (7 : Int32) (tL t 3349 0) (if (tI t 1301 0) ≤ (tA t 3349 0 (7 : Int32).toNatClampNeg) then (Option.bind (F_X13_ownerOn t x1 (tI t 1301 0)) (fun r23 => (if 0 ≤ r23 then (gd (0 : Int32) (tL t 3349 0) (ob2 (F_X13_whyNot t x1 x2 1 (tA t 3349 0 (0 : Int32).toNatClampNeg) 1 6) (fun x25 t26 => (if x25 ≤ 0 then (if (tI t26 1327 0) = 200 then (some ((-3), t26)) else (if ¬ (tI t26 1316 0) = 600 then (gd (0 : Int32) (tL t26 3349 0) (ob2 (F_X13_addMove t26 x1 x2 (tA t26 3349 0 (0 : Int32).toNatClampNeg) 1) (fun x28 t29 => (gd (8 : Int32) (tL t29 3349 0) (gd x28 (tL t29 3339 0) (nxt (uA t29 3339 0 x28.toNatClampNeg (tA t29 3349 0 (8 : Int32).toNatClampNeg)) (fun t30 => (gd x2 (tL t30 3310 0) (gd x28 (tL t30 3331 0) (gd x2 (tL t30 3310 0) (nxt (uA t30 3310 0 x2.toNatClampNeg ((tA t30 3310 0 x2.toNatClampNeg) - (tA t30 3331 0 x28.toNatClampNeg))) (fun t31 => (gd x28 (tL t31 3329 0) (gd (tA t31 3329 0 x28.toNatClampNeg) (tL t31 3310 0) (gd x28 (tL t31 3331 0) (gd (tA t31 3329 0 x28.toNatClampNeg) (tL t31 3310 0) (nxt (uA t31 3310 0 (tA t31 3329 0 x28.toNatClampNeg).toNatClampNeg ((tA t31 3310 0 (tA t31 3329 0 x28.toNatClampNeg).toNatClampNeg) + (tA t31 3331 0 x28.toNatClampNeg))) (fun t32 => (gd (7 : Int32) (tL t32 3349 0) (Option.bind (F_X13_addMoveSpan t32 x28 (tA t32 3349 0 (7 : Int32).toNatClampNeg) 2) (fun r33 => (some (x28, r33))))))))))))))))))))))) else (some ((-3), t26)))) else (some (((-20) - x25), t26)))))) else (some ((-2), t))))) else (some ((-1), t))))))))))
theorem TF_X13_lend {W : NW} {d : Nat} {t : TS} {x1 : Int32} {x2 : Int32} {Q : Option NV → TS → Prop} {bc bs : Nat} (hW : W.2.2.2 = mm_fx) (H : wp (F_X13_lend t x1 x2) (fun r => Q (some (eI r.1)) r.2)) : nC W (d + 9) 200 [eR (some (13, 0)), eI x1, eI x2] t bc bs Q := by
  refine nC_in (d := (d + 8)) (T := tX13_lend) (ls := [some (eR (some (13, 0))), some (eI x1), some (eI x2), none, none]) rfl (Nat.le_of_ble_eq_true rfl) rfl (fun a0 e0 => ?_)
  unfold F_X13_lend at H
  refine nx_ld rfl rfl rfl rfl ?_
  refine nx_ld rfl rfl rfl rfl ?_
  refine nx_cVI (as := [eI x1]) (st' := []) rfl rfl (Nat.le_of_ble_eq_true rfl) rfl rfl (Nat.le_of_ble_eq_true rfl) (c0 := 13) rfl (by decide) H (fun Q H => TF_X13_isPlayer hW  H) (fun r21 H => ?_)
  refine nx_if rfl rfl (by rfl) H (fun H => ?_) (fun H => ?_)
  · refine nx_int (x := (-1)) rfl rfl ?_
    exact nx_rit rfl rfl H
  refine nx_ld rfl rfl rfl rfl ?_
  refine nx_ld rfl rfl rfl rfl ?_
  refine nx_cVI (as := [eI x2]) (st' := []) rfl rfl (Nat.le_of_ble_eq_true rfl) rfl rfl (Nat.le_of_ble_eq_true rfl) (c0 := 13) rfl (by decide) H (fun Q H => TF_X13_isClub hW  H) (fun r22 H => ?_)
  refine nx_if rfl rfl (by rfl) H (fun H => ?_) (fun H => ?_)
  · refine nx_int (x := (-1)) rfl rfl ?_
    exact nx_rit rfl rfl H
  refine nx_ld rfl rfl rfl rfl ?_
  refine nx_getFix rfl rfl rfl (by decide) (by rw [hW]; rfl) rfl ?_
  refine nx_int (x := 7) rfl rfl ?_
  refine nx_iald (p := (3349, 0)) rfl rfl (Nat.le_of_ble_eq_true rfl) (Nat.le_of_ble_eq_true rfl) rfl H (fun H => ?_)
  refine nx_ld rfl rfl rfl rfl ?_
  refine nx_getI rfl rfl rfl (by decide) ?_
  refine nx_icmp rfl rfl (by rfl) H (fun H => ?_) (fun H => ?_)
  · refine nx_ld rfl rfl rfl rfl ?_
    refine nx_ld rfl rfl rfl rfl ?_
    refine nx_ld rfl rfl rfl rfl ?_
    refine nx_getI rfl rfl rfl (by decide) ?_
    refine nx_cVI (as := [eI x1, eI (tI t 1301 0)]) (st' := []) rfl rfl (Nat.le_of_ble_eq_true rfl) rfl rfl (Nat.le_of_ble_eq_true rfl) (c0 := 13) rfl (by decide) H (fun Q H => TF_X13_ownerOn hW  H) (fun r23 H => ?_)
    refine nx_if rfl rfl (by rfl) H (fun H => ?_) (fun H => ?_)
    · refine nx_ld rfl rfl rfl rfl ?_
      refine nx_ld rfl rfl rfl rfl ?_
      refine nx_ld rfl rfl rfl rfl ?_
      refine nx_int (x := 1) rfl rfl ?_
      refine nx_ld rfl rfl rfl rfl ?_
      refine nx_getFix rfl rfl rfl (by decide) (by rw [hW]; rfl) rfl ?_
      refine nx_int (x := 0) rfl rfl ?_
      show nX _ _ _ _ _ _ 56 _ _ _ _ _
      refine nx_iald (p := (3349, 0)) rfl rfl (Nat.le_of_ble_eq_true rfl) (Nat.le_of_ble_eq_true rfl) rfl H (fun H => ?_)
      refine nx_int (x := 1) rfl rfl ?_
      refine nx_int (x := 6) rfl rfl ?_
      refine nx_cVI2 (as := [eI x1, eI x2, eI 1, eI (tA t 3349 0 (0 : Int32).toNatClampNeg), eI 1, eI 6]) (st' := []) rfl rfl (Nat.le_of_ble_eq_true rfl) rfl rfl (Nat.le_of_ble_eq_true rfl) (c0 := 13) rfl (by decide) H (fun Q H => TF_X13_whyNot hW  H) (fun x25 t26 H => ?_)
      refine nx_st (ls' := [some (eR (some (13, 0))), some (eI x1), some (eI x2), some (eI x25), none]) rfl rfl rfl (Nat.le_of_ble_eq_true rfl) rfl ?_
      refine nx_ld rfl rfl rfl rfl ?_
      refine nx_if rfl rfl (by rfl) H (fun H => ?_) (fun H => ?_)
      · refine nx_ld rfl rfl rfl rfl ?_
        refine nx_getI rfl rfl rfl (by decide) ?_
        refine nx_int (x := 200) rfl rfl ?_
        refine nx_icmp rfl rfl (by rfl) H (fun H => ?_) (fun H => ?_)
        · refine nx_int (x := (-3)) rfl rfl ?_
          exact nx_rit rfl rfl H
        refine nx_ld rfl rfl rfl rfl ?_
        refine nx_getI rfl rfl rfl (by decide) ?_
        refine nx_int (x := 600) rfl rfl ?_
        refine nx_icmp rfl rfl (by rfl) H (fun H => ?_) (fun H => ?_)
        · refine nx_ld rfl rfl rfl rfl ?_
          refine nx_ld rfl rfl rfl rfl ?_
          refine nx_ld rfl rfl rfl rfl ?_
          refine nx_ld rfl rfl rfl rfl ?_
          refine nx_getFix rfl rfl rfl (by decide) (by rw [hW]; rfl) rfl ?_
          refine nx_int (x := 0) rfl rfl ?_
          refine nx_iald (p := (3349, 0)) rfl rfl (Nat.le_of_ble_eq_true rfl) (Nat.le_of_ble_eq_true rfl) rfl H (fun H => ?_)
          show nX _ _ _ _ _ _ 105 _ _ _ _ _
          refine nx_int (x := 1) rfl rfl ?_
          refine nx_cVI2 (as := [eI x1, eI x2, eI (tA t26 3349 0 (0 : Int32).toNatClampNeg), eI 1]) (st' := []) rfl rfl (Nat.le_of_ble_eq_true rfl) rfl rfl (Nat.le_of_ble_eq_true rfl) (c0 := 13) rfl (by decide) H (fun Q H => TF_X13_addMove hW  H) (fun x28 t29 H => ?_)
          refine nx_st (ls' := [some (eR (some (13, 0))), some (eI x1), some (eI x2), some (eI x25), some (eI x28)]) rfl rfl rfl (Nat.le_of_ble_eq_true rfl) rfl ?_
          refine nx_ld rfl rfl rfl rfl ?_
          refine nx_getFix rfl rfl rfl (by decide) (by rw [hW]; rfl) rfl ?_
          refine nx_ld rfl rfl rfl rfl ?_
          refine nx_ld rfl rfl rfl rfl ?_
          refine nx_getFix rfl rfl rfl (by decide) (by rw [hW]; rfl) rfl ?_
          show nX _ _ _ _ _ _ 121 _ _ _ _ _
          refine nx_int (x := 8) rfl rfl ?_
          refine nx_iald (p := (3349, 0)) rfl rfl (Nat.le_of_ble_eq_true rfl) (Nat.le_of_ble_eq_true rfl) rfl H (fun H => ?_)
          refine nx_iast (p := (3339, 0)) rfl rfl (Nat.le_of_ble_eq_true rfl) (Nat.le_of_ble_eq_true rfl) rfl H (fun t30 H => ?_)
          refine nx_ld rfl rfl rfl rfl ?_
          refine nx_getFix rfl rfl rfl (by decide) (by rw [hW]; rfl) rfl ?_
          refine nx_ld rfl rfl rfl rfl ?_
          refine nx_dup2 rfl rfl (Nat.ne_of_beq_eq_false rfl) (Nat.ne_of_beq_eq_false rfl) ?_
          refine nx_iald (p := (3310, 0)) rfl rfl (Nat.le_of_ble_eq_true rfl) (Nat.le_of_ble_eq_true rfl) rfl H (fun H => ?_)
          show nX _ _ _ _ _ _ 132 _ _ _ _ _
          refine nx_ld rfl rfl rfl rfl ?_
          refine nx_getFix rfl rfl rfl (by decide) (by rw [hW]; rfl) rfl ?_
          refine nx_ld rfl rfl rfl rfl ?_
          refine nx_iald (p := (3331, 0)) rfl rfl (Nat.le_of_ble_eq_true rfl) (Nat.le_of_ble_eq_true rfl) rfl H (fun H => ?_)
          refine nx_ii rfl rfl ?_
          refine nx_iast (p := (3310, 0)) rfl rfl (Nat.le_of_ble_eq_true rfl) (Nat.le_of_ble_eq_true rfl) rfl H (fun t31 H => ?_)
          refine nx_ld rfl rfl rfl rfl ?_
          refine nx_getFix rfl rfl rfl (by decide) (by rw [hW]; rfl) rfl ?_
          show nX _ _ _ _ _ _ 145 _ _ _ _ _
          refine nx_ld rfl rfl rfl rfl ?_
          refine nx_getFix rfl rfl rfl (by decide) (by rw [hW]; rfl) rfl ?_
          refine nx_ld rfl rfl rfl rfl ?_
          refine nx_iald (p := (3329, 0)) rfl rfl (Nat.le_of_ble_eq_true rfl) (Nat.le_of_ble_eq_true rfl) rfl H (fun H => ?_)
          refine nx_dup2 rfl rfl (Nat.ne_of_beq_eq_false rfl) (Nat.ne_of_beq_eq_false rfl) ?_
          refine nx_iald (p := (3310, 0)) rfl rfl (Nat.le_of_ble_eq_true rfl) (Nat.le_of_ble_eq_true rfl) rfl H (fun H => ?_)
          refine nx_ld rfl rfl rfl rfl ?_
          refine nx_getFix rfl rfl rfl (by decide) (by rw [hW]; rfl) rfl ?_
          show nX _ _ _ _ _ _ 158 _ _ _ _ _
          refine nx_ld rfl rfl rfl rfl ?_
          refine nx_iald (p := (3331, 0)) rfl rfl (Nat.le_of_ble_eq_true rfl) (Nat.le_of_ble_eq_true rfl) rfl H (fun H => ?_)
          refine nx_ii rfl rfl ?_
          refine nx_iast (p := (3310, 0)) rfl rfl (Nat.le_of_ble_eq_true rfl) (Nat.le_of_ble_eq_true rfl) rfl H (fun t32 H => ?_)
          refine nx_ld rfl rfl rfl rfl ?_
          refine nx_ld rfl rfl rfl rfl ?_
          refine nx_ld rfl rfl rfl rfl ?_
          refine nx_getFix rfl rfl rfl (by decide) (by rw [hW]; rfl) rfl ?_
          show nX _ _ _ _ _ _ 170 _ _ _ _ _
          refine nx_int (x := 7) rfl rfl ?_
          refine nx_iald (p := (3349, 0)) rfl rfl (Nat.le_of_ble_eq_true rfl) (Nat.le_of_ble_eq_true rfl) rfl H (fun H => ?_)
          refine nx_int (x := 2) rfl rfl ?_
          refine nx_cVVt (as := [eI x28, eI (tA t32 3349 0 (7 : Int32).toNatClampNeg), eI 2]) (st' := []) rfl rfl (Nat.le_of_ble_eq_true rfl) rfl rfl (Nat.le_of_ble_eq_true rfl) (c0 := 13) rfl (by decide) H (fun Q H => TF_X13_addMoveSpan hW  H) (fun r33 H => ?_)
          refine nx_ld rfl rfl rfl rfl ?_
          exact nx_rit rfl rfl H
        refine nx_int (x := (-3)) rfl rfl ?_
        exact nx_rit rfl rfl H
      refine nx_int (x := (-20)) rfl rfl ?_
      refine nx_ld rfl rfl rfl rfl ?_
      refine nx_ii rfl rfl ?_
      exact nx_rit rfl rfl H
    refine nx_int (x := (-2)) rfl rfl ?_
    exact nx_rit rfl rfl H
  refine nx_int (x := (-1)) rfl rfl ?_
  exact nx_rit rfl rfl H
def F_X13_option (t : TS) (x1 : Int32) : Option (Int32 × TS) := (Option.bind (F_X13_in t x1 0 ((tI t 1327 0) - 1)) (fun r21 => (if r21 = 0 then (some ((-1), t)) else (gd (1 : Int32) (tL t 3349 0) (if (tI t 1301 0) ≤ (tA t 3349 0 (1 : Int32).toNatClampNeg) then (gd x1 (tL t 3328 0) (gd x1 (tL t 3333 0) (if (tA t 3333 0 x1.toNatClampNeg) = 0 then (some ((-2), t)) else (gd x1 (tL t 3339 0) (if (tA t 3339 0 x1.toNatClampNeg) = 0 then (some ((-2), t)) else (gd x1 (tL t 3340 0) (gd (tA t 3340 0 x1.toNatClampNeg) (tL t 3320 0) (if ((tA t 3320 0 (tA t 3340 0 x1.toNatClampNeg).toNatClampNeg) + 1) < (tI t 1301 0) then (some ((-2), t)) else (gd x1 (tL t 3334 0) (if ¬ (tA t 3334 0 x1.toNatClampNeg) = 0 then (some ((-2), t)) else (Option.bind (F_X13_ownerOn t (tA t 3328 0 x1.toNatClampNeg) (tI t 1301 0)) (fun r22 => (gd x1 (tL t 3329 0) (if r22 = (tA t 3329 0 x1.toNatClampNeg) then (gd x1 (tL t 3330 0) (gd x1 (tL t 3339 0) (ob2 (F_X13_whyNot t (tA t 3328 0 x1.toNatClampNeg) (tA t 3330 0 x1.toNatClampNeg) 0 (tA t 3339 0 x1.toNatClampNeg) 2 5) (fun x24 t25 => (if x24 ≤ 0 then (if (tI t25 1327 0) = 200 then (some ((-3), t25)) else (if ¬ (tI t25 1316 0) = 600 then (gd x1 (tL t25 3330 0) (gd x1 (tL t25 3339 0) (ob2 (F_X13_sale t25 (tA t 3328 0 x1.toNatClampNeg) (tA t25 3330 0 x1.toNatClampNeg) (tA t25 3339 0 x1.toNatClampNeg) 0 0 1) (fun x27 t28 => (some (x27, t28)))))) else (some ((-3), t25)))) else (some (((-20) - x24), t25))))))) else (some ((-2), t)))))))))))))))) else (some ((-1), t)))))))
theorem TF_X13_option {W : NW} {d : Nat} {t : TS} {x1 : Int32} {Q : Option NV → TS → Prop} {bc bs : Nat} (hW : W.2.2.2 = mm_fx) (H : wp (F_X13_option t x1) (fun r => Q (some (eI r.1)) r.2)) : nC W (d + 9) 201 [eR (some (13, 0)), eI x1] t bc bs Q := by
  refine nC_in (d := (d + 8)) (T := tX13_option) (ls := [some (eR (some (13, 0))), some (eI x1), none, none]) rfl (Nat.le_of_ble_eq_true rfl) rfl (fun a0 e0 => ?_)
  unfold F_X13_option at H
  refine nx_ld rfl rfl rfl rfl ?_
  refine nx_int (x := 0) rfl rfl ?_
  refine nx_ld rfl rfl rfl rfl ?_
  refine nx_getI rfl rfl rfl (by decide) ?_
  refine nx_int (x := 1) rfl rfl ?_
  refine nx_ii rfl rfl ?_
  refine nx_cSI (as := [eI x1, eI 0, eI ((tI t 1327 0) - 1)]) (st' := []) rfl rfl (Nat.le_of_ble_eq_true rfl) rfl rfl (Nat.le_of_ble_eq_true rfl) H (fun Q H => TF_X13_in hW  H) (fun r21 H => ?_)
  show nX _ _ _ _ _ _ 11 _ _ _ _ _
  refine nx_if rfl rfl (by rfl) H (fun H => ?_) (fun H => ?_)
  · refine nx_int (x := (-1)) rfl rfl ?_
    exact nx_rit rfl rfl H
  refine nx_ld rfl rfl rfl rfl ?_
  refine nx_getFix rfl rfl rfl (by decide) (by rw [hW]; rfl) rfl ?_
  refine nx_int (x := 1) rfl rfl ?_
  refine nx_iald (p := (3349, 0)) rfl rfl (Nat.le_of_ble_eq_true rfl) (Nat.le_of_ble_eq_true rfl) rfl H (fun H => ?_)
  refine nx_ld rfl rfl rfl rfl ?_
  refine nx_getI rfl rfl rfl (by decide) ?_
  refine nx_icmp rfl rfl (by rfl) H (fun H => ?_) (fun H => ?_)
  · refine nx_ld rfl rfl rfl rfl ?_
    refine nx_getFix rfl rfl rfl (by decide) (by rw [hW]; rfl) rfl ?_
    refine nx_ld rfl rfl rfl rfl ?_
    refine nx_iald (p := (3328, 0)) rfl rfl (Nat.le_of_ble_eq_true rfl) (Nat.le_of_ble_eq_true rfl) rfl H (fun H => ?_)
    refine nx_st (ls' := [some (eR (some (13, 0))), some (eI x1), some (eI (tA t 3328 0 x1.toNatClampNeg)), none]) rfl rfl rfl (Nat.le_of_ble_eq_true rfl) rfl ?_
    refine nx_ld rfl rfl rfl rfl ?_
    refine nx_getFix rfl rfl rfl (by decide) (by rw [hW]; rfl) rfl ?_
    show nX _ _ _ _ _ _ 40 _ _ _ _ _
    refine nx_ld rfl rfl rfl rfl ?_
    refine nx_bald (c := 3333) (i := 0) rfl rfl (Nat.le_of_ble_eq_true rfl) (Nat.le_of_ble_eq_true rfl) (Or.inr rfl) H (fun H => ?_)
    refine nx_if rfl rfl (by rfl) H (fun H => ?_) (fun H => ?_)
    · refine nx_int (x := (-2)) rfl rfl ?_
      exact nx_rit rfl rfl H
    refine nx_ld rfl rfl rfl rfl ?_
    refine nx_getFix rfl rfl rfl (by decide) (by rw [hW]; rfl) rfl ?_
    refine nx_ld rfl rfl rfl rfl ?_
    refine nx_iald (p := (3339, 0)) rfl rfl (Nat.le_of_ble_eq_true rfl) (Nat.le_of_ble_eq_true rfl) rfl H (fun H => ?_)
    refine nx_if rfl rfl (by rfl) H (fun H => ?_) (fun H => ?_)
    · refine nx_int (x := (-2)) rfl rfl ?_
      exact nx_rit rfl rfl H
    refine nx_ld rfl rfl rfl rfl ?_
    refine nx_getI rfl rfl rfl (by decide) ?_
    refine nx_ld rfl rfl rfl rfl ?_
    refine nx_getFix rfl rfl rfl (by decide) (by rw [hW]; rfl) rfl ?_
    refine nx_ld rfl rfl rfl rfl ?_
    refine nx_getFix rfl rfl rfl (by decide) (by rw [hW]; rfl) rfl ?_
    refine nx_ld rfl rfl rfl rfl ?_
    show nX _ _ _ _ _ _ 67 _ _ _ _ _
    refine nx_iald (p := (3340, 0)) rfl rfl (Nat.le_of_ble_eq_true rfl) (Nat.le_of_ble_eq_true rfl) rfl H (fun H => ?_)
    refine nx_iald (p := (3320, 0)) rfl rfl (Nat.le_of_ble_eq_true rfl) (Nat.le_of_ble_eq_true rfl) rfl H (fun H => ?_)
    refine nx_int (x := 1) rfl rfl ?_
    refine nx_ii rfl rfl ?_
    refine nx_icmp rfl rfl (by rfl) H (fun H => ?_) (fun H => ?_)
    · refine nx_int (x := (-2)) rfl rfl ?_
      exact nx_rit rfl rfl H
    refine nx_ld rfl rfl rfl rfl ?_
    refine nx_getFix rfl rfl rfl (by decide) (by rw [hW]; rfl) rfl ?_
    refine nx_ld rfl rfl rfl rfl ?_
    refine nx_bald (c := 3334) (i := 0) rfl rfl (Nat.le_of_ble_eq_true rfl) (Nat.le_of_ble_eq_true rfl) (Or.inr rfl) H (fun H => ?_)
    refine nx_if rfl rfl (by rfl) H (fun H => ?_) (fun H => ?_)
    · refine nx_int (x := (-2)) rfl rfl ?_
      exact nx_rit rfl rfl H
    refine nx_ld rfl rfl rfl rfl ?_
    refine nx_ld rfl rfl rfl rfl ?_
    refine nx_ld rfl rfl rfl rfl ?_
    refine nx_getI rfl rfl rfl (by decide) ?_
    refine nx_cVI (as := [eI (tA t 3328 0 x1.toNatClampNeg), eI (tI t 1301 0)]) (st' := []) rfl rfl (Nat.le_of_ble_eq_true rfl) rfl rfl (Nat.le_of_ble_eq_true rfl) (c0 := 13) rfl (by decide) H (fun Q H => TF_X13_ownerOn hW  H) (fun r22 H => ?_)
    refine nx_ld rfl rfl rfl rfl ?_
    refine nx_getFix rfl rfl rfl (by decide) (by rw [hW]; rfl) rfl ?_
    show nX _ _ _ _ _ _ 96 _ _ _ _ _
    refine nx_ld rfl rfl rfl rfl ?_
    refine nx_iald (p := (3329, 0)) rfl rfl (Nat.le_of_ble_eq_true rfl) (Nat.le_of_ble_eq_true rfl) rfl H (fun H => ?_)
    refine nx_icmp rfl rfl (by rfl) H (fun H => ?_) (fun H => ?_)
    · refine nx_ld rfl rfl rfl rfl ?_
      refine nx_ld rfl rfl rfl rfl ?_
      refine nx_ld rfl rfl rfl rfl ?_
      refine nx_getFix rfl rfl rfl (by decide) (by rw [hW]; rfl) rfl ?_
      refine nx_ld rfl rfl rfl rfl ?_
      refine nx_iald (p := (3330, 0)) rfl rfl (Nat.le_of_ble_eq_true rfl) (Nat.le_of_ble_eq_true rfl) rfl H (fun H => ?_)
      refine nx_int (x := 0) rfl rfl ?_
      show nX _ _ _ _ _ _ 113 _ _ _ _ _
      refine nx_ld rfl rfl rfl rfl ?_
      refine nx_getFix rfl rfl rfl (by decide) (by rw [hW]; rfl) rfl ?_
      refine nx_ld rfl rfl rfl rfl ?_
      refine nx_iald (p := (3339, 0)) rfl rfl (Nat.le_of_ble_eq_true rfl) (Nat.le_of_ble_eq_true rfl) rfl H (fun H => ?_)
      refine nx_int (x := 2) rfl rfl ?_
      refine nx_int (x := 5) rfl rfl ?_
      refine nx_cVI2 (as := [eI (tA t 3328 0 x1.toNatClampNeg), eI (tA t 3330 0 x1.toNatClampNeg), eI 0, eI (tA t 3339 0 x1.toNatClampNeg), eI 2, eI 5]) (st' := []) rfl rfl (Nat.le_of_ble_eq_true rfl) rfl rfl (Nat.le_of_ble_eq_true rfl) (c0 := 13) rfl (by decide) H (fun Q H => TF_X13_whyNot hW  H) (fun x24 t25 H => ?_)
      refine nx_st (ls' := [some (eR (some (13, 0))), some (eI x1), some (eI (tA t 3328 0 x1.toNatClampNeg)), some (eI x24)]) rfl rfl rfl (Nat.le_of_ble_eq_true rfl) rfl ?_
      show nX _ _ _ _ _ _ 125 _ _ _ _ _
      refine nx_ld rfl rfl rfl rfl ?_
      refine nx_if rfl rfl (by rfl) H (fun H => ?_) (fun H => ?_)
      · refine nx_ld rfl rfl rfl rfl ?_
        refine nx_getI rfl rfl rfl (by decide) ?_
        refine nx_int (x := 200) rfl rfl ?_
        refine nx_icmp rfl rfl (by rfl) H (fun H => ?_) (fun H => ?_)
        · refine nx_int (x := (-3)) rfl rfl ?_
          exact nx_rit rfl rfl H
        refine nx_ld rfl rfl rfl rfl ?_
        refine nx_getI rfl rfl rfl (by decide) ?_
        refine nx_int (x := 600) rfl rfl ?_
        refine nx_icmp rfl rfl (by rfl) H (fun H => ?_) (fun H => ?_)
        · refine nx_ld rfl rfl rfl rfl ?_
          refine nx_ld rfl rfl rfl rfl ?_
          refine nx_ld rfl rfl rfl rfl ?_
          refine nx_getFix rfl rfl rfl (by decide) (by rw [hW]; rfl) rfl ?_
          refine nx_ld rfl rfl rfl rfl ?_
          refine nx_iald (p := (3330, 0)) rfl rfl (Nat.le_of_ble_eq_true rfl) (Nat.le_of_ble_eq_true rfl) rfl H (fun H => ?_)
          refine nx_ld rfl rfl rfl rfl ?_
          show nX _ _ _ _ _ _ 166 _ _ _ _ _
          refine nx_getFix rfl rfl rfl (by decide) (by rw [hW]; rfl) rfl ?_
          refine nx_ld rfl rfl rfl rfl ?_
          refine nx_iald (p := (3339, 0)) rfl rfl (Nat.le_of_ble_eq_true rfl) (Nat.le_of_ble_eq_true rfl) rfl H (fun H => ?_)
          refine nx_int (x := 0) rfl rfl ?_
          refine nx_int (x := 0) rfl rfl ?_
          refine nx_int (x := 1) rfl rfl ?_
          refine nx_cVI2 (as := [eI (tA t 3328 0 x1.toNatClampNeg), eI (tA t25 3330 0 x1.toNatClampNeg), eI (tA t25 3339 0 x1.toNatClampNeg), eI 0, eI 0, eI 1]) (st' := []) rfl rfl (Nat.le_of_ble_eq_true rfl) rfl rfl (Nat.le_of_ble_eq_true rfl) (c0 := 13) rfl (by decide) H (fun Q H => TF_X13_sale hW  H) (fun x27 t28 H => ?_)
          exact nx_rit rfl rfl H
        refine nx_int (x := (-3)) rfl rfl ?_
        exact nx_rit rfl rfl H
      refine nx_int (x := (-20)) rfl rfl ?_
      refine nx_ld rfl rfl rfl rfl ?_
      refine nx_ii rfl rfl ?_
      exact nx_rit rfl rfl H
    refine nx_int (x := (-2)) rfl rfl ?_
    exact nx_rit rfl rfl H
  refine nx_int (x := (-1)) rfl rfl ?_
  exact nx_rit rfl rfl H
def F_X13_isMove (t : TS) (x1 : Int32) : Option Int32 := (Option.bind (F_X13_in t x1 0 ((tI t 1327 0) - 1)) (fun r21 => (gb r21 (some (r21)))))
theorem TF_X13_isMove {W : NW} {d : Nat} {t : TS} {x1 : Int32} {Q : Option NV → TS → Prop} {bc bs : Nat} (hW : W.2.2.2 = mm_fx) (H : wp (F_X13_isMove t x1) (fun r => Q (some (eI r)) t)) : nC W (d + 2) 202 [eR (some (13, 0)), eI x1] t bc bs Q := by
  refine nC_in (d := (d + 1)) (T := tX13_isMove) (ls := [some (eR (some (13, 0))), some (eI x1)]) rfl (Nat.le_of_ble_eq_true rfl) rfl (fun a0 e0 => ?_)
  unfold F_X13_isMove at H
  refine nx_ld rfl rfl rfl rfl ?_
  refine nx_int (x := 0) rfl rfl ?_
  refine nx_ld rfl rfl rfl rfl ?_
  refine nx_getI rfl rfl rfl (by decide) ?_
  refine nx_int (x := 1) rfl rfl ?_
  refine nx_ii rfl rfl ?_
  refine nx_cSI (as := [eI x1, eI 0, eI ((tI t 1327 0) - 1)]) (st' := []) rfl rfl (Nat.le_of_ble_eq_true rfl) rfl rfl (Nat.le_of_ble_eq_true rfl) H (fun Q H => TF_X13_in hW  H) (fun r21 H => ?_)
  show nX _ _ _ _ _ _ 11 _ _ _ _ _
  exact nx_rz rfl rfl H
def F_X13_ofMove (t : TS) (x1 : Int32) (x2 : Int32) : Option Int32 := (Option.bind (F_X13_isMove t x1) (fun r21 => (if ¬ r21 = 0 then (swi x2 0 [(gd x1 (tL t 3328 0) (some ((tA t 3328 0 x1.toNatClampNeg)))), (gd x1 (tL t 3329 0) (some ((tA t 3329 0 x1.toNatClampNeg)))), (gd x1 (tL t 3330 0) (some ((tA t 3330 0 x1.toNatClampNeg)))), (gd x1 (tL t 3331 0) (some ((tA t 3331 0 x1.toNatClampNeg)))), (gd x1 (tL t 3332 0) (some ((tA t 3332 0 x1.toNatClampNeg)))), (gd x1 (tL t 3333 0) (if (tA t 3333 0 x1.toNatClampNeg) = 0 then (some (0)) else (some (1)))), (gd x1 (tL t 3334 0) (if (tA t 3334 0 x1.toNatClampNeg) = 0 then (some (0)) else (some (1)))), (gd x1 (tL t 3341 0) (some ((tA t 3341 0 x1.toNatClampNeg)))), (gd x1 (tL t 3343 0) (some ((tA t 3343 0 x1.toNatClampNeg)))), (gd x1 (tL t 3344 0) (some ((tA t 3344 0 x1.toNatClampNeg)))), (gd x1 (tL t 3345 0) (some ((tA t 3345 0 x1.toNatClampNeg))))] (some ((-2000000000)))) else (some ((-2000000000))))))
theorem TF_X13_ofMove {W : NW} {d : Nat} {t : TS} {x1 : Int32} {x2 : Int32} {Q : Option NV → TS → Prop} {bc bs : Nat} (hW : W.2.2.2 = mm_fx) (H : wp (F_X13_ofMove t x1 x2) (fun r => Q (some (eI r)) t)) : nC W (d + 3) 203 [eR (some (13, 0)), eI x1, eI x2] t bc bs Q := by
  refine nC_in (d := (d + 2)) (T := tX13_ofMove) (ls := [some (eR (some (13, 0))), some (eI x1), some (eI x2)]) rfl (Nat.le_of_ble_eq_true rfl) rfl (fun a0 e0 => ?_)
  unfold F_X13_ofMove at H
  refine nx_ld rfl rfl rfl rfl ?_
  refine nx_ld rfl rfl rfl rfl ?_
  refine nx_cVI (as := [eI x1]) (st' := []) rfl rfl (Nat.le_of_ble_eq_true rfl) rfl rfl (Nat.le_of_ble_eq_true rfl) (c0 := 13) rfl (by decide) H (fun Q H => TF_X13_isMove hW  H) (fun r21 H => ?_)
  refine nx_if rfl rfl (by rfl) H (fun H => ?_) (fun H => ?_)
  · refine nx_ld rfl rfl rfl rfl ?_
    refine nx_tsw rfl rfl (by decide) (by decide) (by decide) H (fun H => ?_) ?_
    · show nX _ _ _ _ _ _ 165 _ _ _ _ _
      refine nx_int (x := (-2000000000)) rfl rfl ?_
      exact nx_ri rfl rfl H
    refine ⟨fun H => ?_, fun H => ?_, fun H => ?_, fun H => ?_, fun H => ?_, fun H => ?_, fun H => ?_, fun H => ?_, fun H => ?_, fun H => ?_, fun H => ?_, trivial⟩
    · show nX _ _ _ _ _ _ 72 _ _ _ _ _
      refine nx_ld rfl rfl rfl rfl ?_
      refine nx_getFix rfl rfl rfl (by decide) (by rw [hW]; rfl) rfl ?_
      refine nx_ld rfl rfl rfl rfl ?_
      refine nx_iald (p := (3328, 0)) rfl rfl (Nat.le_of_ble_eq_true rfl) (Nat.le_of_ble_eq_true rfl) rfl H (fun H => ?_)
      exact nx_ri rfl rfl H
    · show nX _ _ _ _ _ _ 79 _ _ _ _ _
      refine nx_ld rfl rfl rfl rfl ?_
      refine nx_getFix rfl rfl rfl (by decide) (by rw [hW]; rfl) rfl ?_
      refine nx_ld rfl rfl rfl rfl ?_
      refine nx_iald (p := (3329, 0)) rfl rfl (Nat.le_of_ble_eq_true rfl) (Nat.le_of_ble_eq_true rfl) rfl H (fun H => ?_)
      exact nx_ri rfl rfl H
    · show nX _ _ _ _ _ _ 86 _ _ _ _ _
      refine nx_ld rfl rfl rfl rfl ?_
      refine nx_getFix rfl rfl rfl (by decide) (by rw [hW]; rfl) rfl ?_
      refine nx_ld rfl rfl rfl rfl ?_
      refine nx_iald (p := (3330, 0)) rfl rfl (Nat.le_of_ble_eq_true rfl) (Nat.le_of_ble_eq_true rfl) rfl H (fun H => ?_)
      exact nx_ri rfl rfl H
    · show nX _ _ _ _ _ _ 93 _ _ _ _ _
      refine nx_ld rfl rfl rfl rfl ?_
      refine nx_getFix rfl rfl rfl (by decide) (by rw [hW]; rfl) rfl ?_
      refine nx_ld rfl rfl rfl rfl ?_
      refine nx_iald (p := (3331, 0)) rfl rfl (Nat.le_of_ble_eq_true rfl) (Nat.le_of_ble_eq_true rfl) rfl H (fun H => ?_)
      exact nx_ri rfl rfl H
    · show nX _ _ _ _ _ _ 100 _ _ _ _ _
      refine nx_ld rfl rfl rfl rfl ?_
      refine nx_getFix rfl rfl rfl (by decide) (by rw [hW]; rfl) rfl ?_
      refine nx_ld rfl rfl rfl rfl ?_
      refine nx_iald (p := (3332, 0)) rfl rfl (Nat.le_of_ble_eq_true rfl) (Nat.le_of_ble_eq_true rfl) rfl H (fun H => ?_)
      exact nx_ri rfl rfl H
    · show nX _ _ _ _ _ _ 107 _ _ _ _ _
      refine nx_ld rfl rfl rfl rfl ?_
      refine nx_getFix rfl rfl rfl (by decide) (by rw [hW]; rfl) rfl ?_
      refine nx_ld rfl rfl rfl rfl ?_
      refine nx_bald (c := 3333) (i := 0) rfl rfl (Nat.le_of_ble_eq_true rfl) (Nat.le_of_ble_eq_true rfl) (Or.inr rfl) H (fun H => ?_)
      refine nx_if rfl rfl (by rfl) H (fun H => ?_) (fun H => ?_)
      · refine nx_int (x := 0) rfl rfl ?_
        exact nx_ri rfl rfl H
      refine nx_int (x := 1) rfl rfl ?_
      refine nx_goto rfl rfl ?_
      exact nx_ri rfl rfl H
    · show nX _ _ _ _ _ _ 122 _ _ _ _ _
      refine nx_ld rfl rfl rfl rfl ?_
      refine nx_getFix rfl rfl rfl (by decide) (by rw [hW]; rfl) rfl ?_
      refine nx_ld rfl rfl rfl rfl ?_
      refine nx_bald (c := 3334) (i := 0) rfl rfl (Nat.le_of_ble_eq_true rfl) (Nat.le_of_ble_eq_true rfl) (Or.inr rfl) H (fun H => ?_)
      refine nx_if rfl rfl (by rfl) H (fun H => ?_) (fun H => ?_)
      · refine nx_int (x := 0) rfl rfl ?_
        exact nx_ri rfl rfl H
      refine nx_int (x := 1) rfl rfl ?_
      refine nx_goto rfl rfl ?_
      exact nx_ri rfl rfl H
    · show nX _ _ _ _ _ _ 137 _ _ _ _ _
      refine nx_ld rfl rfl rfl rfl ?_
      refine nx_getFix rfl rfl rfl (by decide) (by rw [hW]; rfl) rfl ?_
      refine nx_ld rfl rfl rfl rfl ?_
      refine nx_iald (p := (3341, 0)) rfl rfl (Nat.le_of_ble_eq_true rfl) (Nat.le_of_ble_eq_true rfl) rfl H (fun H => ?_)
      exact nx_ri rfl rfl H
    · show nX _ _ _ _ _ _ 144 _ _ _ _ _
      refine nx_ld rfl rfl rfl rfl ?_
      refine nx_getFix rfl rfl rfl (by decide) (by rw [hW]; rfl) rfl ?_
      refine nx_ld rfl rfl rfl rfl ?_
      refine nx_iald (p := (3343, 0)) rfl rfl (Nat.le_of_ble_eq_true rfl) (Nat.le_of_ble_eq_true rfl) rfl H (fun H => ?_)
      exact nx_ri rfl rfl H
    · show nX _ _ _ _ _ _ 151 _ _ _ _ _
      refine nx_ld rfl rfl rfl rfl ?_
      refine nx_getFix rfl rfl rfl (by decide) (by rw [hW]; rfl) rfl ?_
      refine nx_ld rfl rfl rfl rfl ?_
      refine nx_iald (p := (3344, 0)) rfl rfl (Nat.le_of_ble_eq_true rfl) (Nat.le_of_ble_eq_true rfl) rfl H (fun H => ?_)
      exact nx_ri rfl rfl H
    · show nX _ _ _ _ _ _ 158 _ _ _ _ _
      refine nx_ld rfl rfl rfl rfl ?_
      refine nx_getFix rfl rfl rfl (by decide) (by rw [hW]; rfl) rfl ?_
      refine nx_ld rfl rfl rfl rfl ?_
      refine nx_iald (p := (3345, 0)) rfl rfl (Nat.le_of_ble_eq_true rfl) (Nat.le_of_ble_eq_true rfl) rfl H (fun H => ?_)
      exact nx_ri rfl rfl H
  refine nx_int (x := (-2000000000)) rfl rfl ?_
  exact nx_ri rfl rfl H
def F_X13_share (t : TS) (x1 : Int32) (x2 : Int32) : Option Int32 := (Option.bind (F_X13_isMove t x1) (fun r21 => (if r21 = 0 then (some ((-1))) else (Option.bind (F_X13_isClub t x2) (fun r22 => (if r22 = 0 then (some ((-1))) else (gd ((150 * x1) + x2) (tL t 3347 0) (some ((tA t 3347 0 ((150 * x1) + x2).toNatClampNeg))))))))))
theorem TF_X13_share {W : NW} {d : Nat} {t : TS} {x1 : Int32} {x2 : Int32} {Q : Option NV → TS → Prop} {bc bs : Nat} (hW : W.2.2.2 = mm_fx) (H : wp (F_X13_share t x1 x2) (fun r => Q (some (eI r)) t)) : nC W (d + 4) 204 [eR (some (13, 0)), eI x1, eI x2] t bc bs Q := by
  refine nC_in (d := (d + 3)) (T := tX13_share) (ls := [some (eR (some (13, 0))), some (eI x1), some (eI x2)]) rfl (Nat.le_of_ble_eq_true rfl) rfl (fun a0 e0 => ?_)
  unfold F_X13_share at H
  refine nx_ld rfl rfl rfl rfl ?_
  refine nx_ld rfl rfl rfl rfl ?_
  refine nx_cVI (as := [eI x1]) (st' := []) rfl rfl (Nat.le_of_ble_eq_true rfl) rfl rfl (Nat.le_of_ble_eq_true rfl) (c0 := 13) rfl (by decide) H (fun Q H => TF_X13_isMove hW  H) (fun r21 H => ?_)
  refine nx_if rfl rfl (by rfl) H (fun H => ?_) (fun H => ?_)
  · refine nx_int (x := (-1)) rfl rfl ?_
    exact nx_ri rfl rfl H
  refine nx_ld rfl rfl rfl rfl ?_
  refine nx_ld rfl rfl rfl rfl ?_
  refine nx_cVI (as := [eI x2]) (st' := []) rfl rfl (Nat.le_of_ble_eq_true rfl) rfl rfl (Nat.le_of_ble_eq_true rfl) (c0 := 13) rfl (by decide) H (fun Q H => TF_X13_isClub hW  H) (fun r22 H => ?_)
  refine nx_if rfl rfl (by rfl) H (fun H => ?_) (fun H => ?_)
  · refine nx_int (x := (-1)) rfl rfl ?_
    exact nx_ri rfl rfl H
  refine nx_ld rfl rfl rfl rfl ?_
  refine nx_getFix rfl rfl rfl (by decide) (by rw [hW]; rfl) rfl ?_
  refine nx_int (x := 150) rfl rfl ?_
  refine nx_ld rfl rfl rfl rfl ?_
  refine nx_ii rfl rfl ?_
  refine nx_ld rfl rfl rfl rfl ?_
  refine nx_ii rfl rfl ?_
  show nX _ _ _ _ _ _ 27 _ _ _ _ _
  refine nx_iald (p := (3347, 0)) rfl rfl (Nat.le_of_ble_eq_true rfl) (Nat.le_of_ble_eq_true rfl) rfl H (fun H => ?_)
  refine nx_goto rfl rfl ?_
  exact nx_ri rfl rfl H
def B_X13_play_225 (t : TS) (v1 : Int32) (v3 : Int32) : Option (Int32 × TS) := (gd ((150 * v1) + v3) (tL t 3348 0) (some ((tA t 3348 0 ((150 * v1) + v3).toNatClampNeg), t)))
theorem TB_X13_play_225 {W : NW} {d : Nat} {Q : Option NV → TS → Prop} {a0 : Nat → Nat → Nat} {e0 : Nat → Nat → Bool} {bc bs : Nat} (hW : W.2.2.2 = mm_fx) : ∀ (t : TS) (v1 : Int32) (v2 : Int32) (v3 : Int32) (v4 : Int32), wp (B_X13_play_225 t v1 v3) (fun r => Q (some (eI r.1)) r.2) → nX W (d + 4) tX13_play Q a0 e0 225 [some (eR (some (13, 0))), some (eI v1), some (eI v2), some (eI v3), some (eI v4)] [] t bc bs := by
  intro t v1 v2 v3 v4 H
  unfold B_X13_play_225 at H
  refine nx_ld rfl rfl rfl rfl ?_
  refine nx_getFix rfl rfl rfl (by decide) (by rw [hW]; rfl) rfl ?_
  refine nx_int (x := 150) rfl rfl ?_
  refine nx_ld rfl rfl rfl rfl ?_
  refine nx_ii rfl rfl ?_
  refine nx_ld rfl rfl rfl rfl ?_
  refine nx_ii rfl rfl ?_
  show nX _ _ _ _ _ _ 236 _ _ _ _ _
  refine nx_iald (p := (3348, 0)) rfl rfl (Nat.le_of_ble_eq_true rfl) (Nat.le_of_ble_eq_true rfl) rfl H (fun H => ?_)
  exact nx_rit rfl rfl H
def B_X13_play_219 (k56 : TS → Int32 → Int32 → Int32 → Int32 → Option (Int32 × TS)) (t : TS) (v1 : Int32) (v2 : Int32) (v3 : Int32) (v4 : Int32) : Option (Int32 × TS) := (k56 t v1 v2 v3 (v4 + 1))
theorem TB_X13_play_219 {W : NW} {d : Nat} {Q : Option NV → TS → Prop} {a0 : Nat → Nat → Nat} {e0 : Nat → Nat → Bool} {k56 : TS → Int32 → Int32 → Int32 → Int32 → Option (Int32 × TS)} {bc bs : Nat} (hW : W.2.2.2 = mm_fx) (hk56 : ∀ (t : TS) (v1 : Int32) (v2 : Int32) (v3 : Int32) (v4 : Int32), wp (k56 t v1 v2 v3 v4) (fun r => Q (some (eI r.1)) r.2) → nX W (d + 4) tX13_play Q a0 e0 56 [some (eR (some (13, 0))), some (eI v1), some (eI v2), some (eI v3), some (eI v4)] [] t bc bs) : ∀ (t : TS) (v1 : Int32) (v2 : Int32) (v3 : Int32) (v4 : Int32), wp (B_X13_play_219 k56 t v1 v2 v3 v4) (fun r => Q (some (eI r.1)) r.2) → nX W (d + 4) tX13_play Q a0 e0 219 [some (eR (some (13, 0))), some (eI v1), some (eI v2), some (eI v3), some (eI v4)] [] t bc bs := by
  intro t v1 v2 v3 v4 H
  unfold B_X13_play_219 at H
  refine nx_iinc2 1 (ls' := [some (eR (some (13, 0))), some (eI v1), some (eI v2), some (eI v3), some (eI (v4 + 1))]) rfl rfl rfl rfl rfl ?_
  refine nx_goto rfl rfl ?_
  exact hk56 _ _ _ _ _ H
def BB_X13_play_56 (k56 : TS → Int32 → Int32 → Int32 → Int32 → Option (Int32 × TS)) (t : TS) (v1 : Int32) (v2 : Int32) (v3 : Int32) (v4 : Int32) : Option (Int32 × TS) := (if (tI t 1327 0) ≤ v4 then (B_X13_play_225  t v1 v3) else (gd v4 (tL t 3328 0) (if ¬ (tA t 3328 0 v4.toNatClampNeg) = v1 then (B_X13_play_219 k56 t v1 v2 v3 v4) else (gd v4 (tL t 3333 0) (if ¬ (tA t 3333 0 v4.toNatClampNeg) = 0 then (B_X13_play_219 k56 t v1 v2 v3 v4) else (gd v4 (tL t 3334 0) (if ¬ (tA t 3334 0 v4.toNatClampNeg) = 0 then (B_X13_play_219 k56 t v1 v2 v3 v4) else (gd v4 (tL t 3330 0) (if (tA t 3330 0 v4.toNatClampNeg) = v3 then (gd v4 (tL t 3346 0) (gd v4 (tL t 3346 0) (nxt (uA t 3346 0 v4.toNatClampNeg ((tA t 3346 0 v4.toNatClampNeg) + v2)) (fun t21 => (gd v4 (tL t21 3337 0) (if (tA t21 3337 0 v4.toNatClampNeg) = 0 then (B_X13_play_219 k56 t21 v1 v2 v3 v4) else (gd v4 (tL t21 3345 0) (if 0 < (tA t21 3345 0 v4.toNatClampNeg) then (B_X13_play_219 k56 t21 v1 v2 v3 v4) else (gd v4 (tL t21 3346 0) (gd v4 (tL t21 3338 0) (if (tA t21 3338 0 v4.toNatClampNeg) ≤ (tA t21 3346 0 v4.toNatClampNeg) then (gd v4 (tL t21 3337 0) (gd v4 (tL t21 3345 0) (nxt (uA t21 3345 0 v4.toNatClampNeg (tA t21 3337 0 v4.toNatClampNeg)) (fun t22 => (gd v4 (tL t22 3330 0) (gd (tA t22 3330 0 v4.toNatClampNeg) (tL t22 3310 0) (gd v4 (tL t22 3337 0) (gd (tA t22 3330 0 v4.toNatClampNeg) (tL t22 3310 0) (nxt (uA t22 3310 0 (tA t22 3330 0 v4.toNatClampNeg).toNatClampNeg ((tA t22 3310 0 (tA t22 3330 0 v4.toNatClampNeg).toNatClampNeg) - (tA t22 3337 0 v4.toNatClampNeg))) (fun t23 => (gd v4 (tL t23 3329 0) (gd (tA t23 3329 0 v4.toNatClampNeg) (tL t23 3310 0) (gd v4 (tL t23 3337 0) (gd (tA t23 3329 0 v4.toNatClampNeg) (tL t23 3310 0) (nxt (uA t23 3310 0 (tA t23 3329 0 v4.toNatClampNeg).toNatClampNeg ((tA t23 3310 0 (tA t23 3329 0 v4.toNatClampNeg).toNatClampNeg) + (tA t23 3337 0 v4.toNatClampNeg))) (fun t24 => (B_X13_play_219 k56 t24 v1 v2 v3 v4))))))))))))))))) else (B_X13_play_219 k56 t21 v1 v2 v3 v4)))))))))))) else (B_X13_play_219 k56 t v1 v2 v3 v4))))))))))
theorem TBB_X13_play_56 {W : NW} {d : Nat} {Q : Option NV → TS → Prop} {a0 : Nat → Nat → Nat} {e0 : Nat → Nat → Bool} {k56 : TS → Int32 → Int32 → Int32 → Int32 → Option (Int32 × TS)} {bc bs : Nat} (hW : W.2.2.2 = mm_fx) (hk56 : ∀ (t : TS) (v1 : Int32) (v2 : Int32) (v3 : Int32) (v4 : Int32), wp (k56 t v1 v2 v3 v4) (fun r => Q (some (eI r.1)) r.2) → nX W (d + 4) tX13_play Q a0 e0 56 [some (eR (some (13, 0))), some (eI v1), some (eI v2), some (eI v3), some (eI v4)] [] t bc bs) : ∀ (t : TS) (v1 : Int32) (v2 : Int32) (v3 : Int32) (v4 : Int32), wp (BB_X13_play_56 k56 t v1 v2 v3 v4) (fun r => Q (some (eI r.1)) r.2) → nX W (d + 4) tX13_play Q a0 e0 56 [some (eR (some (13, 0))), some (eI v1), some (eI v2), some (eI v3), some (eI v4)] [] t bc bs := by
  intro t v1 v2 v3 v4 H
  unfold BB_X13_play_56 at H
  refine nx_ld rfl rfl rfl rfl ?_
  refine nx_ld rfl rfl rfl rfl ?_
  refine nx_getI rfl rfl rfl (by decide) ?_
  refine nx_icmp rfl rfl (by rfl) H (fun H => ?_) (fun H => ?_)
  · exact TB_X13_play_225 hW    _ _ _ _ _ H
  refine nx_ld rfl rfl rfl rfl ?_
  refine nx_getFix rfl rfl rfl (by decide) (by rw [hW]; rfl) rfl ?_
  refine nx_ld rfl rfl rfl rfl ?_
  refine nx_iald (p := (3328, 0)) rfl rfl (Nat.le_of_ble_eq_true rfl) (Nat.le_of_ble_eq_true rfl) rfl H (fun H => ?_)
  refine nx_ld rfl rfl rfl rfl ?_
  refine nx_icmp rfl rfl (by rfl) H (fun H => ?_) (fun H => ?_)
  · exact TB_X13_play_219 hW   hk56 _ _ _ _ _ H
  refine nx_ld rfl rfl rfl rfl ?_
  refine nx_getFix rfl rfl rfl (by decide) (by rw [hW]; rfl) rfl ?_
  refine nx_ld rfl rfl rfl rfl ?_
  refine nx_bald (c := 3333) (i := 0) rfl rfl (Nat.le_of_ble_eq_true rfl) (Nat.le_of_ble_eq_true rfl) (Or.inr rfl) H (fun H => ?_)
  refine nx_if rfl rfl (by rfl) H (fun H => ?_) (fun H => ?_)
  · exact TB_X13_play_219 hW   hk56 _ _ _ _ _ H
  refine nx_ld rfl rfl rfl rfl ?_
  refine nx_getFix rfl rfl rfl (by decide) (by rw [hW]; rfl) rfl ?_
  refine nx_ld rfl rfl rfl rfl ?_
  refine nx_bald (c := 3334) (i := 0) rfl rfl (Nat.le_of_ble_eq_true rfl) (Nat.le_of_ble_eq_true rfl) (Or.inr rfl) H (fun H => ?_)
  refine nx_if rfl rfl (by rfl) H (fun H => ?_) (fun H => ?_)
  · exact TB_X13_play_219 hW   hk56 _ _ _ _ _ H
  refine nx_ld rfl rfl rfl rfl ?_
  refine nx_getFix rfl rfl rfl (by decide) (by rw [hW]; rfl) rfl ?_
  refine nx_ld rfl rfl rfl rfl ?_
  refine nx_iald (p := (3330, 0)) rfl rfl (Nat.le_of_ble_eq_true rfl) (Nat.le_of_ble_eq_true rfl) rfl H (fun H => ?_)
  refine nx_ld rfl rfl rfl rfl ?_
  refine nx_icmp rfl rfl (by rfl) H (fun H => ?_) (fun H => ?_)
  · refine nx_ld rfl rfl rfl rfl ?_
    refine nx_getFix rfl rfl rfl (by decide) (by rw [hW]; rfl) rfl ?_
    refine nx_ld rfl rfl rfl rfl ?_
    refine nx_dup2 rfl rfl (Nat.ne_of_beq_eq_false rfl) (Nat.ne_of_beq_eq_false rfl) ?_
    refine nx_iald (p := (3346, 0)) rfl rfl (Nat.le_of_ble_eq_true rfl) (Nat.le_of_ble_eq_true rfl) rfl H (fun H => ?_)
    refine nx_ld rfl rfl rfl rfl ?_
    refine nx_ii rfl rfl ?_
    show nX _ _ _ _ _ _ 120 _ _ _ _ _
    refine nx_iast (p := (3346, 0)) rfl rfl (Nat.le_of_ble_eq_true rfl) (Nat.le_of_ble_eq_true rfl) rfl H (fun t21 H => ?_)
    refine nx_ld rfl rfl rfl rfl ?_
    refine nx_getFix rfl rfl rfl (by decide) (by rw [hW]; rfl) rfl ?_
    refine nx_ld rfl rfl rfl rfl ?_
    refine nx_iald (p := (3337, 0)) rfl rfl (Nat.le_of_ble_eq_true rfl) (Nat.le_of_ble_eq_true rfl) rfl H (fun H => ?_)
    refine nx_if rfl rfl (by rfl) H (fun H => ?_) (fun H => ?_)
    · exact TB_X13_play_219 hW   hk56 _ _ _ _ _ H
    refine nx_ld rfl rfl rfl rfl ?_
    refine nx_getFix rfl rfl rfl (by decide) (by rw [hW]; rfl) rfl ?_
    refine nx_ld rfl rfl rfl rfl ?_
    refine nx_iald (p := (3345, 0)) rfl rfl (Nat.le_of_ble_eq_true rfl) (Nat.le_of_ble_eq_true rfl) rfl H (fun H => ?_)
    refine nx_if rfl rfl (by rfl) H (fun H => ?_) (fun H => ?_)
    · exact TB_X13_play_219 hW   hk56 _ _ _ _ _ H
    refine nx_ld rfl rfl rfl rfl ?_
    refine nx_getFix rfl rfl rfl (by decide) (by rw [hW]; rfl) rfl ?_
    refine nx_ld rfl rfl rfl rfl ?_
    refine nx_iald (p := (3346, 0)) rfl rfl (Nat.le_of_ble_eq_true rfl) (Nat.le_of_ble_eq_true rfl) rfl H (fun H => ?_)
    refine nx_ld rfl rfl rfl rfl ?_
    refine nx_getFix rfl rfl rfl (by decide) (by rw [hW]; rfl) rfl ?_
    refine nx_ld rfl rfl rfl rfl ?_
    show nX _ _ _ _ _ _ 154 _ _ _ _ _
    refine nx_iald (p := (3338, 0)) rfl rfl (Nat.le_of_ble_eq_true rfl) (Nat.le_of_ble_eq_true rfl) rfl H (fun H => ?_)
    refine nx_icmp rfl rfl (by rfl) H (fun H => ?_) (fun H => ?_)
    · refine nx_ld rfl rfl rfl rfl ?_
      refine nx_getFix rfl rfl rfl (by decide) (by rw [hW]; rfl) rfl ?_
      refine nx_ld rfl rfl rfl rfl ?_
      refine nx_ld rfl rfl rfl rfl ?_
      refine nx_getFix rfl rfl rfl (by decide) (by rw [hW]; rfl) rfl ?_
      refine nx_ld rfl rfl rfl rfl ?_
      refine nx_iald (p := (3337, 0)) rfl rfl (Nat.le_of_ble_eq_true rfl) (Nat.le_of_ble_eq_true rfl) rfl H (fun H => ?_)
      show nX _ _ _ _ _ _ 174 _ _ _ _ _
      refine nx_iast (p := (3345, 0)) rfl rfl (Nat.le_of_ble_eq_true rfl) (Nat.le_of_ble_eq_true rfl) rfl H (fun t22 H => ?_)
      refine nx_ld rfl rfl rfl rfl ?_
      refine nx_getFix rfl rfl rfl (by decide) (by rw [hW]; rfl) rfl ?_
      refine nx_ld rfl rfl rfl rfl ?_
      refine nx_getFix rfl rfl rfl (by decide) (by rw [hW]; rfl) rfl ?_
      refine nx_ld rfl rfl rfl rfl ?_
      refine nx_iald (p := (3330, 0)) rfl rfl (Nat.le_of_ble_eq_true rfl) (Nat.le_of_ble_eq_true rfl) rfl H (fun H => ?_)
      refine nx_dup2 rfl rfl (Nat.ne_of_beq_eq_false rfl) (Nat.ne_of_beq_eq_false rfl) ?_
      show nX _ _ _ _ _ _ 187 _ _ _ _ _
      refine nx_iald (p := (3310, 0)) rfl rfl (Nat.le_of_ble_eq_true rfl) (Nat.le_of_ble_eq_true rfl) rfl H (fun H => ?_)
      refine nx_ld rfl rfl rfl rfl ?_
      refine nx_getFix rfl rfl rfl (by decide) (by rw [hW]; rfl) rfl ?_
      refine nx_ld rfl rfl rfl rfl ?_
      refine nx_iald (p := (3337, 0)) rfl rfl (Nat.le_of_ble_eq_true rfl) (Nat.le_of_ble_eq_true rfl) rfl H (fun H => ?_)
      refine nx_ii rfl rfl ?_
      refine nx_iast (p := (3310, 0)) rfl rfl (Nat.le_of_ble_eq_true rfl) (Nat.le_of_ble_eq_true rfl) rfl H (fun t23 H => ?_)
      refine nx_ld rfl rfl rfl rfl ?_
      show nX _ _ _ _ _ _ 198 _ _ _ _ _
      refine nx_getFix rfl rfl rfl (by decide) (by rw [hW]; rfl) rfl ?_
      refine nx_ld rfl rfl rfl rfl ?_
      refine nx_getFix rfl rfl rfl (by decide) (by rw [hW]; rfl) rfl ?_
      refine nx_ld rfl rfl rfl rfl ?_
      refine nx_iald (p := (3329, 0)) rfl rfl (Nat.le_of_ble_eq_true rfl) (Nat.le_of_ble_eq_true rfl) rfl H (fun H => ?_)
      refine nx_dup2 rfl rfl (Nat.ne_of_beq_eq_false rfl) (Nat.ne_of_beq_eq_false rfl) ?_
      refine nx_iald (p := (3310, 0)) rfl rfl (Nat.le_of_ble_eq_true rfl) (Nat.le_of_ble_eq_true rfl) rfl H (fun H => ?_)
      refine nx_ld rfl rfl rfl rfl ?_
      show nX _ _ _ _ _ _ 211 _ _ _ _ _
      refine nx_getFix rfl rfl rfl (by decide) (by rw [hW]; rfl) rfl ?_
      refine nx_ld rfl rfl rfl rfl ?_
      refine nx_iald (p := (3337, 0)) rfl rfl (Nat.le_of_ble_eq_true rfl) (Nat.le_of_ble_eq_true rfl) rfl H (fun H => ?_)
      refine nx_ii rfl rfl ?_
      refine nx_iast (p := (3310, 0)) rfl rfl (Nat.le_of_ble_eq_true rfl) (Nat.le_of_ble_eq_true rfl) rfl H (fun t24 H => ?_)
      exact TB_X13_play_219 hW   hk56 _ _ _ _ _ H
    refine nx_goto rfl rfl ?_
    exact TB_X13_play_219 hW   hk56 _ _ _ _ _ H
  refine nx_goto rfl rfl ?_
  exact TB_X13_play_219 hW   hk56 _ _ _ _ _ H
def B_X13_play_56 : Nat → TS → Int32 → Int32 → Int32 → Int32 → Option (Int32 × TS)
  | 0 => fun _ _ _ _ _ => none
  | n + 1 => fun t v1 v2 v3 v4 => BB_X13_play_56 (B_X13_play_56 n) t v1 v2 v3 v4
theorem TB_X13_play_56 {W : NW} {d : Nat} {Q : Option NV → TS → Prop} {a0 : Nat → Nat → Nat} {e0 : Nat → Nat → Bool} {bc bs : Nat} (hW : W.2.2.2 = mm_fx) : ∀ (n : Nat) (t : TS) (v1 : Int32) (v2 : Int32) (v3 : Int32) (v4 : Int32), wp (B_X13_play_56 n t v1 v2 v3 v4) (fun r => Q (some (eI r.1)) r.2) → nX W (d + 4) tX13_play Q a0 e0 56 [some (eR (some (13, 0))), some (eI v1), some (eI v2), some (eI v3), some (eI v4)] [] t bc bs := by
  intro n
  induction n with
  | zero => intro t v1 v2 v3 v4 H; exact (wp_none H).elim
  | succ n ih =>
    intro t v1 v2 v3 v4 H
    exact TBB_X13_play_56 hW    ih t v1 v2 v3 v4 H
def F_X13_play (t : TS) (x1 : Int32) (x2 : Int32) : Option (Int32 × TS) := (Option.bind (F_X13_isPlayer t x1) (fun r21 => (if r21 = 0 then (some ((-1), t)) else (Option.bind (F_X13_in t x2 1 60) (fun r22 => (if ¬ r22 = 0 then (Option.bind (F_X13_holderOn t x1 (tI t 1301 0)) (fun r23 => (if 0 ≤ r23 then (gd ((150 * x1) + r23) (tL t 3348 0) (gd ((150 * x1) + r23) (tL t 3348 0) (nxt (uA t 3348 0 ((150 * x1) + r23).toNatClampNeg ((tA t 3348 0 ((150 * x1) + r23).toNatClampNeg) + x2)) (fun t24 => (B_X13_play_56  10000 t24 x1 x2 r23 0))))) else (some ((-2), t))))) else (some ((-1), t))))))))
theorem TF_X13_play {W : NW} {d : Nat} {t : TS} {x1 : Int32} {x2 : Int32} {Q : Option NV → TS → Prop} {bc bs : Nat} (hW : W.2.2.2 = mm_fx) (H : wp (F_X13_play t x1 x2) (fun r => Q (some (eI r.1)) r.2)) : nC W (d + 5) 205 [eR (some (13, 0)), eI x1, eI x2] t bc bs Q := by
  refine nC_in (d := (d + 4)) (T := tX13_play) (ls := [some (eR (some (13, 0))), some (eI x1), some (eI x2), none, none]) rfl (Nat.le_of_ble_eq_true rfl) rfl (fun a0 e0 => ?_)
  unfold F_X13_play at H
  refine nx_ld rfl rfl rfl rfl ?_
  refine nx_ld rfl rfl rfl rfl ?_
  refine nx_cVI (as := [eI x1]) (st' := []) rfl rfl (Nat.le_of_ble_eq_true rfl) rfl rfl (Nat.le_of_ble_eq_true rfl) (c0 := 13) rfl (by decide) H (fun Q H => TF_X13_isPlayer hW  H) (fun r21 H => ?_)
  refine nx_if rfl rfl (by rfl) H (fun H => ?_) (fun H => ?_)
  · refine nx_int (x := (-1)) rfl rfl ?_
    exact nx_rit rfl rfl H
  refine nx_ld rfl rfl rfl rfl ?_
  refine nx_int (x := 1) rfl rfl ?_
  refine nx_int (x := 60) rfl rfl ?_
  refine nx_cSI (as := [eI x2, eI 1, eI 60]) (st' := []) rfl rfl (Nat.le_of_ble_eq_true rfl) rfl rfl (Nat.le_of_ble_eq_true rfl) H (fun Q H => TF_X13_in hW  H) (fun r22 H => ?_)
  refine nx_if rfl rfl (by rfl) H (fun H => ?_) (fun H => ?_)
  · refine nx_ld rfl rfl rfl rfl ?_
    refine nx_ld rfl rfl rfl rfl ?_
    refine nx_ld rfl rfl rfl rfl ?_
    refine nx_getI rfl rfl rfl (by decide) ?_
    refine nx_cVI (as := [eI x1, eI (tI t 1301 0)]) (st' := []) rfl rfl (Nat.le_of_ble_eq_true rfl) rfl rfl (Nat.le_of_ble_eq_true rfl) (c0 := 13) rfl (by decide) H (fun Q H => TF_X13_holderOn hW  H) (fun r23 H => ?_)
    refine nx_st (ls' := [some (eR (some (13, 0))), some (eI x1), some (eI x2), some (eI r23), none]) rfl rfl rfl (Nat.le_of_ble_eq_true rfl) rfl ?_
    refine nx_ld rfl rfl rfl rfl ?_
    show nX _ _ _ _ _ _ 31 _ _ _ _ _
    refine nx_if rfl rfl (by rfl) H (fun H => ?_) (fun H => ?_)
    · refine nx_ld rfl rfl rfl rfl ?_
      refine nx_getFix rfl rfl rfl (by decide) (by rw [hW]; rfl) rfl ?_
      refine nx_int (x := 150) rfl rfl ?_
      refine nx_ld rfl rfl rfl rfl ?_
      refine nx_ii rfl rfl ?_
      refine nx_ld rfl rfl rfl rfl ?_
      refine nx_ii rfl rfl ?_
      show nX _ _ _ _ _ _ 48 _ _ _ _ _
      refine nx_dup2 rfl rfl (Nat.ne_of_beq_eq_false rfl) (Nat.ne_of_beq_eq_false rfl) ?_
      refine nx_iald (p := (3348, 0)) rfl rfl (Nat.le_of_ble_eq_true rfl) (Nat.le_of_ble_eq_true rfl) rfl H (fun H => ?_)
      refine nx_ld rfl rfl rfl rfl ?_
      refine nx_ii rfl rfl ?_
      refine nx_iast (p := (3348, 0)) rfl rfl (Nat.le_of_ble_eq_true rfl) (Nat.le_of_ble_eq_true rfl) rfl H (fun t24 H => ?_)
      refine nx_int (x := 0) rfl rfl ?_
      refine nx_st (ls' := [some (eR (some (13, 0))), some (eI x1), some (eI x2), some (eI r23), some (eI 0)]) rfl rfl rfl (Nat.le_of_ble_eq_true rfl) rfl ?_
      exact TB_X13_play_56 hW    10000 _ _ _ _ _ H
    refine nx_int (x := (-2)) rfl rfl ?_
    exact nx_rit rfl rfl H
  refine nx_int (x := (-1)) rfl rfl ?_
  exact nx_rit rfl rfl H
def BB_X13_undo_176 (k176 : TS → Int32 → Int32 → Option (Int32 × TS)) (t : TS) (v1 : Int32) (v2 : Int32) : Option (Int32 × TS) := (if (tI t 1307 0) ≤ v2 then (some (1, t)) else (gd v2 (tL t 3310 0) (gd ((150 * v1) + v2) (tL t 3347 0) (gd v2 (tL t 3310 0) (nxt (uA t 3310 0 v2.toNatClampNeg ((tA t 3310 0 v2.toNatClampNeg) - (tA t 3347 0 ((150 * v1) + v2).toNatClampNeg))) (fun t21 => (k176 t21 v1 (v2 + 1))))))))
theorem TBB_X13_undo_176 {W : NW} {d : Nat} {Q : Option NV → TS → Prop} {a0 : Nat → Nat → Nat} {e0 : Nat → Nat → Bool} {k176 : TS → Int32 → Int32 → Option (Int32 × TS)} {bc bs : Nat} (hW : W.2.2.2 = mm_fx) (hk176 : ∀ (t : TS) (v1 : Int32) (v2 : Int32), wp (k176 t v1 v2) (fun r => Q (some (eI r.1)) r.2) → nX W (d + 2) tX13_undo Q a0 e0 176 [some (eR (some (13, 0))), some (eI v1), some (eI v2)] [] t bc bs) : ∀ (t : TS) (v1 : Int32) (v2 : Int32), wp (BB_X13_undo_176 k176 t v1 v2) (fun r => Q (some (eI r.1)) r.2) → nX W (d + 2) tX13_undo Q a0 e0 176 [some (eR (some (13, 0))), some (eI v1), some (eI v2)] [] t bc bs := by
  intro t v1 v2 H
  unfold BB_X13_undo_176 at H
  refine nx_ld rfl rfl rfl rfl ?_
  refine nx_ld rfl rfl rfl rfl ?_
  refine nx_getI rfl rfl rfl (by decide) ?_
  refine nx_icmp rfl rfl (by rfl) H (fun H => ?_) (fun H => ?_)
  · refine nx_int (x := 1) rfl rfl ?_
    exact nx_rit rfl rfl H
  refine nx_ld rfl rfl rfl rfl ?_
  refine nx_getFix rfl rfl rfl (by decide) (by rw [hW]; rfl) rfl ?_
  refine nx_ld rfl rfl rfl rfl ?_
  refine nx_dup2 rfl rfl (Nat.ne_of_beq_eq_false rfl) (Nat.ne_of_beq_eq_false rfl) ?_
  refine nx_iald (p := (3310, 0)) rfl rfl (Nat.le_of_ble_eq_true rfl) (Nat.le_of_ble_eq_true rfl) rfl H (fun H => ?_)
  refine nx_ld rfl rfl rfl rfl ?_
  refine nx_getFix rfl rfl rfl (by decide) (by rw [hW]; rfl) rfl ?_
  show nX _ _ _ _ _ _ 195 _ _ _ _ _
  refine nx_int (x := 150) rfl rfl ?_
  refine nx_ld rfl rfl rfl rfl ?_
  refine nx_ii rfl rfl ?_
  refine nx_ld rfl rfl rfl rfl ?_
  refine nx_ii rfl rfl ?_
  refine nx_iald (p := (3347, 0)) rfl rfl (Nat.le_of_ble_eq_true rfl) (Nat.le_of_ble_eq_true rfl) rfl H (fun H => ?_)
  refine nx_ii rfl rfl ?_
  refine nx_iast (p := (3310, 0)) rfl rfl (Nat.le_of_ble_eq_true rfl) (Nat.le_of_ble_eq_true rfl) rfl H (fun t21 H => ?_)
  show nX _ _ _ _ _ _ 205 _ _ _ _ _
  refine nx_iinc2 1 (ls' := [some (eR (some (13, 0))), some (eI v1), some (eI (v2 + 1))]) rfl rfl rfl rfl rfl ?_
  refine nx_goto rfl rfl ?_
  exact hk176 _ _ _ H
def B_X13_undo_176 : Nat → TS → Int32 → Int32 → Option (Int32 × TS)
  | 0 => fun _ _ _ => none
  | n + 1 => fun t v1 v2 => BB_X13_undo_176 (B_X13_undo_176 n) t v1 v2
theorem TB_X13_undo_176 {W : NW} {d : Nat} {Q : Option NV → TS → Prop} {a0 : Nat → Nat → Nat} {e0 : Nat → Nat → Bool} {bc bs : Nat} (hW : W.2.2.2 = mm_fx) : ∀ (n : Nat) (t : TS) (v1 : Int32) (v2 : Int32), wp (B_X13_undo_176 n t v1 v2) (fun r => Q (some (eI r.1)) r.2) → nX W (d + 2) tX13_undo Q a0 e0 176 [some (eR (some (13, 0))), some (eI v1), some (eI v2)] [] t bc bs := by
  intro n
  induction n with
  | zero => intro t v1 v2 H; exact (wp_none H).elim
  | succ n ih =>
    intro t v1 v2 H
    exact TBB_X13_undo_176 hW    ih t v1 v2 H
def B_X13_undo_174 (t : TS) (v1 : Int32) : Option (Int32 × TS) := (B_X13_undo_176  10000 t v1 0)
theorem TB_X13_undo_174 {W : NW} {d : Nat} {Q : Option NV → TS → Prop} {a0 : Nat → Nat → Nat} {e0 : Nat → Nat → Bool} {bc bs : Nat} (hW : W.2.2.2 = mm_fx) : ∀ (t : TS) (v1 : Int32) (v2 : Int32), wp (B_X13_undo_174 t v1) (fun r => Q (some (eI r.1)) r.2) → nX W (d + 2) tX13_undo Q a0 e0 174 [some (eR (some (13, 0))), some (eI v1), some (eI v2)] [] t bc bs := by
  intro t v1 v2 H
  unfold B_X13_undo_174 at H
  refine nx_int (x := 0) rfl rfl ?_
  refine nx_st (ls' := [some (eR (some (13, 0))), some (eI v1), some (eI 0)]) rfl rfl rfl (Nat.le_of_ble_eq_true rfl) rfl ?_
  exact TB_X13_undo_176 hW    10000 _ _ _ H
def B_X13_undo_69 (t : TS) (v1 : Int32) : Option (Int32 × TS) := (gd v1 (tL t 3334 0) (nxt (uA t 3334 0 v1.toNatClampNeg (vp_nar .boolean 1)) (fun t21 => (gd v1 (tL t21 3340 0) (gd (tA t21 3340 0 v1.toNatClampNeg) (tL t21 3322 0) (nxt (uA t21 3322 0 (tA t21 3340 0 v1.toNatClampNeg).toNatClampNeg (tI t21 1301 0)) (fun t22 => (gd v1 (tL t22 3330 0) (gd (tA t22 3330 0 v1.toNatClampNeg) (tL t22 3310 0) (gd v1 (tL t22 3331 0) (gd (tA t22 3330 0 v1.toNatClampNeg) (tL t22 3310 0) (nxt (uA t22 3310 0 (tA t22 3330 0 v1.toNatClampNeg).toNatClampNeg ((tA t22 3310 0 (tA t22 3330 0 v1.toNatClampNeg).toNatClampNeg) + (tA t22 3331 0 v1.toNatClampNeg))) (fun t23 => (gd v1 (tL t23 3329 0) (gd (tA t23 3329 0 v1.toNatClampNeg) (tL t23 3310 0) (gd v1 (tL t23 3331 0) (gd v1 (tL t23 3341 0) (gd v1 (tL t23 3343 0) (gd (tA t23 3329 0 v1.toNatClampNeg) (tL t23 3310 0) (nxt (uA t23 3310 0 (tA t23 3329 0 v1.toNatClampNeg).toNatClampNeg ((tA t23 3310 0 (tA t23 3329 0 v1.toNatClampNeg).toNatClampNeg) - (((tA t23 3331 0 v1.toNatClampNeg) - (tA t23 3341 0 v1.toNatClampNeg)) - (tA t23 3343 0 v1.toNatClampNeg)))) (fun t24 => (gd v1 (tL t24 3342 0) (if (tA t24 3342 0 v1.toNatClampNeg) < 0 then (B_X13_undo_174  t24 v1) else (gd v1 (tL t24 3342 0) (gd (tA t24 3342 0 v1.toNatClampNeg) (tL t24 3310 0) (gd v1 (tL t24 3341 0) (gd (tA t24 3342 0 v1.toNatClampNeg) (tL t24 3310 0) (nxt (uA t24 3310 0 (tA t24 3342 0 v1.toNatClampNeg).toNatClampNeg ((tA t24 3310 0 (tA t24 3342 0 v1.toNatClampNeg).toNatClampNeg) - (tA t24 3341 0 v1.toNatClampNeg))) (fun t25 => (B_X13_undo_174  t25 v1))))))))))))))))))))))))))))))
theorem TB_X13_undo_69 {W : NW} {d : Nat} {Q : Option NV → TS → Prop} {a0 : Nat → Nat → Nat} {e0 : Nat → Nat → Bool} {bc bs : Nat} (hW : W.2.2.2 = mm_fx) : ∀ (t : TS) (v1 : Int32) (v2 : Int32), wp (B_X13_undo_69 t v1) (fun r => Q (some (eI r.1)) r.2) → nX W (d + 2) tX13_undo Q a0 e0 69 [some (eR (some (13, 0))), some (eI v1), some (eI v2)] [] t bc bs := by
  intro t v1 v2 H
  unfold B_X13_undo_69 at H
  refine nx_ld rfl rfl rfl rfl ?_
  refine nx_getFix rfl rfl rfl (by decide) (by rw [hW]; rfl) rfl ?_
  refine nx_ld rfl rfl rfl rfl ?_
  refine nx_int (x := 1) rfl rfl ?_
  refine nx_zast (c := 3334) (i := 0) rfl rfl (Nat.le_of_ble_eq_true rfl) (Nat.le_of_ble_eq_true rfl) rfl H (fun t21 H => ?_)
  refine nx_ld rfl rfl rfl rfl ?_
  refine nx_getFix rfl rfl rfl (by decide) (by rw [hW]; rfl) rfl ?_
  show nX _ _ _ _ _ _ 80 _ _ _ _ _
  refine nx_ld rfl rfl rfl rfl ?_
  refine nx_getFix rfl rfl rfl (by decide) (by rw [hW]; rfl) rfl ?_
  refine nx_ld rfl rfl rfl rfl ?_
  refine nx_iald (p := (3340, 0)) rfl rfl (Nat.le_of_ble_eq_true rfl) (Nat.le_of_ble_eq_true rfl) rfl H (fun H => ?_)
  refine nx_ld rfl rfl rfl rfl ?_
  refine nx_getI rfl rfl rfl (by decide) ?_
  refine nx_iast (p := (3322, 0)) rfl rfl (Nat.le_of_ble_eq_true rfl) (Nat.le_of_ble_eq_true rfl) rfl H (fun t22 H => ?_)
  refine nx_ld rfl rfl rfl rfl ?_
  show nX _ _ _ _ _ _ 92 _ _ _ _ _
  refine nx_getFix rfl rfl rfl (by decide) (by rw [hW]; rfl) rfl ?_
  refine nx_ld rfl rfl rfl rfl ?_
  refine nx_getFix rfl rfl rfl (by decide) (by rw [hW]; rfl) rfl ?_
  refine nx_ld rfl rfl rfl rfl ?_
  refine nx_iald (p := (3330, 0)) rfl rfl (Nat.le_of_ble_eq_true rfl) (Nat.le_of_ble_eq_true rfl) rfl H (fun H => ?_)
  refine nx_dup2 rfl rfl (Nat.ne_of_beq_eq_false rfl) (Nat.ne_of_beq_eq_false rfl) ?_
  refine nx_iald (p := (3310, 0)) rfl rfl (Nat.le_of_ble_eq_true rfl) (Nat.le_of_ble_eq_true rfl) rfl H (fun H => ?_)
  refine nx_ld rfl rfl rfl rfl ?_
  show nX _ _ _ _ _ _ 104 _ _ _ _ _
  refine nx_getFix rfl rfl rfl (by decide) (by rw [hW]; rfl) rfl ?_
  refine nx_ld rfl rfl rfl rfl ?_
  refine nx_iald (p := (3331, 0)) rfl rfl (Nat.le_of_ble_eq_true rfl) (Nat.le_of_ble_eq_true rfl) rfl H (fun H => ?_)
  refine nx_ii rfl rfl ?_
  refine nx_iast (p := (3310, 0)) rfl rfl (Nat.le_of_ble_eq_true rfl) (Nat.le_of_ble_eq_true rfl) rfl H (fun t23 H => ?_)
  refine nx_ld rfl rfl rfl rfl ?_
  refine nx_getFix rfl rfl rfl (by decide) (by rw [hW]; rfl) rfl ?_
  refine nx_ld rfl rfl rfl rfl ?_
  show nX _ _ _ _ _ _ 116 _ _ _ _ _
  refine nx_getFix rfl rfl rfl (by decide) (by rw [hW]; rfl) rfl ?_
  refine nx_ld rfl rfl rfl rfl ?_
  refine nx_iald (p := (3329, 0)) rfl rfl (Nat.le_of_ble_eq_true rfl) (Nat.le_of_ble_eq_true rfl) rfl H (fun H => ?_)
  refine nx_dup2 rfl rfl (Nat.ne_of_beq_eq_false rfl) (Nat.ne_of_beq_eq_false rfl) ?_
  refine nx_iald (p := (3310, 0)) rfl rfl (Nat.le_of_ble_eq_true rfl) (Nat.le_of_ble_eq_true rfl) rfl H (fun H => ?_)
  refine nx_ld rfl rfl rfl rfl ?_
  refine nx_getFix rfl rfl rfl (by decide) (by rw [hW]; rfl) rfl ?_
  refine nx_ld rfl rfl rfl rfl ?_
  show nX _ _ _ _ _ _ 128 _ _ _ _ _
  refine nx_iald (p := (3331, 0)) rfl rfl (Nat.le_of_ble_eq_true rfl) (Nat.le_of_ble_eq_true rfl) rfl H (fun H => ?_)
  refine nx_ld rfl rfl rfl rfl ?_
  refine nx_getFix rfl rfl rfl (by decide) (by rw [hW]; rfl) rfl ?_
  refine nx_ld rfl rfl rfl rfl ?_
  refine nx_iald (p := (3341, 0)) rfl rfl (Nat.le_of_ble_eq_true rfl) (Nat.le_of_ble_eq_true rfl) rfl H (fun H => ?_)
  refine nx_ii rfl rfl ?_
  refine nx_ld rfl rfl rfl rfl ?_
  refine nx_getFix rfl rfl rfl (by decide) (by rw [hW]; rfl) rfl ?_
  show nX _ _ _ _ _ _ 140 _ _ _ _ _
  refine nx_ld rfl rfl rfl rfl ?_
  refine nx_iald (p := (3343, 0)) rfl rfl (Nat.le_of_ble_eq_true rfl) (Nat.le_of_ble_eq_true rfl) rfl H (fun H => ?_)
  refine nx_ii rfl rfl ?_
  refine nx_ii rfl rfl ?_
  refine nx_iast (p := (3310, 0)) rfl rfl (Nat.le_of_ble_eq_true rfl) (Nat.le_of_ble_eq_true rfl) rfl H (fun t24 H => ?_)
  refine nx_ld rfl rfl rfl rfl ?_
  refine nx_getFix rfl rfl rfl (by decide) (by rw [hW]; rfl) rfl ?_
  refine nx_ld rfl rfl rfl rfl ?_
  show nX _ _ _ _ _ _ 150 _ _ _ _ _
  refine nx_iald (p := (3342, 0)) rfl rfl (Nat.le_of_ble_eq_true rfl) (Nat.le_of_ble_eq_true rfl) rfl H (fun H => ?_)
  refine nx_if rfl rfl (by rfl) H (fun H => ?_) (fun H => ?_)
  · exact TB_X13_undo_174 hW    _ _ _ H
  refine nx_ld rfl rfl rfl rfl ?_
  refine nx_getFix rfl rfl rfl (by decide) (by rw [hW]; rfl) rfl ?_
  refine nx_ld rfl rfl rfl rfl ?_
  refine nx_getFix rfl rfl rfl (by decide) (by rw [hW]; rfl) rfl ?_
  refine nx_ld rfl rfl rfl rfl ?_
  refine nx_iald (p := (3342, 0)) rfl rfl (Nat.le_of_ble_eq_true rfl) (Nat.le_of_ble_eq_true rfl) rfl H (fun H => ?_)
  refine nx_dup2 rfl rfl (Nat.ne_of_beq_eq_false rfl) (Nat.ne_of_beq_eq_false rfl) ?_
  show nX _ _ _ _ _ _ 165 _ _ _ _ _
  refine nx_iald (p := (3310, 0)) rfl rfl (Nat.le_of_ble_eq_true rfl) (Nat.le_of_ble_eq_true rfl) rfl H (fun H => ?_)
  refine nx_ld rfl rfl rfl rfl ?_
  refine nx_getFix rfl rfl rfl (by decide) (by rw [hW]; rfl) rfl ?_
  refine nx_ld rfl rfl rfl rfl ?_
  refine nx_iald (p := (3341, 0)) rfl rfl (Nat.le_of_ble_eq_true rfl) (Nat.le_of_ble_eq_true rfl) rfl H (fun H => ?_)
  refine nx_ii rfl rfl ?_
  refine nx_iast (p := (3310, 0)) rfl rfl (Nat.le_of_ble_eq_true rfl) (Nat.le_of_ble_eq_true rfl) rfl H (fun t25 H => ?_)
  exact TB_X13_undo_174 hW    _ _ _ H
def B_X13_undo_63 (k26 : TS → Int32 → Int32 → Option (Int32 × TS)) (t : TS) (v1 : Int32) (v2 : Int32) : Option (Int32 × TS) := (k26 t v1 (v2 + 1))
theorem TB_X13_undo_63 {W : NW} {d : Nat} {Q : Option NV → TS → Prop} {a0 : Nat → Nat → Nat} {e0 : Nat → Nat → Bool} {k26 : TS → Int32 → Int32 → Option (Int32 × TS)} {bc bs : Nat} (hW : W.2.2.2 = mm_fx) (hk26 : ∀ (t : TS) (v1 : Int32) (v2 : Int32), wp (k26 t v1 v2) (fun r => Q (some (eI r.1)) r.2) → nX W (d + 2) tX13_undo Q a0 e0 26 [some (eR (some (13, 0))), some (eI v1), some (eI v2)] [] t bc bs) : ∀ (t : TS) (v1 : Int32) (v2 : Int32), wp (B_X13_undo_63 k26 t v1 v2) (fun r => Q (some (eI r.1)) r.2) → nX W (d + 2) tX13_undo Q a0 e0 63 [some (eR (some (13, 0))), some (eI v1), some (eI v2)] [] t bc bs := by
  intro t v1 v2 H
  unfold B_X13_undo_63 at H
  refine nx_iinc2 1 (ls' := [some (eR (some (13, 0))), some (eI v1), some (eI (v2 + 1))]) rfl rfl rfl rfl rfl ?_
  refine nx_goto rfl rfl ?_
  exact hk26 _ _ _ H
def BB_X13_undo_26 (k26 : TS → Int32 → Int32 → Option (Int32 × TS)) (t : TS) (v1 : Int32) (v2 : Int32) : Option (Int32 × TS) := (if (tI t 1327 0) ≤ v2 then (B_X13_undo_69  t v1) else (gd v2 (tL t 3328 0) (gd v1 (tL t 3328 0) (if ¬ (tA t 3328 0 v2.toNatClampNeg) = (tA t 3328 0 v1.toNatClampNeg) then (B_X13_undo_63 k26 t v1 v2) else (gd v2 (tL t 3334 0) (if ¬ (tA t 3334 0 v2.toNatClampNeg) = 0 then (B_X13_undo_63 k26 t v1 v2) else (some (((-100) - v2), t))))))))
theorem TBB_X13_undo_26 {W : NW} {d : Nat} {Q : Option NV → TS → Prop} {a0 : Nat → Nat → Nat} {e0 : Nat → Nat → Bool} {k26 : TS → Int32 → Int32 → Option (Int32 × TS)} {bc bs : Nat} (hW : W.2.2.2 = mm_fx) (hk26 : ∀ (t : TS) (v1 : Int32) (v2 : Int32), wp (k26 t v1 v2) (fun r => Q (some (eI r.1)) r.2) → nX W (d + 2) tX13_undo Q a0 e0 26 [some (eR (some (13, 0))), some (eI v1), some (eI v2)] [] t bc bs) : ∀ (t : TS) (v1 : Int32) (v2 : Int32), wp (BB_X13_undo_26 k26 t v1 v2) (fun r => Q (some (eI r.1)) r.2) → nX W (d + 2) tX13_undo Q a0 e0 26 [some (eR (some (13, 0))), some (eI v1), some (eI v2)] [] t bc bs := by
  intro t v1 v2 H
  unfold BB_X13_undo_26 at H
  refine nx_ld rfl rfl rfl rfl ?_
  refine nx_ld rfl rfl rfl rfl ?_
  refine nx_getI rfl rfl rfl (by decide) ?_
  refine nx_icmp rfl rfl (by rfl) H (fun H => ?_) (fun H => ?_)
  · exact TB_X13_undo_69 hW    _ _ _ H
  refine nx_ld rfl rfl rfl rfl ?_
  refine nx_getFix rfl rfl rfl (by decide) (by rw [hW]; rfl) rfl ?_
  refine nx_ld rfl rfl rfl rfl ?_
  refine nx_iald (p := (3328, 0)) rfl rfl (Nat.le_of_ble_eq_true rfl) (Nat.le_of_ble_eq_true rfl) rfl H (fun H => ?_)
  refine nx_ld rfl rfl rfl rfl ?_
  refine nx_getFix rfl rfl rfl (by decide) (by rw [hW]; rfl) rfl ?_
  refine nx_ld rfl rfl rfl rfl ?_
  show nX _ _ _ _ _ _ 45 _ _ _ _ _
  refine nx_iald (p := (3328, 0)) rfl rfl (Nat.le_of_ble_eq_true rfl) (Nat.le_of_ble_eq_true rfl) rfl H (fun H => ?_)
  refine nx_icmp rfl rfl (by rfl) H (fun H => ?_) (fun H => ?_)
  · exact TB_X13_undo_63 hW   hk26 _ _ _ H
  refine nx_ld rfl rfl rfl rfl ?_
  refine nx_getFix rfl rfl rfl (by decide) (by rw [hW]; rfl) rfl ?_
  refine nx_ld rfl rfl rfl rfl ?_
  refine nx_bald (c := 3334) (i := 0) rfl rfl (Nat.le_of_ble_eq_true rfl) (Nat.le_of_ble_eq_true rfl) (Or.inr rfl) H (fun H => ?_)
  refine nx_if rfl rfl (by rfl) H (fun H => ?_) (fun H => ?_)
  · exact TB_X13_undo_63 hW   hk26 _ _ _ H
  refine nx_int (x := (-100)) rfl rfl ?_
  refine nx_ld rfl rfl rfl rfl ?_
  refine nx_ii rfl rfl ?_
  exact nx_rit rfl rfl H
def B_X13_undo_26 : Nat → TS → Int32 → Int32 → Option (Int32 × TS)
  | 0 => fun _ _ _ => none
  | n + 1 => fun t v1 v2 => BB_X13_undo_26 (B_X13_undo_26 n) t v1 v2
theorem TB_X13_undo_26 {W : NW} {d : Nat} {Q : Option NV → TS → Prop} {a0 : Nat → Nat → Nat} {e0 : Nat → Nat → Bool} {bc bs : Nat} (hW : W.2.2.2 = mm_fx) : ∀ (n : Nat) (t : TS) (v1 : Int32) (v2 : Int32), wp (B_X13_undo_26 n t v1 v2) (fun r => Q (some (eI r.1)) r.2) → nX W (d + 2) tX13_undo Q a0 e0 26 [some (eR (some (13, 0))), some (eI v1), some (eI v2)] [] t bc bs := by
  intro n
  induction n with
  | zero => intro t v1 v2 H; exact (wp_none H).elim
  | succ n ih =>
    intro t v1 v2 H
    exact TBB_X13_undo_26 hW    ih t v1 v2 H
def F_X13_undo (t : TS) (x1 : Int32) : Option (Int32 × TS) := (Option.bind (F_X13_isMove t x1) (fun r21 => (if ¬ r21 = 0 then (gd x1 (tL t 3334 0) (if (tA t 3334 0 x1.toNatClampNeg) = 0 then (B_X13_undo_26  10000 t x1 (x1 + 1)) else (some ((-2), t)))) else (some ((-1), t)))))
theorem TF_X13_undo {W : NW} {d : Nat} {t : TS} {x1 : Int32} {Q : Option NV → TS → Prop} {bc bs : Nat} (hW : W.2.2.2 = mm_fx) (H : wp (F_X13_undo t x1) (fun r => Q (some (eI r.1)) r.2)) : nC W (d + 3) 206 [eR (some (13, 0)), eI x1] t bc bs Q := by
  refine nC_in (d := (d + 2)) (T := tX13_undo) (ls := [some (eR (some (13, 0))), some (eI x1), none]) rfl (Nat.le_of_ble_eq_true rfl) rfl (fun a0 e0 => ?_)
  unfold F_X13_undo at H
  refine nx_ld rfl rfl rfl rfl ?_
  refine nx_ld rfl rfl rfl rfl ?_
  refine nx_cVI (as := [eI x1]) (st' := []) rfl rfl (Nat.le_of_ble_eq_true rfl) rfl rfl (Nat.le_of_ble_eq_true rfl) (c0 := 13) rfl (by decide) H (fun Q H => TF_X13_isMove hW  H) (fun r21 H => ?_)
  refine nx_if rfl rfl (by rfl) H (fun H => ?_) (fun H => ?_)
  · refine nx_ld rfl rfl rfl rfl ?_
    refine nx_getFix rfl rfl rfl (by decide) (by rw [hW]; rfl) rfl ?_
    refine nx_ld rfl rfl rfl rfl ?_
    refine nx_bald (c := 3334) (i := 0) rfl rfl (Nat.le_of_ble_eq_true rfl) (Nat.le_of_ble_eq_true rfl) (Or.inr rfl) H (fun H => ?_)
    refine nx_if rfl rfl (by rfl) H (fun H => ?_) (fun H => ?_)
    · refine nx_ld rfl rfl rfl rfl ?_
      refine nx_int (x := 1) rfl rfl ?_
      refine nx_ii rfl rfl ?_
      refine nx_st (ls' := [some (eR (some (13, 0))), some (eI x1), some (eI (x1 + 1))]) rfl rfl rfl (Nat.le_of_ble_eq_true rfl) rfl ?_
      exact TB_X13_undo_26 hW    10000 _ _ _ H
    refine nx_int (x := (-2)) rfl rfl ?_
    exact nx_rit rfl rfl H
  refine nx_int (x := (-1)) rfl rfl ?_
  exact nx_rit rfl rfl H
def B_X13_squad_31 (t : TS) (v1 : Int32) (v2 : Int32) : Option (Int32 × TS) := (swi v2 0 [(some ((tI t 1350 0), t)), (some ((tI t 1351 0), t)), (some ((tI t 1352 0), t)), (Option.bind (F_X13_wagesOf t v1) (fun r22 => (some (r22, t)))), (Option.bind (F_X13_capOf t v1 ((tI t 1301 0) / 300)) (fun r23 => (some (r23, t)))), (Option.bind (F_X13_threeYears t v1 1) (fun r24 => (some (r24, t))))] (Option.bind (F_X13_threeYears t v1 0) (fun r21 => (some (r21, t)))))
theorem TB_X13_squad_31 {W : NW} {d : Nat} {Q : Option NV → TS → Prop} {a0 : Nat → Nat → Nat} {e0 : Nat → Nat → Bool} {bc bs : Nat} (hW : W.2.2.2 = mm_fx) : ∀ (t : TS) (v1 : Int32) (v2 : Int32), wp (B_X13_squad_31 t v1 v2) (fun r => Q (some (eI r.1)) r.2) → nX W (d + 6) tX13_squad Q a0 e0 31 [some (eR (some (13, 0))), some (eI v1), some (eI v2)] [] t bc bs := by
  intro t v1 v2 H
  unfold B_X13_squad_31 at H
  refine nx_ld rfl rfl rfl rfl ?_
  refine nx_tsw rfl rfl (by decide) (by decide) (by decide) H (fun H => ?_) ?_
  · show nX _ _ _ _ _ _ 114 _ _ _ _ _
    refine nx_ld rfl rfl rfl rfl ?_
    refine nx_ld rfl rfl rfl rfl ?_
    refine nx_int (x := 0) rfl rfl ?_
    refine nx_cVI (as := [eI v1, eI 0]) (st' := []) rfl rfl (Nat.le_of_ble_eq_true rfl) rfl rfl (Nat.le_of_ble_eq_true rfl) (c0 := 13) rfl (by decide) H (fun Q H => TF_X13_threeYears hW  H) (fun r21 H => ?_)
    exact nx_rit rfl rfl H
  refine ⟨fun H => ?_, fun H => ?_, fun H => ?_, fun H => ?_, fun H => ?_, fun H => ?_, trivial⟩
  · show nX _ _ _ _ _ _ 72 _ _ _ _ _
    refine nx_ld rfl rfl rfl rfl ?_
    refine nx_getI rfl rfl rfl (by decide) ?_
    exact nx_rit rfl rfl H
  · show nX _ _ _ _ _ _ 77 _ _ _ _ _
    refine nx_ld rfl rfl rfl rfl ?_
    refine nx_getI rfl rfl rfl (by decide) ?_
    exact nx_rit rfl rfl H
  · show nX _ _ _ _ _ _ 82 _ _ _ _ _
    refine nx_ld rfl rfl rfl rfl ?_
    refine nx_getI rfl rfl rfl (by decide) ?_
    exact nx_rit rfl rfl H
  · show nX _ _ _ _ _ _ 87 _ _ _ _ _
    refine nx_ld rfl rfl rfl rfl ?_
    refine nx_ld rfl rfl rfl rfl ?_
    refine nx_cVI (as := [eI v1]) (st' := []) rfl rfl (Nat.le_of_ble_eq_true rfl) rfl rfl (Nat.le_of_ble_eq_true rfl) (c0 := 13) rfl (by decide) H (fun Q H => TF_X13_wagesOf hW  H) (fun r22 H => ?_)
    exact nx_rit rfl rfl H
  · show nX _ _ _ _ _ _ 93 _ _ _ _ _
    refine nx_ld rfl rfl rfl rfl ?_
    refine nx_ld rfl rfl rfl rfl ?_
    refine nx_ld rfl rfl rfl rfl ?_
    refine nx_getI rfl rfl rfl (by decide) ?_
    refine nx_int (x := 300) rfl rfl ?_
    refine nx_idivL rfl rfl (by decide) ?_
    refine nx_cVI (as := [eI v1, eI ((tI t 1301 0) / 300)]) (st' := []) rfl rfl (Nat.le_of_ble_eq_true rfl) rfl rfl (Nat.le_of_ble_eq_true rfl) (c0 := 13) rfl (by decide) H (fun Q H => TF_X13_capOf hW  H) (fun r23 H => ?_)
    show nX _ _ _ _ _ _ 106 _ _ _ _ _
    exact nx_rit rfl rfl H
  · show nX _ _ _ _ _ _ 107 _ _ _ _ _
    refine nx_ld rfl rfl rfl rfl ?_
    refine nx_ld rfl rfl rfl rfl ?_
    refine nx_int (x := 1) rfl rfl ?_
    refine nx_cVI (as := [eI v1, eI 1]) (st' := []) rfl rfl (Nat.le_of_ble_eq_true rfl) rfl rfl (Nat.le_of_ble_eq_true rfl) (c0 := 13) rfl (by decide) H (fun Q H => TF_X13_threeYears hW  H) (fun r24 H => ?_)
    exact nx_rit rfl rfl H
def F_X13_squad (t : TS) (x1 : Int32) (x2 : Int32) : Option (Int32 × TS) := (Option.bind (F_X13_isClub t x1) (fun r21 => (if r21 = 0 then (some ((-1), t)) else (Option.bind (F_X13_in t x2 0 6) (fun r22 => (if ¬ r22 = 0 then (if 3 ≤ x2 then (B_X13_squad_31  t x1 x2) else (Option.bind (F_X13_findSquad t x1 (-1)) (fun r23 => (B_X13_squad_31  r23 x1 x2)))) else (some ((-1), t))))))))
theorem TF_X13_squad {W : NW} {d : Nat} {t : TS} {x1 : Int32} {x2 : Int32} {Q : Option NV → TS → Prop} {bc bs : Nat} (hW : W.2.2.2 = mm_fx) (H : wp (F_X13_squad t x1 x2) (fun r => Q (some (eI r.1)) r.2)) : nC W (d + 7) 211 [eR (some (13, 0)), eI x1, eI x2] t bc bs Q := by
  refine nC_in (d := (d + 6)) (T := tX13_squad) (ls := [some (eR (some (13, 0))), some (eI x1), some (eI x2)]) rfl (Nat.le_of_ble_eq_true rfl) rfl (fun a0 e0 => ?_)
  unfold F_X13_squad at H
  refine nx_ld rfl rfl rfl rfl ?_
  refine nx_ld rfl rfl rfl rfl ?_
  refine nx_cVI (as := [eI x1]) (st' := []) rfl rfl (Nat.le_of_ble_eq_true rfl) rfl rfl (Nat.le_of_ble_eq_true rfl) (c0 := 13) rfl (by decide) H (fun Q H => TF_X13_isClub hW  H) (fun r21 H => ?_)
  refine nx_if rfl rfl (by rfl) H (fun H => ?_) (fun H => ?_)
  · refine nx_int (x := (-1)) rfl rfl ?_
    exact nx_rit rfl rfl H
  refine nx_ld rfl rfl rfl rfl ?_
  refine nx_int (x := 0) rfl rfl ?_
  refine nx_int (x := 6) rfl rfl ?_
  refine nx_cSI (as := [eI x2, eI 0, eI 6]) (st' := []) rfl rfl (Nat.le_of_ble_eq_true rfl) rfl rfl (Nat.le_of_ble_eq_true rfl) H (fun Q H => TF_X13_in hW  H) (fun r22 H => ?_)
  refine nx_if rfl rfl (by rfl) H (fun H => ?_) (fun H => ?_)
  · refine nx_ld rfl rfl rfl rfl ?_
    refine nx_int (x := 3) rfl rfl ?_
    refine nx_icmp rfl rfl (by rfl) H (fun H => ?_) (fun H => ?_)
    · exact TB_X13_squad_31 hW    _ _ _ H
    refine nx_ld rfl rfl rfl rfl ?_
    refine nx_ld rfl rfl rfl rfl ?_
    refine nx_int (x := (-1)) rfl rfl ?_
    refine nx_cVVt (as := [eI x1, eI (-1)]) (st' := []) rfl rfl (Nat.le_of_ble_eq_true rfl) rfl rfl (Nat.le_of_ble_eq_true rfl) (c0 := 13) rfl (by decide) H (fun Q H => TF_X13_findSquad hW  H) (fun r23 H => ?_)
    exact TB_X13_squad_31 hW    _ _ _ H
  refine nx_int (x := (-1)) rfl rfl ?_
  exact nx_rit rfl rfl H
def BB_X13_feed_28 (k28 : TS → Int32 → Int32 → Int32 → Option (Int32 × TS)) (t : TS) (v1 : Int32) (v2 : Int32) (v3 : Int32) : Option (Int32 × TS) := (if v1 ≤ v3 then (some ((tI t 1354 0), t)) else (gd (tI t 1354 0) (tL t 3353 0) (nxt (uA t 3353 0 (tI t 1354 0).toNatClampNeg (vp_nar .byte ((v2 >>> ((8 * v3) &&& 31)).toInt8.toInt32))) (fun t21 => (nxt (uI t21 1354 0 ((tI t21 1354 0) + 1)) (fun t22 => (k28 t22 v1 v2 (v3 + 1))))))))
theorem TBB_X13_feed_28 {W : NW} {d : Nat} {Q : Option NV → TS → Prop} {a0 : Nat → Nat → Nat} {e0 : Nat → Nat → Bool} {k28 : TS → Int32 → Int32 → Int32 → Option (Int32 × TS)} {bc bs : Nat} (hW : W.2.2.2 = mm_fx) (hk28 : ∀ (t : TS) (v1 : Int32) (v2 : Int32) (v3 : Int32), wp (k28 t v1 v2 v3) (fun r => Q (some (eI r.1)) r.2) → nX W (d + 1) tX13_feed Q a0 e0 28 [some (eR (some (13, 0))), some (eI v1), some (eI v2), some (eI v3)] [] t bc bs) : ∀ (t : TS) (v1 : Int32) (v2 : Int32) (v3 : Int32), wp (BB_X13_feed_28 k28 t v1 v2 v3) (fun r => Q (some (eI r.1)) r.2) → nX W (d + 1) tX13_feed Q a0 e0 28 [some (eR (some (13, 0))), some (eI v1), some (eI v2), some (eI v3)] [] t bc bs := by
  intro t v1 v2 v3 H
  unfold BB_X13_feed_28 at H
  refine nx_ld rfl rfl rfl rfl ?_
  refine nx_ld rfl rfl rfl rfl ?_
  refine nx_icmp rfl rfl (by rfl) H (fun H => ?_) (fun H => ?_)
  · refine nx_ld rfl rfl rfl rfl ?_
    refine nx_getI rfl rfl rfl (by decide) ?_
    exact nx_rit rfl rfl H
  refine nx_ld rfl rfl rfl rfl ?_
  refine nx_getFix rfl rfl rfl (by decide) (by rw [hW]; rfl) rfl ?_
  refine nx_ld rfl rfl rfl rfl ?_
  refine nx_getI rfl rfl rfl (by decide) ?_
  refine nx_ld rfl rfl rfl rfl ?_
  refine nx_int (x := 8) rfl rfl ?_
  refine nx_ld rfl rfl rfl rfl ?_
  show nX _ _ _ _ _ _ 45 _ _ _ _ _
  refine nx_ii rfl rfl ?_
  refine nx_ii rfl rfl ?_
  refine nx_i1 rfl rfl ?_
  refine nx_bast (c := 3353) (i := 0) rfl rfl (Nat.le_of_ble_eq_true rfl) (Nat.le_of_ble_eq_true rfl) rfl H (fun t21 H => ?_)
  refine nx_ld rfl rfl rfl rfl ?_
  refine nx_dup rfl rfl (Nat.ne_of_beq_eq_false rfl) ?_
  refine nx_getI rfl rfl rfl (by decide) ?_
  refine nx_int (x := 1) rfl rfl ?_
  show nX _ _ _ _ _ _ 55 _ _ _ _ _
  refine nx_ii rfl rfl ?_
  refine nx_putI rfl rfl rfl (by decide) H (fun t22 H => ?_)
  refine nx_iinc2 1 (ls' := [some (eR (some (13, 0))), some (eI v1), some (eI v2), some (eI (v3 + 1))]) rfl rfl rfl rfl rfl ?_
  refine nx_goto rfl rfl ?_
  exact hk28 _ _ _ _ H
def B_X13_feed_28 : Nat → TS → Int32 → Int32 → Int32 → Option (Int32 × TS)
  | 0 => fun _ _ _ _ => none
  | n + 1 => fun t v1 v2 v3 => BB_X13_feed_28 (B_X13_feed_28 n) t v1 v2 v3
theorem TB_X13_feed_28 {W : NW} {d : Nat} {Q : Option NV → TS → Prop} {a0 : Nat → Nat → Nat} {e0 : Nat → Nat → Bool} {bc bs : Nat} (hW : W.2.2.2 = mm_fx) : ∀ (n : Nat) (t : TS) (v1 : Int32) (v2 : Int32) (v3 : Int32), wp (B_X13_feed_28 n t v1 v2 v3) (fun r => Q (some (eI r.1)) r.2) → nX W (d + 1) tX13_feed Q a0 e0 28 [some (eR (some (13, 0))), some (eI v1), some (eI v2), some (eI v3)] [] t bc bs := by
  intro n
  induction n with
  | zero => intro t v1 v2 v3 H; exact (wp_none H).elim
  | succ n ih =>
    intro t v1 v2 v3 H
    exact TBB_X13_feed_28 hW    ih t v1 v2 v3 H
def F_X13_feed (t : TS) (x1 : Int32) (x2 : Int32) : Option (Int32 × TS) := (Option.bind (F_X13_in t x1 1 4) (fun r21 => (if ¬ r21 = 0 then (if ((tI t 1354 0) + x1) ≤ 160 then (B_X13_feed_28  10000 t x1 x2 0) else (some ((-3), t))) else (some ((-1), t)))))
theorem TF_X13_feed {W : NW} {d : Nat} {t : TS} {x1 : Int32} {x2 : Int32} {Q : Option NV → TS → Prop} {bc bs : Nat} (hW : W.2.2.2 = mm_fx) (H : wp (F_X13_feed t x1 x2) (fun r => Q (some (eI r.1)) r.2)) : nC W (d + 2) 212 [eR (some (13, 0)), eI x1, eI x2] t bc bs Q := by
  refine nC_in (d := (d + 1)) (T := tX13_feed) (ls := [some (eR (some (13, 0))), some (eI x1), some (eI x2), none]) rfl (Nat.le_of_ble_eq_true rfl) rfl (fun a0 e0 => ?_)
  unfold F_X13_feed at H
  refine nx_ld rfl rfl rfl rfl ?_
  refine nx_int (x := 1) rfl rfl ?_
  refine nx_int (x := 4) rfl rfl ?_
  refine nx_cSI (as := [eI x1, eI 1, eI 4]) (st' := []) rfl rfl (Nat.le_of_ble_eq_true rfl) rfl rfl (Nat.le_of_ble_eq_true rfl) H (fun Q H => TF_X13_in hW  H) (fun r21 H => ?_)
  refine nx_if rfl rfl (by rfl) H (fun H => ?_) (fun H => ?_)
  · refine nx_ld rfl rfl rfl rfl ?_
    refine nx_getI rfl rfl rfl (by decide) ?_
    refine nx_ld rfl rfl rfl rfl ?_
    refine nx_ii rfl rfl ?_
    refine nx_int (x := 160) rfl rfl ?_
    refine nx_icmp rfl rfl (by rfl) H (fun H => ?_) (fun H => ?_)
    · refine nx_int (x := 0) rfl rfl ?_
      refine nx_st (ls' := [some (eR (some (13, 0))), some (eI x1), some (eI x2), some (eI 0)]) rfl rfl rfl (Nat.le_of_ble_eq_true rfl) rfl ?_
      exact TB_X13_feed_28 hW    10000 _ _ _ _ H
    refine nx_int (x := (-3)) rfl rfl ?_
    exact nx_rit rfl rfl H
  refine nx_int (x := (-1)) rfl rfl ?_
  exact nx_rit rfl rfl H
