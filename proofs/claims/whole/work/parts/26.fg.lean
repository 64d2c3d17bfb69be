/-! functions of methods over the typed heap, and that the runs follow them (by program: wip/whole/walk.py) -/
def B_X12_countStandingMoves_30 (k4 : TS → Int32 → Int32 → Option Int32) (t : TS) (v2 : Int32) (s0 : Int32) (s1 : Int32) : Option Int32 := (Option.bind (F_X12_bit t s0) (fun r21 => (k4 t (s1 + r21) (v2 + 1))))
theorem TB_X12_countStandingMoves_30 {W : NW} {d : Nat} {Q : Option NV → TS → Prop} {a0 : Nat → Nat → Nat} {e0 : Nat → Nat → Bool} {t : TS} {k4 : TS → Int32 → Int32 → Option Int32} {bc bs : Nat} (hW : W.2.2.2 = mm_fx) (hk4 : ∀ (v1 : Int32) (v2 : Int32), wp (k4 t v1 v2) (fun r => Q (some (eI r)) t) → nX W (d + 1) tX12_countStandingMoves Q a0 e0 4 [some (eR (some (12, 0))), some (eI v1), some (eI v2)] [] t bc bs) : ∀ (v1 : Int32) (v2 : Int32) (s0 : Int32) (s1 : Int32), wp (B_X12_countStandingMoves_30 k4 t v2 s0 s1) (fun r => Q (some (eI r)) t) → nX W (d + 1) tX12_countStandingMoves Q a0 e0 30 [some (eR (some (12, 0))), some (eI v1), some (eI v2)] [eI s0, eI s1] t bc bs := by
  intro v1 v2 s0 s1 H
  unfold B_X12_countStandingMoves_30 at H
  refine nx_cSI (as := [eI s0]) (st' := [eI s1]) rfl rfl (Nat.le_of_ble_eq_true rfl) rfl rfl (Nat.le_of_ble_eq_true rfl) H (fun Q H => TF_X12_bit hW  H) (fun r21 H => ?_)
  refine nx_ii rfl rfl ?_
  refine nx_st (ls' := [some (eR (some (12, 0))), some (eI (s1 + r21)), some (eI v2)]) rfl rfl rfl (Nat.le_of_ble_eq_true rfl) rfl ?_
  refine nx_iinc2 1 (ls' := [some (eR (some (12, 0))), some (eI (s1 + r21)), some (eI (v2 + 1))]) rfl rfl rfl rfl rfl ?_
  refine nx_goto rfl rfl ?_
  exact hk4 _ _ H
def BB_X12_countStandingMoves_4 (k4 : TS → Int32 → Int32 → Option Int32) (t : TS) (v1 : Int32) (v2 : Int32) : Option Int32 := (if (tI t 1207 0) ≤ v2 then (some (v1)) else (gd v2 (tL t 3206 0) (nxt (tQ t 3206 0 v2.toNatClampNeg) (fun o21 => (oc o21 none (fun j22 => (if ¬ (tI t 608 j22) = 0 then (B_X12_countStandingMoves_30 k4 t v2 0 v1) else (B_X12_countStandingMoves_30 k4 t v2 1 v1))))))))
theorem TBB_X12_countStandingMoves_4 {W : NW} {d : Nat} {Q : Option NV → TS → Prop} {a0 : Nat → Nat → Nat} {e0 : Nat → Nat → Bool} {t : TS} {k4 : TS → Int32 → Int32 → Option Int32} {bc bs : Nat} (hW : W.2.2.2 = mm_fx) (hk4 : ∀ (v1 : Int32) (v2 : Int32), wp (k4 t v1 v2) (fun r => Q (some (eI r)) t) → nX W (d + 1) tX12_countStandingMoves Q a0 e0 4 [some (eR (some (12, 0))), some (eI v1), some (eI v2)] [] t bc bs) : ∀ (v1 : Int32) (v2 : Int32), wp (BB_X12_countStandingMoves_4 k4 t v1 v2) (fun r => Q (some (eI r)) t) → nX W (d + 1) tX12_countStandingMoves Q a0 e0 4 [some (eR (some (12, 0))), some (eI v1), some (eI v2)] [] t bc bs := by
  intro v1 v2 H
  unfold BB_X12_countStandingMoves_4 at H
  refine nx_ld rfl rfl rfl rfl ?_
  refine nx_ld rfl rfl rfl rfl ?_
  refine nx_getI rfl rfl rfl (by decide) ?_
  refine nx_icmp rfl rfl (by rfl) H (fun H => ?_) (fun H => ?_)
  · refine nx_ld rfl rfl rfl rfl ?_
    exact nx_ri rfl rfl H
  refine nx_ld rfl rfl rfl rfl ?_
  refine nx_ld rfl rfl rfl rfl ?_
  refine nx_getFix rfl rfl rfl (by decide) (by rw [hW]; rfl) rfl ?_
  refine nx_ld rfl rfl rfl rfl ?_
  refine nx_aald (c := 3206) (i := 0) rfl rfl (Nat.le_of_ble_eq_true rfl) (Nat.le_of_ble_eq_true rfl) (Nat.le_of_ble_eq_true rfl) rfl H (fun o21 H => ?_)
  rcases o21 with _ | j22
  · exact (wp_none (oc_no H)).elim
  replace H := oc_so H
  refine nx_getI rfl rfl rfl (by decide) ?_
  refine nx_if rfl rfl (by rfl) H (fun H => ?_) (fun H => ?_)
  · refine nx_int (x := 0) rfl rfl ?_
    exact TB_X12_countStandingMoves_30 hW   hk4 _ _ _ _ H
  refine nx_int (x := 1) rfl rfl ?_
  refine nx_goto rfl rfl ?_
  exact TB_X12_countStandingMoves_30 hW   hk4 _ _ _ _ H
def B_X12_countStandingMoves_4 : Nat → TS → Int32 → Int32 → Option Int32
  | 0 => fun _ _ _ => none
  | n + 1 => fun t v1 v2 => BB_X12_countStandingMoves_4 (B_X12_countStandingMoves_4 n) t v1 v2
theorem TB_X12_countStandingMoves_4 {W : NW} {d : Nat} {Q : Option NV → TS → Prop} {a0 : Nat → Nat → Nat} {e0 : Nat → Nat → Bool} {t : TS} {bc bs : Nat} (hW : W.2.2.2 = mm_fx) : ∀ (n : Nat) (v1 : Int32) (v2 : Int32), wp (B_X12_countStandingMoves_4 n t v1 v2) (fun r => Q (some (eI r)) t) → nX W (d + 1) tX12_countStandingMoves Q a0 e0 4 [some (eR (some (12, 0))), some (eI v1), some (eI v2)] [] t bc bs := by
  intro n
  induction n with
  | zero => intro v1 v2 H; exact (wp_none H).elim
  | succ n ih =>
    intro v1 v2 H
    exact TBB_X12_countStandingMoves_4 hW    ih v1 v2 H
def F_X12_countStandingMoves (t : TS) : Option Int32 := (B_X12_countStandingMoves_4  10000 t 0 0)
theorem TF_X12_countStandingMoves {W : NW} {d : Nat} {t : TS} {Q : Option NV → TS → Prop} {bc bs : Nat} (hW : W.2.2.2 = mm_fx) (H : wp (F_X12_countStandingMoves t) (fun r => Q (some (eI r)) t)) : nC W (d + 2) 125 [eR (some (12, 0))] t bc bs Q := by
  refine nC_in (d := (d + 1)) (T := tX12_countStandingMoves) (ls := [some (eR (some (12, 0))), none, none]) rfl (Nat.le_of_ble_eq_true rfl) rfl (fun a0 e0 => ?_)
  unfold F_X12_countStandingMoves at H
  refine nx_int (x := 0) rfl rfl ?_
  refine nx_st (ls' := [some (eR (some (12, 0))), some (eI 0), none]) rfl rfl rfl (Nat.le_of_ble_eq_true rfl) rfl ?_
  refine nx_int (x := 0) rfl rfl ?_
  refine nx_st (ls' := [some (eR (some (12, 0))), some (eI 0), some (eI 0)]) rfl rfl rfl (Nat.le_of_ble_eq_true rfl) rfl ?_
  exact TB_X12_countStandingMoves_4 hW    10000 _ _ H
def F_X12_count (t : TS) (x1 : Int32) : Option Int32 := (swi x1 0 [(some ((tI t 1204 0))), (Option.bind (F_X12_countClubs t) (fun r21 => (some (r21)))), (Option.bind (F_X12_countPlayers t 0) (fun r22 => (some (r22)))), (some ((tI t 1205 0))), (Option.bind (F_X12_countStandingMoves t) (fun r23 => (some (r23)))), (some ((tI t 1212 0))), (some ((tI t 1200 0))), (some ((tI t 1201 0))), (some ((tI t 701 0))), (Option.bind (F_X12_countPlayers t 1) (fun r24 => (some (r24)))), (some ((tI t 1 0)))] (some ((-1))))
theorem TF_X12_count {W : NW} {d : Nat} {t : TS} {x1 : Int32} {Q : Option NV → TS → Prop} {bc bs : Nat} (hW : W.2.2.2 = mm_fx) (H : wp (F_X12_count t x1) (fun r => Q (some (eI r)) t)) : nC W (d + 3) 112 [eR (some (12, 0)), eI x1] t bc bs Q := by
  refine nC_in (d := (d + 2)) (T := tX12_count) (ls := [some (eR (some (12, 0))), some (eI x1)]) rfl (Nat.le_of_ble_eq_true rfl) rfl (fun a0 e0 => ?_)
  unfold F_X12_count at H
  refine nx_ld rfl rfl rfl rfl ?_
  refine nx_tsw rfl rfl (by decide) (by decide) (by decide) H (fun H => ?_) ?_
  · show nX _ _ _ _ _ _ 123 _ _ _ _ _
    refine nx_int (x := (-1)) rfl rfl ?_
    exact nx_ri rfl rfl H
  refine ⟨fun H => ?_, fun H => ?_, fun H => ?_, fun H => ?_, fun H => ?_, fun H => ?_, fun H => ?_, fun H => ?_, fun H => ?_, fun H => ?_, fun H => ?_, trivial⟩
  · show nX _ _ _ _ _ _ 60 _ _ _ _ _
    refine nx_ld rfl rfl rfl rfl ?_
    refine nx_getI rfl rfl rfl (by decide) ?_
    exact nx_ri rfl rfl H
  · show nX _ _ _ _ _ _ 65 _ _ _ _ _
    refine nx_ld rfl rfl rfl rfl ?_
    refine nx_cVI (as := []) (st' := []) rfl rfl (Nat.le_of_ble_eq_true rfl) rfl rfl (Nat.le_of_ble_eq_true rfl) (c0 := 12) rfl (by decide) H (fun Q H => TF_X12_countClubs hW  H) (fun r21 H => ?_)
    exact nx_ri rfl rfl H
  · show nX _ _ _ _ _ _ 70 _ _ _ _ _
    refine nx_ld rfl rfl rfl rfl ?_
    refine nx_int (x := 0) rfl rfl ?_
    refine nx_cVI (as := [eI 0]) (st' := []) rfl rfl (Nat.le_of_ble_eq_true rfl) rfl rfl (Nat.le_of_ble_eq_true rfl) (c0 := 12) rfl (by decide) H (fun Q H => TF_X12_countPlayers hW  H) (fun r22 H => ?_)
    exact nx_ri rfl rfl H
  · show nX _ _ _ _ _ _ 76 _ _ _ _ _
    refine nx_ld rfl rfl rfl rfl ?_
    refine nx_getI rfl rfl rfl (by decide) ?_
    exact nx_ri rfl rfl H
  · show nX _ _ _ _ _ _ 81 _ _ _ _ _
    refine nx_ld rfl rfl rfl rfl ?_
    refine nx_cVI (as := []) (st' := []) rfl rfl (Nat.le_of_ble_eq_true rfl) rfl rfl (Nat.le_of_ble_eq_true rfl) (c0 := 12) rfl (by decide) H (fun Q H => TF_X12_countStandingMoves hW  H) (fun r23 H => ?_)
    exact nx_ri rfl rfl H
  · show nX _ _ _ _ _ _ 86 _ _ _ _ _
    refine nx_ld rfl rfl rfl rfl ?_
    refine nx_getI rfl rfl rfl (by decide) ?_
    exact nx_ri rfl rfl H
  · show nX _ _ _ _ _ _ 91 _ _ _ _ _
    refine nx_ld rfl rfl rfl rfl ?_
    refine nx_getI rfl rfl rfl (by decide) ?_
    exact nx_ri rfl rfl H
  · show nX _ _ _ _ _ _ 96 _ _ _ _ _
    refine nx_ld rfl rfl rfl rfl ?_
    refine nx_getI rfl rfl rfl (by decide) ?_
    exact nx_ri rfl rfl H
  · show nX _ _ _ _ _ _ 101 _ _ _ _ _
    refine nx_ld rfl rfl rfl rfl ?_
    refine nx_getFix rfl rfl rfl (by decide) (by rw [hW]; rfl) rfl ?_
    refine nx_getI rfl rfl rfl (by decide) ?_
    exact nx_ri rfl rfl H
  · show nX _ _ _ _ _ _ 109 _ _ _ _ _
    refine nx_ld rfl rfl rfl rfl ?_
    refine nx_int (x := 1) rfl rfl ?_
    refine nx_cVI (as := [eI 1]) (st' := []) rfl rfl (Nat.le_of_ble_eq_true rfl) rfl rfl (Nat.le_of_ble_eq_true rfl) (c0 := 12) rfl (by decide) H (fun Q H => TF_X12_countPlayers hW  H) (fun r24 H => ?_)
    exact nx_ri rfl rfl H
  · show nX _ _ _ _ _ _ 115 _ _ _ _ _
    refine nx_ld rfl rfl rfl rfl ?_
    refine nx_getFix rfl rfl rfl (by decide) (by rw [hW]; rfl) rfl ?_
    refine nx_getI rfl rfl rfl (by decide) ?_
    exact nx_ri rfl rfl H
def F_X13_init (t : TS) : Option TS := (gE (tE t 3303 0) (nxt (uN t 3303 0 4) (fun t21 => (nxt (uR t21 1303 0 (some 0)) (fun t22 => (gE (tE t22 3304 0) (nxt (uN t22 3304 0 24) (fun t23 => (nxt (uR t23 1304 0 (some 0)) (fun t24 => (gE (tE t24 3305 0) (nxt (uN t24 3305 0 24) (fun t25 => (nxt (uR t25 1305 0 (some 0)) (fun t26 => (gE (tE t26 3306 0) (nxt (uN t26 3306 0 4) (fun t27 => (gd (0 : Int32) (tL t27 3306 0) (nxt (uA t27 3306 0 (0 : Int32).toNatClampNeg 1439) (fun t28 => (gd (1 : Int32) (tL t28 3306 0) (nxt (uA t28 3306 0 (1 : Int32).toNatClampNeg 1439) (fun t29 => (gd (2 : Int32) (tL t29 3306 0) (nxt (uA t29 3306 0 (2 : Int32).toNatClampNeg 1439) (fun t30 => (gd (3 : Int32) (tL t30 3306 0) (nxt (uA t30 3306 0 (3 : Int32).toNatClampNeg 1439) (fun t31 => (nxt (uR t31 1306 0 (some 0)) (fun t32 => (gE (tE t32 3308 0) (nxt (uN t32 3308 0 150) (fun t33 => (nxt (uR t33 1308 0 (some 0)) (fun t34 => (gE (tE t34 3309 0) (nxt (uN t34 3309 0 150) (fun t35 => (nxt (uR t35 1309 0 (some 0)) (fun t36 => (gE (tE t36 3310 0) (nxt (uN t36 3310 0 150) (fun t37 => (nxt (uR t37 1310 0 (some 0)) (fun t38 => (gE (tE t38 3311 0) (nxt (uN t38 3311 0 1500) (fun t39 => (nxt (uR t39 1311 0 (some 0)) (fun t40 => (gE (tE t40 3312 0) (nxt (uN t40 3312 0 150) (fun t41 => (nxt (uR t41 1312 0 (some 0)) (fun t42 => (gE (tE t42 3313 0) (nxt (uN t42 3313 0 150) (fun t43 => (nxt (uR t43 1313 0 (some 0)) (fun t44 => (gE (tE t44 3314 0) (nxt (uN t44 3314 0 150) (fun t45 => (nxt (uR t45 1314 0 (some 0)) (fun t46 => (gE (tE t46 3315 0) (nxt (uN t46 3315 0 150) (fun t47 => (nxt (uR t47 1315 0 (some 0)) (fun t48 => (gE (tE t48 3317 0) (nxt (uN t48 3317 0 600) (fun t49 => (nxt (uR t49 1317 0 (some 0)) (fun t50 => (gE (tE t50 3318 0) (nxt (uN t50 3318 0 600) (fun t51 => (nxt (uR t51 1318 0 (some 0)) (fun t52 => (gE (tE t52 3319 0) (nxt (uN t52 3319 0 600) (fun t53 => (nxt (uR t53 1319 0 (some 0)) (fun t54 => (gE (tE t54 3320 0) (nxt (uN t54 3320 0 600) (fun t55 => (nxt (uR t55 1320 0 (some 0)) (fun t56 => (gE (tE t56 3321 0) (nxt (uN t56 3321 0 600) (fun t57 => (nxt (uR t57 1321 0 (some 0)) (fun t58 => (gE (tE t58 3322 0) (nxt (uN t58 3322 0 600) (fun t59 => (nxt (uR t59 1322 0 (some 0)) (fun t60 => (gE (tE t60 3323 0) (nxt (uN t60 3323 0 600) (fun t61 => (nxt (uR t61 1323 0 (some 0)) (fun t62 => (gE (tE t62 3324 0) (nxt (uN t62 3324 0 600) (fun t63 => (nxt (uR t63 1324 0 (some 0)) (fun t64 => (gE (tE t64 3325 0) (nxt (uN t64 3325 0 150) (fun t65 => (nxt (uR t65 1325 0 (some 0)) (fun t66 => (gE (tE t66 3326 0) (nxt (uN t66 3326 0 600) (fun t67 => (nxt (uR t67 1326 0 (some 0)) (fun t68 => (gE (tE t68 3328 0) (nxt (uN t68 3328 0 200) (fun t69 => (nxt (uR t69 1328 0 (some 0)) (fun t70 => (gE (tE t70 3329 0) (nxt (uN t70 3329 0 200) (fun t71 => (nxt (uR t71 1329 0 (some 0)) (fun t72 => (gE (tE t72 3330 0) (nxt (uN t72 3330 0 200) (fun t73 => (nxt (uR t73 1330 0 (some 0)) (fun t74 => (gE (tE t74 3331 0) (nxt (uN t74 3331 0 200) (fun t75 => (nxt (uR t75 1331 0 (some 0)) (fun t76 => (gE (tE t76 3332 0) (nxt (uN t76 3332 0 200) (fun t77 => (nxt (uR t77 1332 0 (some 0)) (fun t78 => (gE (tE t78 3333 0) (nxt (uN t78 3333 0 200) (fun t79 => (nxt (uR t79 1333 0 (some 0)) (fun t80 => (gE (tE t80 3334 0) (nxt (uN t80 3334 0 200) (fun t81 => (nxt (uR t81 1334 0 (some 0)) (fun t82 => (gE (tE t82 3335 0) (nxt (uN t82 3335 0 200) (fun t83 => (nxt (uR t83 1335 0 (some 0)) (fun t84 => (gE (tE t84 3336 0) (nxt (uN t84 3336 0 200) (fun t85 => (nxt (uR t85 1336 0 (some 0)) (fun t86 => (gE (tE t86 3337 0) (nxt (uN t86 3337 0 200) (fun t87 => (nxt (uR t87 1337 0 (some 0)) (fun t88 => (gE (tE t88 3338 0) (nxt (uN t88 3338 0 200) (fun t89 => (nxt (uR t89 1338 0 (some 0)) (fun t90 => (gE (tE t90 3339 0) (nxt (uN t90 3339 0 200) (fun t91 => (nxt (uR t91 1339 0 (some 0)) (fun t92 => (gE (tE t92 3340 0) (nxt (uN t92 3340 0 200) (fun t93 => (nxt (uR t93 1340 0 (some 0)) (fun t94 => (gE (tE t94 3341 0) (nxt (uN t94 3341 0 200) (fun t95 => (nxt (uR t95 1341 0 (some 0)) (fun t96 => (gE (tE t96 3342 0) (nxt (uN t96 3342 0 200) (fun t97 => (nxt (uR t97 1342 0 (some 0)) (fun t98 => (gE (tE t98 3343 0) (nxt (uN t98 3343 0 200) (fun t99 => (nxt (uR t99 1343 0 (some 0)) (fun t100 => (gE (tE t100 3344 0) (nxt (uN t100 3344 0 200) (fun t101 => (nxt (uR t101 1344 0 (some 0)) (fun t102 => (gE (tE t102 3345 0) (nxt (uN t102 3345 0 200) (fun t103 => (nxt (uR t103 1345 0 (some 0)) (fun t104 => (gE (tE t104 3346 0) (nxt (uN t104 3346 0 200) (fun t105 => (nxt (uR t105 1346 0 (some 0)) (fun t106 => (gE (tE t106 3347 0) (nxt (uN t106 3347 0 30000) (fun t107 => (nxt (uR t107 1347 0 (some 0)) (fun t108 => (gE (tE t108 3348 0) (nxt (uN t108 3348 0 22500) (fun t109 => (nxt (uR t109 1348 0 (some 0)) (fun t110 => (gE (tE t110 3349 0) (nxt (uN t110 3349 0 9) (fun t111 => (gd (0 : Int32) (tL t111 3349 0) (nxt (uA t111 3349 0 (0 : Int32).toNatClampNeg 0) (fun t112 => (gd (1 : Int32) (tL t112 3349 0) (nxt (uA t112 3349 0 (1 : Int32).toNatClampNeg 0) (fun t113 => (gd (2 : Int32) (tL t113 3349 0) (nxt (uA t113 3349 0 (2 : Int32).toNatClampNeg 0) (fun t114 => (gd (3 : Int32) (tL t114 3349 0) (nxt (uA t114 3349 0 (3 : Int32).toNatClampNeg 1) (fun t115 => (gd (4 : Int32) (tL t115 3349 0) (nxt (uA t115 3349 0 (4 : Int32).toNatClampNeg 0) (fun t116 => (gd (5 : Int32) (tL t116 3349 0) (nxt (uA t116 3349 0 (5 : Int32).toNatClampNeg 0) (fun t117 => (gd (6 : Int32) (tL t117 3349 0) (nxt (uA t117 3349 0 (6 : Int32).toNatClampNeg 1) (fun t118 => (gd (7 : Int32) (tL t118 3349 0) (nxt (uA t118 3349 0 (7 : Int32).toNatClampNeg 0) (fun t119 => (gd (8 : Int32) (tL t119 3349 0) (nxt (uA t119 3349 0 (8 : Int32).toNatClampNeg 0) (fun t120 => (nxt (uR t120 1349 0 (some 0)) (fun t121 => (gE (tE t121 3353 0) (nxt (uN t121 3353 0 160) (fun t122 => (nxt (uR t122 1353 0 (some 0)) (fun t123 => (gE (tE t123 3356 0) (nxt (uN t123 3356 0 16) (fun t124 => (nxt (uR t124 1356 0 (some 0)) (fun t125 => (gE (tE t125 3357 0) (nxt (uN t125 3357 0 16) (fun t126 => (nxt (uR t126 1357 0 (some 0)) (fun t127 => (gE (tE t127 3358 0) (nxt (uN t127 3358 0 16) (fun t128 => (nxt (uR t128 1358 0 (some 0)) (fun t129 => (gE (tE t129 3359 0) (nxt (uN t129 3359 0 17) (fun t130 => (nxt (uR t130 1359 0 (some 0)) (fun t131 => (gE (tE t131 3360 0) (nxt (uN t131 3360 0 1530) (fun t132 => (nxt (uR t132 1360 0 (some 0)) (fun t133 => (gE (tE t133 3361 0) (nxt (uN t133 3361 0 3400) (fun t134 => (nxt (uR t134 1361 0 (some 0)) (fun t135 => (gE (tE t135 3362 0) (nxt (uN t135 3362 0 3400) (fun t136 => (nxt (uR t136 1362 0 (some 0)) (fun t137 => (gE (tE t137 3368 0) (nxt (uN t137 3368 0 12) (fun t138 => (nxt (uR t138 1368 0 (some 0)) (fun t139 => (gE (tE t139 3369 0) (nxt (uN t139 3369 0 200) (fun t140 => (nxt (uR t140 1369 0 (some 0)) (fun t141 => (gE (tE t141 3371 0) (nxt (uN t141 3371 0 6) (fun t142 => (nxt (uR t142 1371 0 (some 0)) (fun t143 => (gE (tE t143 3372 0) (nxt (uN t143 3372 0 6) (fun t144 => (nxt (uR t144 1372 0 (some 0)) (fun t145 => (gE (tE t145 3373 0) (nxt (uN t145 3373 0 6) (fun t146 => (nxt (uR t146 1373 0 (some 0)) (fun t147 => (gE (tE t147 3374 0) (nxt (uN t147 3374 0 6) (fun t148 => (nxt (uR t148 1374 0 (some 0)) (fun t149 => (gE (tE t149 3376 0) (nxt (uN t149 3376 0 8) (fun t150 => (nxt (uR t150 1376 0 (some 0)) (fun t151 => (gE (tE t151 3377 0) (nxt (uN t151 3377 0 8) (fun t152 => (nxt (uR t152 1377 0 (some 0)) (fun t153 => (gE (tE t153 3378 0) (nxt (uN t153 3378 0 8) (fun t154 => (nxt (uR t154 1378 0 (some 0)) (fun t155 => (nxt (uI t155 1379 0 (-1)) (fun t156 => (gE (tE t156 3382 0) (nxt (uN t156 3382 0 10) (fun t157 => (nxt (uR t157 1382 0 (some 0)) (fun t158 => (gE (tE t158 3383 0) (nxt (uN t158 3383 0 10) (fun t159 => (nxt (uR t159 1383 0 (some 0)) (fun t160 => (gE (tE t160 3384 0) (nxt (uN t160 3384 0 10) (fun t161 => (nxt (uR t161 1384 0 (some 0)) (fun t162 => (gE (tE t162 3385 0) (nxt (uN t162 3385 0 10) (fun t163 => (nxt (uR t163 1385 0 (some 0)) (fun t164 => (gE (tE t164 3387 0) (nxt (uN t164 3387 0 12) (fun t165 => (nxt (uR t165 1387 0 (some 0)) (fun t166 => (gE (tE t166 3388 0) (nxt (uN t166 3388 0 12) (fun t167 => (nxt (uR t167 1388 0 (some 0)) (fun t168 => (gE (tE t168 3389 0) (nxt (uN t168 3389 0 12) (fun t169 => (nxt (uR t169 1389 0 (some 0)) (fun t170 => (nxt (uI t170 1390 0 (-1)) (fun t171 => (gE (tE t171 3392 0) (nxt (uN t171 3392 0 24) (fun t172 => (nxt (uR t172 1392 0 (some 0)) (fun t173 => (gE (tE t173 3393 0) (nxt (uN t173 3393 0 6) (fun t174 => (gd (0 : Int32) (tL t174 3393 0) (nxt (uA t174 3393 0 (0 : Int32).toNatClampNeg (-1)) (fun t175 => (gd (1 : Int32) (tL t175 3393 0) (nxt (uA t175 3393 0 (1 : Int32).toNatClampNeg (-1)) (fun t176 => (gd (2 : Int32) (tL t176 3393 0) (nxt (uA t176 3393 0 (2 : Int32).toNatClampNeg (-1)) (fun t177 => (gd (3 : Int32) (tL t177 3393 0) (nxt (uA t177 3393 0 (3 : Int32).toNatClampNeg (-1)) (fun t178 => (gd (4 : Int32) (tL t178 3393 0) (nxt (uA t178 3393 0 (4 : Int32).toNatClampNeg (-1)) (fun t179 => (gd (5 : Int32) (tL t179 3393 0) (nxt (uA t179 3393 0 (5 : Int32).toNatClampNeg (-1)) (fun t180 => (nxt (uR t180 1393 0 (some 0)) (fun t181 => (gE (tE t181 3394 0) (nxt (uN t181 3394 0 6) (fun t182 => (nxt (uR t182 1394 0 (some 0)) (fun t183 => (gE (tE t183 3395 0) (nxt (uN t183 3395 0 360) (fun t184 => (nxt (uR t184 1395 0 (some 0)) (fun t185 => (gE (tE t185 3396 0) (nxt (uN t185 3396 0 60) (fun t186 => (nxt (uR t186 1396 0 (some 0)) (fun t187 => (some t187)))))))))))))))))))))))))))))))))))))))))))))))))))))))))))))))))))))))))))))))))))))))))))))))))))))))))))))))))))))))))))))))))))))))))))))))))))))))))))))))))))))))))))))))))))))))))))))))))))))))))))))))))))))))))))))))))))))))))))))))))))))))))))))))))))))))))))))))))))))))))))))))))))))))))))))))))))))))))))))))))))))))))))))))))))))))))))))))))))))))))))))))))))))))))))))))))))))))))))))))))))))))))))))))))))))))))))
theorem TF_X13_init {W : NW} {d : Nat} {t : TS} {Q : Option NV → TS → Prop} {bc bs : Nat} (hW : W.2.2.2 = (fun _ => false)) (H : wp (F_X13_init t) (fun r => Q none r)) : nC W (d + 1) 154 [eR (some (13, 0))] t (bc + 73) (bs + 73812) Q := by
  refine nC_in (d := d) (T := tX13_init) (ls := [some (eR (some (13, 0)))]) rfl (Nat.le_of_ble_eq_true rfl) rfl (fun a0 e0 => ?_)
  unfold F_X13_init at H
  refine nx_ld rfl rfl rfl rfl ?_
  refine nx_objI rfl rfl (Nat.le_of_ble_eq_true rfl) ?_
  refine nx_ld rfl rfl rfl rfl ?_
  refine nx_int (x := 4) rfl rfl ?_
  refine nx_newaL 3303 0 4 rfl rfl (Nat.le_of_ble_eq_true rfl) (Nat.le_of_ble_eq_true rfl) rfl rfl (by decide) (Nat.le_of_ble_eq_true rfl) (by omega) (by omega) H (fun t21 H => ?_)
  refine nx_eq (bc' := bc + 72) (bs' := bs + 73808) (by omega) (by omega) ?_
  refine nx_putR (f := 1303) (o := (some 0)) rfl rfl rfl (by decide) (by rw [hW]) rfl (by decide) H (fun t22 H => ?_)
  refine nx_ld rfl rfl rfl rfl ?_
  show nX _ _ _ _ _ _ 12 _ _ _ _ _
  refine nx_int (x := 24) rfl rfl ?_
  refine nx_newaL 3304 0 24 rfl rfl (Nat.le_of_ble_eq_true rfl) (Nat.le_of_ble_eq_true rfl) rfl rfl (by decide) (Nat.le_of_ble_eq_true rfl) (by omega) (by omega) H (fun t23 H => ?_)
  refine nx_eq (bc' := bc + 71) (bs' := bs + 73784) (by omega) (by omega) ?_
  refine nx_putR (f := 1304) (o := (some 0)) rfl rfl rfl (by decide) (by rw [hW]) rfl (by decide) H (fun t24 H => ?_)
  refine nx_ld rfl rfl rfl rfl ?_
  refine nx_int (x := 24) rfl rfl ?_
  refine nx_newaL 3305 0 24 rfl rfl (Nat.le_of_ble_eq_true rfl) (Nat.le_of_ble_eq_true rfl) rfl rfl (by decide) (Nat.le_of_ble_eq_true rfl) (by omega) (by omega) H (fun t25 H => ?_)
  refine nx_eq (bc' := bc + 70) (bs' := bs + 73760) (by omega) (by omega) ?_
  refine nx_putR (f := 1305) (o := (some 0)) rfl rfl rfl (by decide) (by rw [hW]) rfl (by decide) H (fun t26 H => ?_)
  refine nx_ld rfl rfl rfl rfl ?_
  show nX _ _ _ _ _ _ 28 _ _ _ _ _
  refine nx_int (x := 4) rfl rfl ?_
  refine nx_newaL 3306 0 4 rfl rfl (Nat.le_of_ble_eq_true rfl) (Nat.le_of_ble_eq_true rfl) rfl rfl (by decide) (Nat.le_of_ble_eq_true rfl) (by omega) (by omega) H (fun t27 H => ?_)
  refine nx_eq (bc' := bc + 69) (bs' := bs + 73756) (by omega) (by omega) ?_
  refine nx_dup rfl rfl (Nat.ne_of_beq_eq_false rfl) ?_
  refine nx_int (x := 0) rfl rfl ?_
  refine nx_int (x := 1439) rfl rfl ?_
  refine nx_iast (p := (3306, 0)) rfl rfl (Nat.le_of_ble_eq_true rfl) (Nat.le_of_ble_eq_true rfl) rfl H (fun t28 H => ?_)
  refine nx_dup rfl rfl (Nat.ne_of_beq_eq_false rfl) ?_
  refine nx_int (x := 1) rfl rfl ?_
  show nX _ _ _ _ _ _ 39 _ _ _ _ _
  refine nx_int (x := 1439) rfl rfl ?_
  refine nx_iast (p := (3306, 0)) rfl rfl (Nat.le_of_ble_eq_true rfl) (Nat.le_of_ble_eq_true rfl) rfl H (fun t29 H => ?_)
  refine nx_dup rfl rfl (Nat.ne_of_beq_eq_false rfl) ?_
  refine nx_int (x := 2) rfl rfl ?_
  refine nx_int (x := 1439) rfl rfl ?_
  refine nx_iast (p := (3306, 0)) rfl rfl (Nat.le_of_ble_eq_true rfl) (Nat.le_of_ble_eq_true rfl) rfl H (fun t30 H => ?_)
  refine nx_dup rfl rfl (Nat.ne_of_beq_eq_false rfl) ?_
  refine nx_int (x := 3) rfl rfl ?_
  show nX _ _ _ _ _ _ 51 _ _ _ _ _
  refine nx_int (x := 1439) rfl rfl ?_
  refine nx_iast (p := (3306, 0)) rfl rfl (Nat.le_of_ble_eq_true rfl) (Nat.le_of_ble_eq_true rfl) rfl H (fun t31 H => ?_)
  refine nx_putR (f := 1306) (o := (some 0)) rfl rfl rfl (by decide) (by rw [hW]) rfl (by decide) H (fun t32 H => ?_)
  refine nx_ld rfl rfl rfl rfl ?_
  refine nx_int (x := 150) rfl rfl ?_
  refine nx_newaL 3308 0 150 rfl rfl (Nat.le_of_ble_eq_true rfl) (Nat.le_of_ble_eq_true rfl) rfl rfl (by decide) (Nat.le_of_ble_eq_true rfl) (by omega) (by omega) H (fun t33 H => ?_)
  refine nx_eq (bc' := bc + 68) (bs' := bs + 73606) (by omega) (by omega) ?_
  refine nx_putR (f := 1308) (o := (some 0)) rfl rfl rfl (by decide) (by rw [hW]) rfl (by decide) H (fun t34 H => ?_)
  refine nx_ld rfl rfl rfl rfl ?_
  show nX _ _ _ _ _ _ 68 _ _ _ _ _
  refine nx_int (x := 150) rfl rfl ?_
  refine nx_newaL 3309 0 150 rfl rfl (Nat.le_of_ble_eq_true rfl) (Nat.le_of_ble_eq_true rfl) rfl rfl (by decide) (Nat.le_of_ble_eq_true rfl) (by omega) (by omega) H (fun t35 H => ?_)
  refine nx_eq (bc' := bc + 67) (bs' := bs + 73456) (by omega) (by omega) ?_
  refine nx_putR (f := 1309) (o := (some 0)) rfl rfl rfl (by decide) (by rw [hW]) rfl (by decide) H (fun t36 H => ?_)
  refine nx_ld rfl rfl rfl rfl ?_
  refine nx_int (x := 150) rfl rfl ?_
  refine nx_newaL 3310 0 150 rfl rfl (Nat.le_of_ble_eq_true rfl) (Nat.le_of_ble_eq_true rfl) rfl rfl (by decide) (Nat.le_of_ble_eq_true rfl) (by omega) (by omega) H (fun t37 H => ?_)
  refine nx_eq (bc' := bc + 66) (bs' := bs + 73306) (by omega) (by omega) ?_
  refine nx_putR (f := 1310) (o := (some 0)) rfl rfl rfl (by decide) (by rw [hW]) rfl (by decide) H (fun t38 H => ?_)
  refine nx_ld rfl rfl rfl rfl ?_
  show nX _ _ _ _ _ _ 86 _ _ _ _ _
  refine nx_int (x := 1500) rfl rfl ?_
  refine nx_newaL 3311 0 1500 rfl rfl (Nat.le_of_ble_eq_true rfl) (Nat.le_of_ble_eq_true rfl) rfl rfl (by decide) (Nat.le_of_ble_eq_true rfl) (by omega) (by omega) H (fun t39 H => ?_)
  refine nx_eq (bc' := bc + 65) (bs' := bs + 71806) (by omega) (by omega) ?_
  refine nx_putR (f := 1311) (o := (some 0)) rfl rfl rfl (by decide) (by rw [hW]) rfl (by decide) H (fun t40 H => ?_)
  refine nx_ld rfl rfl rfl rfl ?_
  refine nx_int (x := 150) rfl rfl ?_
  refine nx_newaL 3312 0 150 rfl rfl (Nat.le_of_ble_eq_true rfl) (Nat.le_of_ble_eq_true rfl) rfl rfl (by decide) (Nat.le_of_ble_eq_true rfl) (by omega) (by omega) H (fun t41 H => ?_)
  refine nx_eq (bc' := bc + 64) (bs' := bs + 71656) (by omega) (by omega) ?_
  refine nx_putR (f := 1312) (o := (some 0)) rfl rfl rfl (by decide) (by rw [hW]) rfl (by decide) H (fun t42 H => ?_)
  refine nx_ld rfl rfl rfl rfl ?_
  show nX _ _ _ _ _ _ 104 _ _ _ _ _
  refine nx_int (x := 150) rfl rfl ?_
  refine nx_newaL 3313 0 150 rfl rfl (Nat.le_of_ble_eq_true rfl) (Nat.le_of_ble_eq_true rfl) rfl rfl (by decide) (Nat.le_of_ble_eq_true rfl) (by omega) (by omega) H (fun t43 H => ?_)
  refine nx_eq (bc' := bc + 63) (bs' := bs + 71506) (by omega) (by omega) ?_
  refine nx_putR (f := 1313) (o := (some 0)) rfl rfl rfl (by decide) (by rw [hW]) rfl (by decide) H (fun t44 H => ?_)
  refine nx_ld rfl rfl rfl rfl ?_
  refine nx_int (x := 150) rfl rfl ?_
  refine nx_newaL 3314 0 150 rfl rfl (Nat.le_of_ble_eq_true rfl) (Nat.le_of_ble_eq_true rfl) rfl rfl (by decide) (Nat.le_of_ble_eq_true rfl) (by omega) (by omega) H (fun t45 H => ?_)
  refine nx_eq (bc' := bc + 62) (bs' := bs + 71356) (by omega) (by omega) ?_
  refine nx_putR (f := 1314) (o := (some 0)) rfl rfl rfl (by decide) (by rw [hW]) rfl (by decide) H (fun t46 H => ?_)
  refine nx_ld rfl rfl rfl rfl ?_
  show nX _ _ _ _ _ _ 122 _ _ _ _ _
  refine nx_int (x := 150) rfl rfl ?_
  refine nx_newaL 3315 0 150 rfl rfl (Nat.le_of_ble_eq_true rfl) (Nat.le_of_ble_eq_true rfl) rfl rfl (by decide) (Nat.le_of_ble_eq_true rfl) (by omega) (by omega) H (fun t47 H => ?_)
  refine nx_eq (bc' := bc + 61) (bs' := bs + 71206) (by omega) (by omega) ?_
  refine nx_putR (f := 1315) (o := (some 0)) rfl rfl rfl (by decide) (by rw [hW]) rfl (by decide) H (fun t48 H => ?_)
  refine nx_ld rfl rfl rfl rfl ?_
  refine nx_int (x := 600) rfl rfl ?_
  refine nx_newaL 3317 0 600 rfl rfl (Nat.le_of_ble_eq_true rfl) (Nat.le_of_ble_eq_true rfl) rfl rfl (by decide) (Nat.le_of_ble_eq_true rfl) (by omega) (by omega) H (fun t49 H => ?_)
  refine nx_eq (bc' := bc + 60) (bs' := bs + 70606) (by omega) (by omega) ?_
  refine nx_putR (f := 1317) (o := (some 0)) rfl rfl rfl (by decide) (by rw [hW]) rfl (by decide) H (fun t50 H => ?_)
  refine nx_ld rfl rfl rfl rfl ?_
  show nX _ _ _ _ _ _ 140 _ _ _ _ _
  refine nx_int (x := 600) rfl rfl ?_
  refine nx_newaL 3318 0 600 rfl rfl (Nat.le_of_ble_eq_true rfl) (Nat.le_of_ble_eq_true rfl) rfl rfl (by decide) (Nat.le_of_ble_eq_true rfl) (by omega) (by omega) H (fun t51 H => ?_)
  refine nx_eq (bc' := bc + 59) (bs' := bs + 70006) (by omega) (by omega) ?_
  refine nx_putR (f := 1318) (o := (some 0)) rfl rfl rfl (by decide) (by rw [hW]) rfl (by decide) H (fun t52 H => ?_)
  refine nx_ld rfl rfl rfl rfl ?_
  refine nx_int (x := 600) rfl rfl ?_
  refine nx_newaL 3319 0 600 rfl rfl (Nat.le_of_ble_eq_true rfl) (Nat.le_of_ble_eq_true rfl) rfl rfl (by decide) (Nat.le_of_ble_eq_true rfl) (by omega) (by omega) H (fun t53 H => ?_)
  refine nx_eq (bc' := bc + 58) (bs' := bs + 69406) (by omega) (by omega) ?_
  refine nx_putR (f := 1319) (o := (some 0)) rfl rfl rfl (by decide) (by rw [hW]) rfl (by decide) H (fun t54 H => ?_)
  refine nx_ld rfl rfl rfl rfl ?_
  show nX _ _ _ _ _ _ 158 _ _ _ _ _
  refine nx_int (x := 600) rfl rfl ?_
  refine nx_newaL 3320 0 600 rfl rfl (Nat.le_of_ble_eq_true rfl) (Nat.le_of_ble_eq_true rfl) rfl rfl (by decide) (Nat.le_of_ble_eq_true rfl) (by omega) (by omega) H (fun t55 H => ?_)
  refine nx_eq (bc' := bc + 57) (bs' := bs + 68806) (by omega) (by omega) ?_
  refine nx_putR (f := 1320) (o := (some 0)) rfl rfl rfl (by decide) (by rw [hW]) rfl (by decide) H (fun t56 H => ?_)
  refine nx_ld rfl rfl rfl rfl ?_
  refine nx_int (x := 600) rfl rfl ?_
  refine nx_newaL 3321 0 600 rfl rfl (Nat.le_of_ble_eq_true rfl) (Nat.le_of_ble_eq_true rfl) rfl rfl (by decide) (Nat.le_of_ble_eq_true rfl) (by omega) (by omega) H (fun t57 H => ?_)
  refine nx_eq (bc' := bc + 56) (bs' := bs + 68206) (by omega) (by omega) ?_
  refine nx_putR (f := 1321) (o := (some 0)) rfl rfl rfl (by decide) (by rw [hW]) rfl (by decide) H (fun t58 H => ?_)
  refine nx_ld rfl rfl rfl rfl ?_
  show nX _ _ _ _ _ _ 176 _ _ _ _ _
  refine nx_int (x := 600) rfl rfl ?_
  refine nx_newaL 3322 0 600 rfl rfl (Nat.le_of_ble_eq_true rfl) (Nat.le_of_ble_eq_true rfl) rfl rfl (by decide) (Nat.le_of_ble_eq_true rfl) (by omega) (by omega) H (fun t59 H => ?_)
  refine nx_eq (bc' := bc + 55) (bs' := bs + 67606) (by omega) (by omega) ?_
  refine nx_putR (f := 1322) (o := (some 0)) rfl rfl rfl (by decide) (by rw [hW]) rfl (by decide) H (fun t60 H => ?_)
  refine nx_ld rfl rfl rfl rfl ?_
  refine nx_int (x := 600) rfl rfl ?_
  refine nx_newaL 3323 0 600 rfl rfl (Nat.le_of_ble_eq_true rfl) (Nat.le_of_ble_eq_true rfl) rfl rfl (by decide) (Nat.le_of_ble_eq_true rfl) (by omega) (by omega) H (fun t61 H => ?_)
  refine nx_eq (bc' := bc + 54) (bs' := bs + 67006) (by omega) (by omega) ?_
  refine nx_putR (f := 1323) (o := (some 0)) rfl rfl rfl (by decide) (by rw [hW]) rfl (by decide) H (fun t62 H => ?_)
  refine nx_ld rfl rfl rfl rfl ?_
  show nX _ _ _ _ _ _ 194 _ _ _ _ _
  refine nx_int (x := 600) rfl rfl ?_
  refine nx_newaL 3324 0 600 rfl rfl (Nat.le_of_ble_eq_true rfl) (Nat.le_of_ble_eq_true rfl) rfl rfl (by decide) (Nat.le_of_ble_eq_true rfl) (by omega) (by omega) H (fun t63 H => ?_)
  refine nx_eq (bc' := bc + 53) (bs' := bs + 66406) (by omega) (by omega) ?_
  refine nx_putR (f := 1324) (o := (some 0)) rfl rfl rfl (by decide) (by rw [hW]) rfl (by decide) H (fun t64 H => ?_)
  refine nx_ld rfl rfl rfl rfl ?_
  refine nx_int (x := 150) rfl rfl ?_
  refine nx_newaL 3325 0 150 rfl rfl (Nat.le_of_ble_eq_true rfl) (Nat.le_of_ble_eq_true rfl) rfl rfl (by decide) (Nat.le_of_ble_eq_true rfl) (by omega) (by omega) H (fun t65 H => ?_)
  refine nx_eq (bc' := bc + 52) (bs' := bs + 66256) (by omega) (by omega) ?_
  refine nx_putR (f := 1325) (o := (some 0)) rfl rfl rfl (by decide) (by rw [hW]) rfl (by decide) H (fun t66 H => ?_)
  refine nx_ld rfl rfl rfl rfl ?_
  show nX _ _ _ _ _ _ 212 _ _ _ _ _
  refine nx_int (x := 600) rfl rfl ?_
  refine nx_newaL 3326 0 600 rfl rfl (Nat.le_of_ble_eq_true rfl) (Nat.le_of_ble_eq_true rfl) rfl rfl (by decide) (Nat.le_of_ble_eq_true rfl) (by omega) (by omega) H (fun t67 H => ?_)
  refine nx_eq (bc' := bc + 51) (bs' := bs + 65656) (by omega) (by omega) ?_
  refine nx_putR (f := 1326) (o := (some 0)) rfl rfl rfl (by decide) (by rw [hW]) rfl (by decide) H (fun t68 H => ?_)
  refine nx_ld rfl rfl rfl rfl ?_
  refine nx_int (x := 200) rfl rfl ?_
  refine nx_newaL 3328 0 200 rfl rfl (Nat.le_of_ble_eq_true rfl) (Nat.le_of_ble_eq_true rfl) rfl rfl (by decide) (Nat.le_of_ble_eq_true rfl) (by omega) (by omega) H (fun t69 H => ?_)
  refine nx_eq (bc' := bc + 50) (bs' := bs + 65456) (by omega) (by omega) ?_
  refine nx_putR (f := 1328) (o := (some 0)) rfl rfl rfl (by decide) (by rw [hW]) rfl (by decide) H (fun t70 H => ?_)
  refine nx_ld rfl rfl rfl rfl ?_
  show nX _ _ _ _ _ _ 230 _ _ _ _ _
  refine nx_int (x := 200) rfl rfl ?_
  refine nx_newaL 3329 0 200 rfl rfl (Nat.le_of_ble_eq_true rfl) (Nat.le_of_ble_eq_true rfl) rfl rfl (by decide) (Nat.le_of_ble_eq_true rfl) (by omega) (by omega) H (fun t71 H => ?_)
  refine nx_eq (bc' := bc + 49) (bs' := bs + 65256) (by omega) (by omega) ?_
  refine nx_putR (f := 1329) (o := (some 0)) rfl rfl rfl (by decide) (by rw [hW]) rfl (by decide) H (fun t72 H => ?_)
  refine nx_ld rfl rfl rfl rfl ?_
  refine nx_int (x := 200) rfl rfl ?_
  refine nx_newaL 3330 0 200 rfl rfl (Nat.le_of_ble_eq_true rfl) (Nat.le_of_ble_eq_true rfl) rfl rfl (by decide) (Nat.le_of_ble_eq_true rfl) (by omega) (by omega) H (fun t73 H => ?_)
  refine nx_eq (bc' := bc + 48) (bs' := bs + 65056) (by omega) (by omega) ?_
  refine nx_putR (f := 1330) (o := (some 0)) rfl rfl rfl (by decide) (by rw [hW]) rfl (by decide) H (fun t74 H => ?_)
  refine nx_ld rfl rfl rfl rfl ?_
  show nX _ _ _ _ _ _ 248 _ _ _ _ _
  refine nx_int (x := 200) rfl rfl ?_
  refine nx_newaL 3331 0 200 rfl rfl (Nat.le_of_ble_eq_true rfl) (Nat.le_of_ble_eq_true rfl) rfl rfl (by decide) (Nat.le_of_ble_eq_true rfl) (by omega) (by omega) H (fun t75 H => ?_)
  refine nx_eq (bc' := bc + 47) (bs' := bs + 64856) (by omega) (by omega) ?_
  refine nx_putR (f := 1331) (o := (some 0)) rfl rfl rfl (by decide) (by rw [hW]) rfl (by decide) H (fun t76 H => ?_)
  refine nx_ld rfl rfl rfl rfl ?_
  refine nx_int (x := 200) rfl rfl ?_
  refine nx_newaL 3332 0 200 rfl rfl (Nat.le_of_ble_eq_true rfl) (Nat.le_of_ble_eq_true rfl) rfl rfl (by decide) (Nat.le_of_ble_eq_true rfl) (by omega) (by omega) H (fun t77 H => ?_)
  refine nx_eq (bc' := bc + 46) (bs' := bs + 64656) (by omega) (by omega) ?_
  refine nx_putR (f := 1332) (o := (some 0)) rfl rfl rfl (by decide) (by rw [hW]) rfl (by decide) H (fun t78 H => ?_)
  refine nx_ld rfl rfl rfl rfl ?_
  show nX _ _ _ _ _ _ 266 _ _ _ _ _
  refine nx_int (x := 200) rfl rfl ?_
  refine nx_newaL 3333 0 200 rfl rfl (Nat.le_of_ble_eq_true rfl) (Nat.le_of_ble_eq_true rfl) rfl rfl (by decide) (Nat.le_of_ble_eq_true rfl) (by omega) (by omega) H (fun t79 H => ?_)
  refine nx_eq (bc' := bc + 45) (bs' := bs + 64456) (by omega) (by omega) ?_
  refine nx_putR (f := 1333) (o := (some 0)) rfl rfl rfl (by decide) (by rw [hW]) rfl (by decide) H (fun t80 H => ?_)
  refine nx_ld rfl rfl rfl rfl ?_
  refine nx_int (x := 200) rfl rfl ?_
  refine nx_newaL 3334 0 200 rfl rfl (Nat.le_of_ble_eq_true rfl) (Nat.le_of_ble_eq_true rfl) rfl rfl (by decide) (Nat.le_of_ble_eq_true rfl) (by omega) (by omega) H (fun t81 H => ?_)
  refine nx_eq (bc' := bc + 44) (bs' := bs + 64256) (by omega) (by omega) ?_
  refine nx_putR (f := 1334) (o := (some 0)) rfl rfl rfl (by decide) (by rw [hW]) rfl (by decide) H (fun t82 H => ?_)
  refine nx_ld rfl rfl rfl rfl ?_
  show nX _ _ _ _ _ _ 284 _ _ _ _ _
  refine nx_int (x := 200) rfl rfl ?_
  refine nx_newaL 3335 0 200 rfl rfl (Nat.le_of_ble_eq_true rfl) (Nat.le_of_ble_eq_true rfl) rfl rfl (by decide) (Nat.le_of_ble_eq_true rfl) (by omega) (by omega) H (fun t83 H => ?_)
  refine nx_eq (bc' := bc + 43) (bs' := bs + 64056) (by omega) (by omega) ?_
  refine nx_putR (f := 1335) (o := (some 0)) rfl rfl rfl (by decide) (by rw [hW]) rfl (by decide) H (fun t84 H => ?_)
  refine nx_ld rfl rfl rfl rfl ?_
  refine nx_int (x := 200) rfl rfl ?_
  refine nx_newaL 3336 0 200 rfl rfl (Nat.le_of_ble_eq_true rfl) (Nat.le_of_ble_eq_true rfl) rfl rfl (by decide) (Nat.le_of_ble_eq_true rfl) (by omega) (by omega) H (fun t85 H => ?_)
  refine nx_eq (bc' := bc + 42) (bs' := bs + 63856) (by omega) (by omega) ?_
  refine nx_putR (f := 1336) (o := (some 0)) rfl rfl rfl (by decide) (by rw [hW]) rfl (by decide) H (fun t86 H => ?_)
  refine nx_ld rfl rfl rfl rfl ?_
  show nX _ _ _ _ _ _ 302 _ _ _ _ _
  refine nx_int (x := 200) rfl rfl ?_
  refine nx_newaL 3337 0 200 rfl rfl (Nat.le_of_ble_eq_true rfl) (Nat.le_of_ble_eq_true rfl) rfl rfl (by decide) (Nat.le_of_ble_eq_true rfl) (by omega) (by omega) H (fun t87 H => ?_)
  refine nx_eq (bc' := bc + 41) (bs' := bs + 63656) (by omega) (by omega) ?_
  refine nx_putR (f := 1337) (o := (some 0)) rfl rfl rfl (by decide) (by rw [hW]) rfl (by decide) H (fun t88 H => ?_)
  refine nx_ld rfl rfl rfl rfl ?_
  refine nx_int (x := 200) rfl rfl ?_
  refine nx_newaL 3338 0 200 rfl rfl (Nat.le_of_ble_eq_true rfl) (Nat.le_of_ble_eq_true rfl) rfl rfl (by decide) (Nat.le_of_ble_eq_true rfl) (by omega) (by omega) H (fun t89 H => ?_)
  refine nx_eq (bc' := bc + 40) (bs' := bs + 63456) (by omega) (by omega) ?_
  refine nx_putR (f := 1338) (o := (some 0)) rfl rfl rfl (by decide) (by rw [hW]) rfl (by decide) H (fun t90 H => ?_)
  refine nx_ld rfl rfl rfl rfl ?_
  show nX _ _ _ _ _ _ 320 _ _ _ _ _
  refine nx_int (x := 200) rfl rfl ?_
  refine nx_newaL 3339 0 200 rfl rfl (Nat.le_of_ble_eq_true rfl) (Nat.le_of_ble_eq_true rfl) rfl rfl (by decide) (Nat.le_of_ble_eq_true rfl) (by omega) (by omega) H (fun t91 H => ?_)
  refine nx_eq (bc' := bc + 39) (bs' := bs + 63256) (by omega) (by omega) ?_
  refine nx_putR (f := 1339) (o := (some 0)) rfl rfl rfl (by decide) (by rw [hW]) rfl (by decide) H (fun t92 H => ?_)
  refine nx_ld rfl rfl rfl rfl ?_
  refine nx_int (x := 200) rfl rfl ?_
  refine nx_newaL 3340 0 200 rfl rfl (Nat.le_of_ble_eq_true rfl) (Nat.le_of_ble_eq_true rfl) rfl rfl (by decide) (Nat.le_of_ble_eq_true rfl) (by omega) (by omega) H (fun t93 H => ?_)
  refine nx_eq (bc' := bc + 38) (bs' := bs + 63056) (by omega) (by omega) ?_
  refine nx_putR (f := 1340) (o := (some 0)) rfl rfl rfl (by decide) (by rw [hW]) rfl (by decide) H (fun t94 H => ?_)
  refine nx_ld rfl rfl rfl rfl ?_
  show nX _ _ _ _ _ _ 338 _ _ _ _ _
  refine nx_int (x := 200) rfl rfl ?_
  refine nx_newaL 3341 0 200 rfl rfl (Nat.le_of_ble_eq_true rfl) (Nat.le_of_ble_eq_true rfl) rfl rfl (by decide) (Nat.le_of_ble_eq_true rfl) (by omega) (by omega) H (fun t95 H => ?_)
  refine nx_eq (bc' := bc + 37) (bs' := bs + 62856) (by omega) (by omega) ?_
  refine nx_putR (f := 1341) (o := (some 0)) rfl rfl rfl (by decide) (by rw [hW]) rfl (by decide) H (fun t96 H => ?_)
  refine nx_ld rfl rfl rfl rfl ?_
  refine nx_int (x := 200) rfl rfl ?_
  refine nx_newaL 3342 0 200 rfl rfl (Nat.le_of_ble_eq_true rfl) (Nat.le_of_ble_eq_true rfl) rfl rfl (by decide) (Nat.le_of_ble_eq_true rfl) (by omega) (by omega) H (fun t97 H => ?_)
  refine nx_eq (bc' := bc + 36) (bs' := bs + 62656) (by omega) (by omega) ?_
  refine nx_putR (f := 1342) (o := (some 0)) rfl rfl rfl (by decide) (by rw [hW]) rfl (by decide) H (fun t98 H => ?_)
  refine nx_ld rfl rfl rfl rfl ?_
  show nX _ _ _ _ _ _ 356 _ _ _ _ _
  refine nx_int (x := 200) rfl rfl ?_
  refine nx_newaL 3343 0 200 rfl rfl (Nat.le_of_ble_eq_true rfl) (Nat.le_of_ble_eq_true rfl) rfl rfl (by decide) (Nat.le_of_ble_eq_true rfl) (by omega) (by omega) H (fun t99 H => ?_)
  refine nx_eq (bc' := bc + 35) (bs' := bs + 62456) (by omega) (by omega) ?_
  refine nx_putR (f := 1343) (o := (some 0)) rfl rfl rfl (by decide) (by rw [hW]) rfl (by decide) H (fun t100 H => ?_)
  refine nx_ld rfl rfl rfl rfl ?_
  refine nx_int (x := 200) rfl rfl ?_
  refine nx_newaL 3344 0 200 rfl rfl (Nat.le_of_ble_eq_true rfl) (Nat.le_of_ble_eq_true rfl) rfl rfl (by decide) (Nat.le_of_ble_eq_true rfl) (by omega) (by omega) H (fun t101 H => ?_)
  refine nx_eq (bc' := bc + 34) (bs' := bs + 62256) (by omega) (by omega) ?_
  refine nx_putR (f := 1344) (o := (some 0)) rfl rfl rfl (by decide) (by rw [hW]) rfl (by decide) H (fun t102 H => ?_)
  refine nx_ld rfl rfl rfl rfl ?_
  show nX _ _ _ _ _ _ 374 _ _ _ _ _
  refine nx_int (x := 200) rfl rfl ?_
  refine nx_newaL 3345 0 200 rfl rfl (Nat.le_of_ble_eq_true rfl) (Nat.le_of_ble_eq_true rfl) rfl rfl (by decide) (Nat.le_of_ble_eq_true rfl) (by omega) (by omega) H (fun t103 H => ?_)
  refine nx_eq (bc' := bc + 33) (bs' := bs + 62056) (by omega) (by omega) ?_
  refine nx_putR (f := 1345) (o := (some 0)) rfl rfl rfl (by decide) (by rw [hW]) rfl (by decide) H (fun t104 H => ?_)
  refine nx_ld rfl rfl rfl rfl ?_
  refine nx_int (x := 200) rfl rfl ?_
  refine nx_newaL 3346 0 200 rfl rfl (Nat.le_of_ble_eq_true rfl) (Nat.le_of_ble_eq_true rfl) rfl rfl (by decide) (Nat.le_of_ble_eq_true rfl) (by omega) (by omega) H (fun t105 H => ?_)
  refine nx_eq (bc' := bc + 32) (bs' := bs + 61856) (by omega) (by omega) ?_
  refine nx_putR (f := 1346) (o := (some 0)) rfl rfl rfl (by decide) (by rw [hW]) rfl (by decide) H (fun t106 H => ?_)
  refine nx_ld rfl rfl rfl rfl ?_
  show nX _ _ _ _ _ _ 392 _ _ _ _ _
  refine nx_int (x := 30000) rfl rfl ?_
  refine nx_newaL 3347 0 30000 rfl rfl (Nat.le_of_ble_eq_true rfl) (Nat.le_of_ble_eq_true rfl) rfl rfl (by decide) (Nat.le_of_ble_eq_true rfl) (by omega) (by omega) H (fun t107 H => ?_)
  refine nx_eq (bc' := bc + 31) (bs' := bs + 31856) (by omega) (by omega) ?_
  refine nx_putR (f := 1347) (o := (some 0)) rfl rfl rfl (by decide) (by rw [hW]) rfl (by decide) H (fun t108 H => ?_)
  refine nx_ld rfl rfl rfl rfl ?_
  refine nx_int (x := 22500) rfl rfl ?_
  refine nx_newaL 3348 0 22500 rfl rfl (Nat.le_of_ble_eq_true rfl) (Nat.le_of_ble_eq_true rfl) rfl rfl (by decide) (Nat.le_of_ble_eq_true rfl) (by omega) (by omega) H (fun t109 H => ?_)
  refine nx_eq (bc' := bc + 30) (bs' := bs + 9356) (by omega) (by omega) ?_
  refine nx_putR (f := 1348) (o := (some 0)) rfl rfl rfl (by decide) (by rw [hW]) rfl (by decide) H (fun t110 H => ?_)
  refine nx_ld rfl rfl rfl rfl ?_
  show nX _ _ _ _ _ _ 410 _ _ _ _ _
  refine nx_int (x := 9) rfl rfl ?_
  refine nx_newaL 3349 0 9 rfl rfl (Nat.le_of_ble_eq_true rfl) (Nat.le_of_ble_eq_true rfl) rfl rfl (by decide) (Nat.le_of_ble_eq_true rfl) (by omega) (by omega) H (fun t111 H => ?_)
  refine nx_eq (bc' := bc + 29) (bs' := bs + 9347) (by omega) (by omega) ?_
  refine nx_dup rfl rfl (Nat.ne_of_beq_eq_false rfl) ?_
  refine nx_int (x := 0) rfl rfl ?_
  refine nx_int (x := 0) rfl rfl ?_
  refine nx_iast (p := (3349, 0)) rfl rfl (Nat.le_of_ble_eq_true rfl) (Nat.le_of_ble_eq_true rfl) rfl H (fun t112 H => ?_)
  refine nx_dup rfl rfl (Nat.ne_of_beq_eq_false rfl) ?_
  refine nx_int (x := 1) rfl rfl ?_
  show nX _ _ _ _ _ _ 420 _ _ _ _ _
  refine nx_int (x := 0) rfl rfl ?_
  refine nx_iast (p := (3349, 0)) rfl rfl (Nat.le_of_ble_eq_true rfl) (Nat.le_of_ble_eq_true rfl) rfl H (fun t113 H => ?_)
  refine nx_dup rfl rfl (Nat.ne_of_beq_eq_false rfl) ?_
  refine nx_int (x := 2) rfl rfl ?_
  refine nx_int (x := 0) rfl rfl ?_
  refine nx_iast (p := (3349, 0)) rfl rfl (Nat.le_of_ble_eq_true rfl) (Nat.le_of_ble_eq_true rfl) rfl H (fun t114 H => ?_)
  refine nx_dup rfl rfl (Nat.ne_of_beq_eq_false rfl) ?_
  refine nx_int (x := 3) rfl rfl ?_
  show nX _ _ _ _ _ _ 428 _ _ _ _ _
  refine nx_int (x := 1) rfl rfl ?_
  refine nx_iast (p := (3349, 0)) rfl rfl (Nat.le_of_ble_eq_true rfl) (Nat.le_of_ble_eq_true rfl) rfl H (fun t115 H => ?_)
  refine nx_dup rfl rfl (Nat.ne_of_beq_eq_false rfl) ?_
  refine nx_int (x := 4) rfl rfl ?_
  refine nx_int (x := 0) rfl rfl ?_
  refine nx_iast (p := (3349, 0)) rfl rfl (Nat.le_of_ble_eq_true rfl) (Nat.le_of_ble_eq_true rfl) rfl H (fun t116 H => ?_)
  refine nx_dup rfl rfl (Nat.ne_of_beq_eq_false rfl) ?_
  refine nx_int (x := 5) rfl rfl ?_
  show nX _ _ _ _ _ _ 436 _ _ _ _ _
  refine nx_int (x := 0) rfl rfl ?_
  refine nx_iast (p := (3349, 0)) rfl rfl (Nat.le_of_ble_eq_true rfl) (Nat.le_of_ble_eq_true rfl) rfl H (fun t117 H => ?_)
  refine nx_dup rfl rfl (Nat.ne_of_beq_eq_false rfl) ?_
  refine nx_int (x := 6) rfl rfl ?_
  refine nx_int (x := 1) rfl rfl ?_
  refine nx_iast (p := (3349, 0)) rfl rfl (Nat.le_of_ble_eq_true rfl) (Nat.le_of_ble_eq_true rfl) rfl H (fun t118 H => ?_)
  refine nx_dup rfl rfl (Nat.ne_of_beq_eq_false rfl) ?_
  refine nx_int (x := 7) rfl rfl ?_
  show nX _ _ _ _ _ _ 446 _ _ _ _ _
  refine nx_int (x := 0) rfl rfl ?_
  refine nx_iast (p := (3349, 0)) rfl rfl (Nat.le_of_ble_eq_true rfl) (Nat.le_of_ble_eq_true rfl) rfl H (fun t119 H => ?_)
  refine nx_dup rfl rfl (Nat.ne_of_beq_eq_false rfl) ?_
  refine nx_int (x := 8) rfl rfl ?_
  refine nx_int (x := 0) rfl rfl ?_
  refine nx_iast (p := (3349, 0)) rfl rfl (Nat.le_of_ble_eq_true rfl) (Nat.le_of_ble_eq_true rfl) rfl H (fun t120 H => ?_)
  refine nx_putR (f := 1349) (o := (some 0)) rfl rfl rfl (by decide) (by rw [hW]) rfl (by decide) H (fun t121 H => ?_)
  refine nx_ld rfl rfl rfl rfl ?_
  show nX _ _ _ _ _ _ 457 _ _ _ _ _
  refine nx_int (x := 160) rfl rfl ?_
  refine nx_newaL 3353 0 160 rfl rfl (Nat.le_of_ble_eq_true rfl) (Nat.le_of_ble_eq_true rfl) rfl rfl (by decide) (Nat.le_of_ble_eq_true rfl) (by omega) (by omega) H (fun t122 H => ?_)
  refine nx_eq (bc' := bc + 28) (bs' := bs + 9187) (by omega) (by omega) ?_
  refine nx_putR (f := 1353) (o := (some 0)) rfl rfl rfl (by decide) (by rw [hW]) rfl (by decide) H (fun t123 H => ?_)
  refine nx_ld rfl rfl rfl rfl ?_
  refine nx_int (x := 16) rfl rfl ?_
  refine nx_newaL 3356 0 16 rfl rfl (Nat.le_of_ble_eq_true rfl) (Nat.le_of_ble_eq_true rfl) rfl rfl (by decide) (Nat.le_of_ble_eq_true rfl) (by omega) (by omega) H (fun t124 H => ?_)
  refine nx_eq (bc' := bc + 27) (bs' := bs + 9171) (by omega) (by omega) ?_
  refine nx_putR (f := 1356) (o := (some 0)) rfl rfl rfl (by decide) (by rw [hW]) rfl (by decide) H (fun t125 H => ?_)
  refine nx_ld rfl rfl rfl rfl ?_
  show nX _ _ _ _ _ _ 474 _ _ _ _ _
  refine nx_int (x := 16) rfl rfl ?_
  refine nx_newaL 3357 0 16 rfl rfl (Nat.le_of_ble_eq_true rfl) (Nat.le_of_ble_eq_true rfl) rfl rfl (by decide) (Nat.le_of_ble_eq_true rfl) (by omega) (by omega) H (fun t126 H => ?_)
  refine nx_eq (bc' := bc + 26) (bs' := bs + 9155) (by omega) (by omega) ?_
  refine nx_putR (f := 1357) (o := (some 0)) rfl rfl rfl (by decide) (by rw [hW]) rfl (by decide) H (fun t127 H => ?_)
  refine nx_ld rfl rfl rfl rfl ?_
  refine nx_int (x := 16) rfl rfl ?_
  refine nx_newaL 3358 0 16 rfl rfl (Nat.le_of_ble_eq_true rfl) (Nat.le_of_ble_eq_true rfl) rfl rfl (by decide) (Nat.le_of_ble_eq_true rfl) (by omega) (by omega) H (fun t128 H => ?_)
  refine nx_eq (bc' := bc + 25) (bs' := bs + 9139) (by omega) (by omega) ?_
  refine nx_putR (f := 1358) (o := (some 0)) rfl rfl rfl (by decide) (by rw [hW]) rfl (by decide) H (fun t129 H => ?_)
  refine nx_ld rfl rfl rfl rfl ?_
  show nX _ _ _ _ _ _ 490 _ _ _ _ _
  refine nx_int (x := 17) rfl rfl ?_
  refine nx_newaL 3359 0 17 rfl rfl (Nat.le_of_ble_eq_true rfl) (Nat.le_of_ble_eq_true rfl) rfl rfl (by decide) (Nat.le_of_ble_eq_true rfl) (by omega) (by omega) H (fun t130 H => ?_)
  refine nx_eq (bc' := bc + 24) (bs' := bs + 9122) (by omega) (by omega) ?_
  refine nx_putR (f := 1359) (o := (some 0)) rfl rfl rfl (by decide) (by rw [hW]) rfl (by decide) H (fun t131 H => ?_)
  refine nx_ld rfl rfl rfl rfl ?_
  refine nx_int (x := 1530) rfl rfl ?_
  refine nx_newaL 3360 0 1530 rfl rfl (Nat.le_of_ble_eq_true rfl) (Nat.le_of_ble_eq_true rfl) rfl rfl (by decide) (Nat.le_of_ble_eq_true rfl) (by omega) (by omega) H (fun t132 H => ?_)
  refine nx_eq (bc' := bc + 23) (bs' := bs + 7592) (by omega) (by omega) ?_
  refine nx_putR (f := 1360) (o := (some 0)) rfl rfl rfl (by decide) (by rw [hW]) rfl (by decide) H (fun t133 H => ?_)
  refine nx_ld rfl rfl rfl rfl ?_
  show nX _ _ _ _ _ _ 507 _ _ _ _ _
  refine nx_int (x := 3400) rfl rfl ?_
  refine nx_newaL 3361 0 3400 rfl rfl (Nat.le_of_ble_eq_true rfl) (Nat.le_of_ble_eq_true rfl) rfl rfl (by decide) (Nat.le_of_ble_eq_true rfl) (by omega) (by omega) H (fun t134 H => ?_)
  refine nx_eq (bc' := bc + 22) (bs' := bs + 4192) (by omega) (by omega) ?_
  refine nx_putR (f := 1361) (o := (some 0)) rfl rfl rfl (by decide) (by rw [hW]) rfl (by decide) H (fun t135 H => ?_)
  refine nx_ld rfl rfl rfl rfl ?_
  refine nx_int (x := 3400) rfl rfl ?_
  refine nx_newaL 3362 0 3400 rfl rfl (Nat.le_of_ble_eq_true rfl) (Nat.le_of_ble_eq_true rfl) rfl rfl (by decide) (Nat.le_of_ble_eq_true rfl) (by omega) (by omega) H (fun t136 H => ?_)
  refine nx_eq (bc' := bc + 21) (bs' := bs + 792) (by omega) (by omega) ?_
  refine nx_putR (f := 1362) (o := (some 0)) rfl rfl rfl (by decide) (by rw [hW]) rfl (by decide) H (fun t137 H => ?_)
  refine nx_ld rfl rfl rfl rfl ?_
  show nX _ _ _ _ _ _ 525 _ _ _ _ _
  refine nx_int (x := 12) rfl rfl ?_
  refine nx_newaL 3368 0 12 rfl rfl (Nat.le_of_ble_eq_true rfl) (Nat.le_of_ble_eq_true rfl) rfl rfl (by decide) (Nat.le_of_ble_eq_true rfl) (by omega) (by omega) H (fun t138 H => ?_)
  refine nx_eq (bc' := bc + 20) (bs' := bs + 780) (by omega) (by omega) ?_
  refine nx_putR (f := 1368) (o := (some 0)) rfl rfl rfl (by decide) (by rw [hW]) rfl (by decide) H (fun t139 H => ?_)
  refine nx_ld rfl rfl rfl rfl ?_
  refine nx_int (x := 200) rfl rfl ?_
  refine nx_newaL 3369 0 200 rfl rfl (Nat.le_of_ble_eq_true rfl) (Nat.le_of_ble_eq_true rfl) rfl rfl (by decide) (Nat.le_of_ble_eq_true rfl) (by omega) (by omega) H (fun t140 H => ?_)
  refine nx_eq (bc' := bc + 19) (bs' := bs + 580) (by omega) (by omega) ?_
  refine nx_putR (f := 1369) (o := (some 0)) rfl rfl rfl (by decide) (by rw [hW]) rfl (by decide) H (fun t141 H => ?_)
  refine nx_ld rfl rfl rfl rfl ?_
  show nX _ _ _ _ _ _ 542 _ _ _ _ _
  refine nx_int (x := 6) rfl rfl ?_
  refine nx_newaL 3371 0 6 rfl rfl (Nat.le_of_ble_eq_true rfl) (Nat.le_of_ble_eq_true rfl) rfl rfl (by decide) (Nat.le_of_ble_eq_true rfl) (by omega) (by omega) H (fun t142 H => ?_)
  refine nx_eq (bc' := bc + 18) (bs' := bs + 574) (by omega) (by omega) ?_
  refine nx_putR (f := 1371) (o := (some 0)) rfl rfl rfl (by decide) (by rw [hW]) rfl (by decide) H (fun t143 H => ?_)
  refine nx_ld rfl rfl rfl rfl ?_
  refine nx_int (x := 6) rfl rfl ?_
  refine nx_newaL 3372 0 6 rfl rfl (Nat.le_of_ble_eq_true rfl) (Nat.le_of_ble_eq_true rfl) rfl rfl (by decide) (Nat.le_of_ble_eq_true rfl) (by omega) (by omega) H (fun t144 H => ?_)
  refine nx_eq (bc' := bc + 17) (bs' := bs + 568) (by omega) (by omega) ?_
  refine nx_putR (f := 1372) (o := (some 0)) rfl rfl rfl (by decide) (by rw [hW]) rfl (by decide) H (fun t145 H => ?_)
  refine nx_ld rfl rfl rfl rfl ?_
  show nX _ _ _ _ _ _ 558 _ _ _ _ _
  refine nx_int (x := 6) rfl rfl ?_
  refine nx_newaL 3373 0 6 rfl rfl (Nat.le_of_ble_eq_true rfl) (Nat.le_of_ble_eq_true rfl) rfl rfl (by decide) (Nat.le_of_ble_eq_true rfl) (by omega) (by omega) H (fun t146 H => ?_)
  refine nx_eq (bc' := bc + 16) (bs' := bs + 562) (by omega) (by omega) ?_
  refine nx_putR (f := 1373) (o := (some 0)) rfl rfl rfl (by decide) (by rw [hW]) rfl (by decide) H (fun t147 H => ?_)
  refine nx_ld rfl rfl rfl rfl ?_
  refine nx_int (x := 6) rfl rfl ?_
  refine nx_newaL 3374 0 6 rfl rfl (Nat.le_of_ble_eq_true rfl) (Nat.le_of_ble_eq_true rfl) rfl rfl (by decide) (Nat.le_of_ble_eq_true rfl) (by omega) (by omega) H (fun t148 H => ?_)
  refine nx_eq (bc' := bc + 15) (bs' := bs + 556) (by omega) (by omega) ?_
  refine nx_putR (f := 1374) (o := (some 0)) rfl rfl rfl (by decide) (by rw [hW]) rfl (by decide) H (fun t149 H => ?_)
  refine nx_ld rfl rfl rfl rfl ?_
  show nX _ _ _ _ _ _ 574 _ _ _ _ _
  refine nx_int (x := 8) rfl rfl ?_
  refine nx_newaL 3376 0 8 rfl rfl (Nat.le_of_ble_eq_true rfl) (Nat.le_of_ble_eq_true rfl) rfl rfl (by decide) (Nat.le_of_ble_eq_true rfl) (by omega) (by omega) H (fun t150 H => ?_)
  refine nx_eq (bc' := bc + 14) (bs' := bs + 548) (by omega) (by omega) ?_
  refine nx_putR (f := 1376) (o := (some 0)) rfl rfl rfl (by decide) (by rw [hW]) rfl (by decide) H (fun t151 H => ?_)
  refine nx_ld rfl rfl rfl rfl ?_
  refine nx_int (x := 8) rfl rfl ?_
  refine nx_newaL 3377 0 8 rfl rfl (Nat.le_of_ble_eq_true rfl) (Nat.le_of_ble_eq_true rfl) rfl rfl (by decide) (Nat.le_of_ble_eq_true rfl) (by omega) (by omega) H (fun t152 H => ?_)
  refine nx_eq (bc' := bc + 13) (bs' := bs + 540) (by omega) (by omega) ?_
  refine nx_putR (f := 1377) (o := (some 0)) rfl rfl rfl (by decide) (by rw [hW]) rfl (by decide) H (fun t153 H => ?_)
  refine nx_ld rfl rfl rfl rfl ?_
  show nX _ _ _ _ _ _ 590 _ _ _ _ _
  refine nx_int (x := 8) rfl rfl ?_
  refine nx_newaL 3378 0 8 rfl rfl (Nat.le_of_ble_eq_true rfl) (Nat.le_of_ble_eq_true rfl) rfl rfl (by decide) (Nat.le_of_ble_eq_true rfl) (by omega) (by omega) H (fun t154 H => ?_)
  refine nx_eq (bc' := bc + 12) (bs' := bs + 532) (by omega) (by omega) ?_
  refine nx_putR (f := 1378) (o := (some 0)) rfl rfl rfl (by decide) (by rw [hW]) rfl (by decide) H (fun t155 H => ?_)
  refine nx_ld rfl rfl rfl rfl ?_
  refine nx_int (x := (-1)) rfl rfl ?_
  refine nx_putI rfl rfl rfl (by decide) H (fun t156 H => ?_)
  refine nx_ld rfl rfl rfl rfl ?_
  refine nx_int (x := 10) rfl rfl ?_
  show nX _ _ _ _ _ _ 605 _ _ _ _ _
  refine nx_newaL 3382 0 10 rfl rfl (Nat.le_of_ble_eq_true rfl) (Nat.le_of_ble_eq_true rfl) rfl rfl (by decide) (Nat.le_of_ble_eq_true rfl) (by omega) (by omega) H (fun t157 H => ?_)
  refine nx_eq (bc' := bc + 11) (bs' := bs + 522) (by omega) (by omega) ?_
  refine nx_putR (f := 1382) (o := (some 0)) rfl rfl rfl (by decide) (by rw [hW]) rfl (by decide) H (fun t158 H => ?_)
  refine nx_ld rfl rfl rfl rfl ?_
  refine nx_int (x := 10) rfl rfl ?_
  refine nx_newaL 3383 0 10 rfl rfl (Nat.le_of_ble_eq_true rfl) (Nat.le_of_ble_eq_true rfl) rfl rfl (by decide) (Nat.le_of_ble_eq_true rfl) (by omega) (by omega) H (fun t159 H => ?_)
  refine nx_eq (bc' := bc + 10) (bs' := bs + 512) (by omega) (by omega) ?_
  refine nx_putR (f := 1383) (o := (some 0)) rfl rfl rfl (by decide) (by rw [hW]) rfl (by decide) H (fun t160 H => ?_)
  refine nx_ld rfl rfl rfl rfl ?_
  refine nx_int (x := 10) rfl rfl ?_
  show nX _ _ _ _ _ _ 621 _ _ _ _ _
  refine nx_newaL 3384 0 10 rfl rfl (Nat.le_of_ble_eq_true rfl) (Nat.le_of_ble_eq_true rfl) rfl rfl (by decide) (Nat.le_of_ble_eq_true rfl) (by omega) (by omega) H (fun t161 H => ?_)
  refine nx_eq (bc' := bc + 9) (bs' := bs + 502) (by omega) (by omega) ?_
  refine nx_putR (f := 1384) (o := (some 0)) rfl rfl rfl (by decide) (by rw [hW]) rfl (by decide) H (fun t162 H => ?_)
  refine nx_ld rfl rfl rfl rfl ?_
  refine nx_int (x := 10) rfl rfl ?_
  refine nx_newaL 3385 0 10 rfl rfl (Nat.le_of_ble_eq_true rfl) (Nat.le_of_ble_eq_true rfl) rfl rfl (by decide) (Nat.le_of_ble_eq_true rfl) (by omega) (by omega) H (fun t163 H => ?_)
  refine nx_eq (bc' := bc + 8) (bs' := bs + 492) (by omega) (by omega) ?_
  refine nx_putR (f := 1385) (o := (some 0)) rfl rfl rfl (by decide) (by rw [hW]) rfl (by decide) H (fun t164 H => ?_)
  refine nx_ld rfl rfl rfl rfl ?_
  refine nx_int (x := 12) rfl rfl ?_
  show nX _ _ _ _ _ _ 637 _ _ _ _ _
  refine nx_newaL 3387 0 12 rfl rfl (Nat.le_of_ble_eq_true rfl) (Nat.le_of_ble_eq_true rfl) rfl rfl (by decide) (Nat.le_of_ble_eq_true rfl) (by omega) (by omega) H (fun t165 H => ?_)
  refine nx_eq (bc' := bc + 7) (bs' := bs + 480) (by omega) (by omega) ?_
  refine nx_putR (f := 1387) (o := (some 0)) rfl rfl rfl (by decide) (by rw [hW]) rfl (by decide) H (fun t166 H => ?_)
  refine nx_ld rfl rfl rfl rfl ?_
  refine nx_int (x := 12) rfl rfl ?_
  refine nx_newaL 3388 0 12 rfl rfl (Nat.le_of_ble_eq_true rfl) (Nat.le_of_ble_eq_true rfl) rfl rfl (by decide) (Nat.le_of_ble_eq_true rfl) (by omega) (by omega) H (fun t167 H => ?_)
  refine nx_eq (bc' := bc + 6) (bs' := bs + 468) (by omega) (by omega) ?_
  refine nx_putR (f := 1388) (o := (some 0)) rfl rfl rfl (by decide) (by rw [hW]) rfl (by decide) H (fun t168 H => ?_)
  refine nx_ld rfl rfl rfl rfl ?_
  refine nx_int (x := 12) rfl rfl ?_
  show nX _ _ _ _ _ _ 653 _ _ _ _ _
  refine nx_newaL 3389 0 12 rfl rfl (Nat.le_of_ble_eq_true rfl) (Nat.le_of_ble_eq_true rfl) rfl rfl (by decide) (Nat.le_of_ble_eq_true rfl) (by omega) (by omega) H (fun t169 H => ?_)
  refine nx_eq (bc' := bc + 5) (bs' := bs + 456) (by omega) (by omega) ?_
  refine nx_putR (f := 1389) (o := (some 0)) rfl rfl rfl (by decide) (by rw [hW]) rfl (by decide) H (fun t170 H => ?_)
  refine nx_ld rfl rfl rfl rfl ?_
  refine nx_int (x := (-1)) rfl rfl ?_
  refine nx_putI rfl rfl rfl (by decide) H (fun t171 H => ?_)
  refine nx_ld rfl rfl rfl rfl ?_
  refine nx_int (x := 24) rfl rfl ?_
  refine nx_newaL 3392 0 24 rfl rfl (Nat.le_of_ble_eq_true rfl) (Nat.le_of_ble_eq_true rfl) rfl rfl (by decide) (Nat.le_of_ble_eq_true rfl) (by omega) (by omega) H (fun t172 H => ?_)
  refine nx_eq (bc' := bc + 4) (bs' := bs + 432) (by omega) (by omega) ?_
  show nX _ _ _ _ _ _ 668 _ _ _ _ _
  refine nx_putR (f := 1392) (o := (some 0)) rfl rfl rfl (by decide) (by rw [hW]) rfl (by decide) H (fun t173 H => ?_)
  refine nx_ld rfl rfl rfl rfl ?_
  refine nx_int (x := 6) rfl rfl ?_
  refine nx_newaL 3393 0 6 rfl rfl (Nat.le_of_ble_eq_true rfl) (Nat.le_of_ble_eq_true rfl) rfl rfl (by decide) (Nat.le_of_ble_eq_true rfl) (by omega) (by omega) H (fun t174 H => ?_)
  refine nx_eq (bc' := bc + 3) (bs' := bs + 426) (by omega) (by omega) ?_
  refine nx_dup rfl rfl (Nat.ne_of_beq_eq_false rfl) ?_
  refine nx_int (x := 0) rfl rfl ?_
  refine nx_int (x := (-1)) rfl rfl ?_
  refine nx_iast (p := (3393, 0)) rfl rfl (Nat.le_of_ble_eq_true rfl) (Nat.le_of_ble_eq_true rfl) rfl H (fun t175 H => ?_)
  show nX _ _ _ _ _ _ 680 _ _ _ _ _
  refine nx_dup rfl rfl (Nat.ne_of_beq_eq_false rfl) ?_
  refine nx_int (x := 1) rfl rfl ?_
  refine nx_int (x := (-1)) rfl rfl ?_
  refine nx_iast (p := (3393, 0)) rfl rfl (Nat.le_of_ble_eq_true rfl) (Nat.le_of_ble_eq_true rfl) rfl H (fun t176 H => ?_)
  refine nx_dup rfl rfl (Nat.ne_of_beq_eq_false rfl) ?_
  refine nx_int (x := 2) rfl rfl ?_
  refine nx_int (x := (-1)) rfl rfl ?_
  refine nx_iast (p := (3393, 0)) rfl rfl (Nat.le_of_ble_eq_true rfl) (Nat.le_of_ble_eq_true rfl) rfl H (fun t177 H => ?_)
  show nX _ _ _ _ _ _ 688 _ _ _ _ _
  refine nx_dup rfl rfl (Nat.ne_of_beq_eq_false rfl) ?_
  refine nx_int (x := 3) rfl rfl ?_
  refine nx_int (x := (-1)) rfl rfl ?_
  refine nx_iast (p := (3393, 0)) rfl rfl (Nat.le_of_ble_eq_true rfl) (Nat.le_of_ble_eq_true rfl) rfl H (fun t178 H => ?_)
  refine nx_dup rfl rfl (Nat.ne_of_beq_eq_false rfl) ?_
  refine nx_int (x := 4) rfl rfl ?_
  refine nx_int (x := (-1)) rfl rfl ?_
  refine nx_iast (p := (3393, 0)) rfl rfl (Nat.le_of_ble_eq_true rfl) (Nat.le_of_ble_eq_true rfl) rfl H (fun t179 H => ?_)
  show nX _ _ _ _ _ _ 696 _ _ _ _ _
  refine nx_dup rfl rfl (Nat.ne_of_beq_eq_false rfl) ?_
  refine nx_int (x := 5) rfl rfl ?_
  refine nx_int (x := (-1)) rfl rfl ?_
  refine nx_iast (p := (3393, 0)) rfl rfl (Nat.le_of_ble_eq_true rfl) (Nat.le_of_ble_eq_true rfl) rfl H (fun t180 H => ?_)
  refine nx_putR (f := 1393) (o := (some 0)) rfl rfl rfl (by decide) (by rw [hW]) rfl (by decide) H (fun t181 H => ?_)
  refine nx_ld rfl rfl rfl rfl ?_
  refine nx_int (x := 6) rfl rfl ?_
  refine nx_newaL 3394 0 6 rfl rfl (Nat.le_of_ble_eq_true rfl) (Nat.le_of_ble_eq_true rfl) rfl rfl (by decide) (Nat.le_of_ble_eq_true rfl) (by omega) (by omega) H (fun t182 H => ?_)
  refine nx_eq (bc' := bc + 2) (bs' := bs + 420) (by omega) (by omega) ?_
  show nX _ _ _ _ _ _ 708 _ _ _ _ _
  refine nx_putR (f := 1394) (o := (some 0)) rfl rfl rfl (by decide) (by rw [hW]) rfl (by decide) H (fun t183 H => ?_)
  refine nx_ld rfl rfl rfl rfl ?_
  refine nx_int (x := 360) rfl rfl ?_
  refine nx_newaL 3395 0 360 rfl rfl (Nat.le_of_ble_eq_true rfl) (Nat.le_of_ble_eq_true rfl) rfl rfl (by decide) (Nat.le_of_ble_eq_true rfl) (by omega) (by omega) H (fun t184 H => ?_)
  refine nx_eq (bc' := bc + 1) (bs' := bs + 60) (by omega) (by omega) ?_
  refine nx_putR (f := 1395) (o := (some 0)) rfl rfl rfl (by decide) (by rw [hW]) rfl (by decide) H (fun t185 H => ?_)
  refine nx_ld rfl rfl rfl rfl ?_
  refine nx_int (x := 60) rfl rfl ?_
  refine nx_newaL 3396 0 60 rfl rfl (Nat.le_of_ble_eq_true rfl) (Nat.le_of_ble_eq_true rfl) rfl rfl (by decide) (Nat.le_of_ble_eq_true rfl) (by omega) (by omega) H (fun t186 H => ?_)
  refine nx_eq (bc' := bc) (bs' := bs) (by omega) (by omega) ?_
  show nX _ _ _ _ _ _ 725 _ _ _ _ _
  refine nx_putR (f := 1396) (o := (some 0)) rfl rfl rfl (by decide) (by rw [hW]) rfl (by decide) H (fun t187 H => ?_)
  exact nx_rv rfl rfl H
def F_X13_in (t : TS) (x1 : Int32) (x2 : Int32) (x3 : Int32) : Option Int32 := (if x1 < x2 then (some (0)) else (if x3 < x1 then (some (0)) else (some (1))))
theorem TF_X13_in {W : NW} {d : Nat} {t : TS} {x1 : Int32} {x2 : Int32} {x3 : Int32} {Q : Option NV → TS → Prop} {bc bs : Nat} (hW : W.2.2.2 = mm_fx) (H : wp (F_X13_in t x1 x2 x3) (fun r => Q (some (eI r)) t)) : nC W (d + 1) 155 [eI x1, eI x2, eI x3] t bc bs Q := by
  refine nC_in (d := d) (T := tX13_in) (ls := [some (eI x1), some (eI x2), some (eI x3)]) rfl (Nat.le_of_ble_eq_true rfl) rfl (fun a0 e0 => ?_)
  unfold F_X13_in at H
  refine nx_ld rfl rfl rfl rfl ?_
  refine nx_ld rfl rfl rfl rfl ?_
  refine nx_icmp rfl rfl (by rfl) H (fun H => ?_) (fun H => ?_)
  · refine nx_int (x := 0) rfl rfl ?_
    exact nx_rzl rfl rfl (by decide) H
  refine nx_ld rfl rfl rfl rfl ?_
  refine nx_ld rfl rfl rfl rfl ?_
  refine nx_icmp rfl rfl (by rfl) H (fun H => ?_) (fun H => ?_)
  · refine nx_int (x := 0) rfl rfl ?_
    exact nx_rzl rfl rfl (by decide) H
  refine nx_int (x := 1) rfl rfl ?_
  refine nx_goto rfl rfl ?_
  exact nx_rzl rfl rfl (by decide) H
def F_X13_isDay (t : TS) (x1 : Int32) : Option Int32 := (Option.bind (F_X13_in t x1 0 2999) (fun r21 => (gb r21 (some (r21)))))
theorem TF_X13_isDay {W : NW} {d : Nat} {t : TS} {x1 : Int32} {Q : Option NV → TS → Prop} {bc bs : Nat} (hW : W.2.2.2 = mm_fx) (H : wp (F_X13_isDay t x1) (fun r => Q (some (eI r)) t)) : nC W (d + 2) 156 [eI x1] t bc bs Q := by
  refine nC_in (d := (d + 1)) (T := tX13_isDay) (ls := [some (eI x1)]) rfl (Nat.le_of_ble_eq_true rfl) rfl (fun a0 e0 => ?_)
  unfold F_X13_isDay at H
  refine nx_ld rfl rfl rfl rfl ?_
  refine nx_int (x := 0) rfl rfl ?_
  refine nx_int (x := 2999) rfl rfl ?_
  refine nx_cSI (as := [eI x1, eI 0, eI 2999]) (st' := []) rfl rfl (Nat.le_of_ble_eq_true rfl) rfl rfl (Nat.le_of_ble_eq_true rfl) H (fun Q H => TF_X13_in hW  H) (fun r21 H => ?_)
  exact nx_rz rfl rfl H
def F_X13_days (t : TS) (x1 : Int32) : Option (Int32 × TS) := (Option.bind (F_X13_in t x1 1 300) (fun r21 => (if r21 = 0 then (some ((-1), t)) else (if ((tI t 1301 0) + x1) ≤ 2999 then (nxt (uI t 1301 0 ((tI t 1301 0) + x1)) (fun t22 => (nxt (uI t22 1302 0 0) (fun t23 => (some ((tI t23 1301 0), t23)))))) else (some ((-1), t))))))
theorem TF_X13_days {W : NW} {d : Nat} {t : TS} {x1 : Int32} {Q : Option NV → TS → Prop} {bc bs : Nat} (hW : W.2.2.2 = mm_fx) (H : wp (F_X13_days t x1) (fun r => Q (some (eI r.1)) r.2)) : nC W (d + 2) 157 [eR (some (13, 0)), eI x1] t bc bs Q := by
  refine nC_in (d := (d + 1)) (T := tX13_days) (ls := [some (eR (some (13, 0))), some (eI x1)]) rfl (Nat.le_of_ble_eq_true rfl) rfl (fun a0 e0 => ?_)
  unfold F_X13_days at H
  refine nx_ld rfl rfl rfl rfl ?_
  refine nx_int (x := 1) rfl rfl ?_
  refine nx_int (x := 300) rfl rfl ?_
  refine nx_cSI (as := [eI x1, eI 1, eI 300]) (st' := []) rfl rfl (Nat.le_of_ble_eq_true rfl) rfl rfl (Nat.le_of_ble_eq_true rfl) H (fun Q H => TF_X13_in hW  H) (fun r21 H => ?_)
  refine nx_if rfl rfl (by rfl) H (fun H => ?_) (fun H => ?_)
  · refine nx_int (x := (-1)) rfl rfl ?_
    exact nx_rit rfl rfl H
  refine nx_ld rfl rfl rfl rfl ?_
  refine nx_getI rfl rfl rfl (by decide) ?_
  refine nx_ld rfl rfl rfl rfl ?_
  refine nx_ii rfl rfl ?_
  refine nx_int (x := 2999) rfl rfl ?_
  refine nx_icmp rfl rfl (by rfl) H (fun H => ?_) (fun H => ?_)
  · refine nx_ld rfl rfl rfl rfl ?_
    refine nx_dup rfl rfl (Nat.ne_of_beq_eq_false rfl) ?_
    refine nx_getI rfl rfl rfl (by decide) ?_
    refine nx_ld rfl rfl rfl rfl ?_
    refine nx_ii rfl rfl ?_
    refine nx_putI rfl rfl rfl (by decide) H (fun t22 H => ?_)
    refine nx_ld rfl rfl rfl rfl ?_
    show nX _ _ _ _ _ _ 36 _ _ _ _ _
    refine nx_int (x := 0) rfl rfl ?_
    refine nx_putI rfl rfl rfl (by decide) H (fun t23 H => ?_)
    refine nx_ld rfl rfl rfl rfl ?_
    refine nx_getI rfl rfl rfl (by decide) ?_
    exact nx_rit rfl rfl H
  refine nx_int (x := (-1)) rfl rfl ?_
  exact nx_rit rfl rfl H
def F_X13_minute (t : TS) (x1 : Int32) : Option (Int32 × TS) := (Option.bind (F_X13_in t x1 (tI t 1302 0) 1439) (fun r21 => (if ¬ r21 = 0 then (nxt (uI t 1302 0 x1) (fun t22 => (some ((tI t 1302 0), t22)))) else (some ((-1), t)))))
theorem TF_X13_minute {W : NW} {d : Nat} {t : TS} {x1 : Int32} {Q : Option NV → TS → Prop} {bc bs : Nat} (hW : W.2.2.2 = mm_fx) (H : wp (F_X13_minute t x1) (fun r => Q (some (eI r.1)) r.2)) : nC W (d + 2) 158 [eR (some (13, 0)), eI x1] t bc bs Q := by
  refine nC_in (d := (d + 1)) (T := tX13_minute) (ls := [some (eR (some (13, 0))), some (eI x1), none]) rfl (Nat.le_of_ble_eq_true rfl) rfl (fun a0 e0 => ?_)
  unfold F_X13_minute at H
  refine nx_ld rfl rfl rfl rfl ?_
  refine nx_ld rfl rfl rfl rfl ?_
  refine nx_getI rfl rfl rfl (by decide) ?_
  refine nx_int (x := 1439) rfl rfl ?_
  refine nx_cSI (as := [eI x1, eI (tI t 1302 0), eI 1439]) (st' := []) rfl rfl (Nat.le_of_ble_eq_true rfl) rfl rfl (Nat.le_of_ble_eq_true rfl) H (fun Q H => TF_X13_in hW  H) (fun r21 H => ?_)
  refine nx_if rfl rfl (by rfl) H (fun H => ?_) (fun H => ?_)
  · refine nx_ld rfl rfl rfl rfl ?_
    refine nx_getI rfl rfl rfl (by decide) ?_
    refine nx_st (ls' := [some (eR (some (13, 0))), some (eI x1), some (eI (tI t 1302 0))]) rfl rfl rfl (Nat.le_of_ble_eq_true rfl) rfl ?_
    refine nx_ld rfl rfl rfl rfl ?_
    refine nx_ld rfl rfl rfl rfl ?_
    refine nx_putI rfl rfl rfl (by decide) H (fun t22 H => ?_)
    refine nx_ld rfl rfl rfl rfl ?_
    show nX _ _ _ _ _ _ 27 _ _ _ _ _
    exact nx_rit rfl rfl H
  refine nx_int (x := (-1)) rfl rfl ?_
  exact nx_rit rfl rfl H
def F_X13_isLeague (t : TS) (x1 : Int32) : Option Int32 := (Option.bind (F_X13_in t x1 0 3) (fun r21 => (gb r21 (some (r21)))))
theorem TF_X13_isLeague {W : NW} {d : Nat} {t : TS} {x1 : Int32} {Q : Option NV → TS → Prop} {bc bs : Nat} (hW : W.2.2.2 = mm_fx) (H : wp (F_X13_isLeague t x1) (fun r => Q (some (eI r)) t)) : nC W (d + 2) 159 [eI x1] t bc bs Q := by
  refine nC_in (d := (d + 1)) (T := tX13_isLeague) (ls := [some (eI x1)]) rfl (Nat.le_of_ble_eq_true rfl) rfl (fun a0 e0 => ?_)
  unfold F_X13_isLeague at H
  refine nx_ld rfl rfl rfl rfl ?_
  refine nx_int (x := 0) rfl rfl ?_
  refine nx_int (x := 3) rfl rfl ?_
  refine nx_cSI (as := [eI x1, eI 0, eI 3]) (st' := []) rfl rfl (Nat.le_of_ble_eq_true rfl) rfl rfl (Nat.le_of_ble_eq_true rfl) H (fun Q H => TF_X13_in hW  H) (fun r21 H => ?_)
  exact nx_rz rfl rfl H
def F_X13_window (t : TS) (x1 : Int32) (x2 : Int32) (x3 : Int32) : Option (Int32 × TS) := (Option.bind (F_X13_isLeague t x1) (fun r21 => (if r21 = 0 then (some ((-1), t)) else (Option.bind (F_X13_isDay t x2) (fun r22 => (if r22 = 0 then (some ((-1), t)) else (Option.bind (F_X13_in t x3 x2 2999) (fun r23 => (if ¬ r23 = 0 then (gd x1 (tL t 3303 0) (if ¬ (tA t 3303 0 x1.toNatClampNeg) = 6 then (gd x1 (tL t 3303 0) (gd ((6 * x1) + (tA t 3303 0 x1.toNatClampNeg)) (tL t 3304 0) (nxt (uA t 3304 0 ((6 * x1) + (tA t 3303 0 x1.toNatClampNeg)).toNatClampNeg x2) (fun t24 => (gd x1 (tL t24 3303 0) (gd ((6 * x1) + (tA t24 3303 0 x1.toNatClampNeg)) (tL t24 3305 0) (nxt (uA t24 3305 0 ((6 * x1) + (tA t24 3303 0 x1.toNatClampNeg)).toNatClampNeg x3) (fun t25 => (gd x1 (tL t25 3303 0) (gd x1 (tL t25 3303 0) (nxt (uA t25 3303 0 x1.toNatClampNeg ((tA t25 3303 0 x1.toNatClampNeg) + 1)) (fun t26 => (gd x1 (tL t26 3303 0) (some ((tA t26 3303 0 x1.toNatClampNeg), t26))))))))))))))) else (some ((-3), t)))) else (some ((-1), t)))))))))))
theorem TF_X13_window {W : NW} {d : Nat} {t : TS} {x1 : Int32} {x2 : Int32} {x3 : Int32} {Q : Option NV → TS → Prop} {bc bs : Nat} (hW : W.2.2.2 = mm_fx) (H : wp (F_X13_window t x1 x2 x3) (fun r => Q (some (eI r.1)) r.2)) : nC W (d + 3) 160 [eR (some (13, 0)), eI x1, eI x2, eI x3] t bc bs Q := by
  refine nC_in (d := (d + 2)) (T := tX13_window) (ls := [some (eR (some (13, 0))), some (eI x1), some (eI x2), some (eI x3)]) rfl (Nat.le_of_ble_eq_true rfl) rfl (fun a0 e0 => ?_)
  unfold F_X13_window at H
  refine nx_ld rfl rfl rfl rfl ?_
  refine nx_cSI (as := [eI x1]) (st' := []) rfl rfl (Nat.le_of_ble_eq_true rfl) rfl rfl (Nat.le_of_ble_eq_true rfl) H (fun Q H => TF_X13_isLeague hW  H) (fun r21 H => ?_)
  refine nx_if rfl rfl (by rfl) H (fun H => ?_) (fun H => ?_)
  · refine nx_int (x := (-1)) rfl rfl ?_
    exact nx_rit rfl rfl H
  refine nx_ld rfl rfl rfl rfl ?_
  refine nx_cSI (as := [eI x2]) (st' := []) rfl rfl (Nat.le_of_ble_eq_true rfl) rfl rfl (Nat.le_of_ble_eq_true rfl) H (fun Q H => TF_X13_isDay hW  H) (fun r22 H => ?_)
  refine nx_if rfl rfl (by rfl) H (fun H => ?_) (fun H => ?_)
  · refine nx_int (x := (-1)) rfl rfl ?_
    exact nx_rit rfl rfl H
  refine nx_ld rfl rfl rfl rfl ?_
  refine nx_ld rfl rfl rfl rfl ?_
  refine nx_int (x := 2999) rfl rfl ?_
  refine nx_cSI (as := [eI x3, eI x2, eI 2999]) (st' := []) rfl rfl (Nat.le_of_ble_eq_true rfl) rfl rfl (Nat.le_of_ble_eq_true rfl) H (fun Q H => TF_X13_in hW  H) (fun r23 H => ?_)
  refine nx_if rfl rfl (by rfl) H (fun H => ?_) (fun H => ?_)
  · refine nx_ld rfl rfl rfl rfl ?_
    refine nx_getFix rfl rfl rfl (by decide) (by rw [hW]; rfl) rfl ?_
    refine nx_ld rfl rfl rfl rfl ?_
    refine nx_iald (p := (3303, 0)) rfl rfl (Nat.le_of_ble_eq_true rfl) (Nat.le_of_ble_eq_true rfl) rfl H (fun H => ?_)
    refine nx_int (x := 6) rfl rfl ?_
    refine nx_icmp rfl rfl (by rfl) H (fun H => ?_) (fun H => ?_)
    · refine nx_ld rfl rfl rfl rfl ?_
      refine nx_getFix rfl rfl rfl (by decide) (by rw [hW]; rfl) rfl ?_
      refine nx_int (x := 6) rfl rfl ?_
      refine nx_ld rfl rfl rfl rfl ?_
      refine nx_ii rfl rfl ?_
      refine nx_ld rfl rfl rfl rfl ?_
      refine nx_getFix rfl rfl rfl (by decide) (by rw [hW]; rfl) rfl ?_
      show nX _ _ _ _ _ _ 53 _ _ _ _ _
      refine nx_ld rfl rfl rfl rfl ?_
      refine nx_iald (p := (3303, 0)) rfl rfl (Nat.le_of_ble_eq_true rfl) (Nat.le_of_ble_eq_true rfl) rfl H (fun H => ?_)
      refine nx_ii rfl rfl ?_
      refine nx_ld rfl rfl rfl rfl ?_
      refine nx_iast (p := (3304, 0)) rfl rfl (Nat.le_of_ble_eq_true rfl) (Nat.le_of_ble_eq_true rfl) rfl H (fun t24 H => ?_)
      refine nx_ld rfl rfl rfl rfl ?_
      refine nx_getFix rfl rfl rfl (by decide) (by rw [hW]; rfl) rfl ?_
      refine nx_int (x := 6) rfl rfl ?_
      show nX _ _ _ _ _ _ 64 _ _ _ _ _
      refine nx_ld rfl rfl rfl rfl ?_
      refine nx_ii rfl rfl ?_
      refine nx_ld rfl rfl rfl rfl ?_
      refine nx_getFix rfl rfl rfl (by decide) (by rw [hW]; rfl) rfl ?_
      refine nx_ld rfl rfl rfl rfl ?_
      refine nx_iald (p := (3303, 0)) rfl rfl (Nat.le_of_ble_eq_true rfl) (Nat.le_of_ble_eq_true rfl) rfl H (fun H => ?_)
      refine nx_ii rfl rfl ?_
      refine nx_ld rfl rfl rfl rfl ?_
      show nX _ _ _ _ _ _ 74 _ _ _ _ _
      refine nx_iast (p := (3305, 0)) rfl rfl (Nat.le_of_ble_eq_true rfl) (Nat.le_of_ble_eq_true rfl) rfl H (fun t25 H => ?_)
      refine nx_ld rfl rfl rfl rfl ?_
      refine nx_getFix rfl rfl rfl (by decide) (by rw [hW]; rfl) rfl ?_
      refine nx_ld rfl rfl rfl rfl ?_
      refine nx_dup2 rfl rfl (Nat.ne_of_beq_eq_false rfl) (Nat.ne_of_beq_eq_false rfl) ?_
      refine nx_iald (p := (3303, 0)) rfl rfl (Nat.le_of_ble_eq_true rfl) (Nat.le_of_ble_eq_true rfl) rfl H (fun H => ?_)
      refine nx_int (x := 1) rfl rfl ?_
      refine nx_ii rfl rfl ?_
      show nX _ _ _ _ _ _ 84 _ _ _ _ _
      refine nx_iast (p := (3303, 0)) rfl rfl (Nat.le_of_ble_eq_true rfl) (Nat.le_of_ble_eq_true rfl) rfl H (fun t26 H => ?_)
      refine nx_ld rfl rfl rfl rfl ?_
      refine nx_getFix rfl rfl rfl (by decide) (by rw [hW]; rfl) rfl ?_
      refine nx_ld rfl rfl rfl rfl ?_
      refine nx_iald (p := (3303, 0)) rfl rfl (Nat.le_of_ble_eq_true rfl) (Nat.le_of_ble_eq_true rfl) rfl H (fun H => ?_)
      exact nx_rit rfl rfl H
    refine nx_int (x := (-3)) rfl rfl ?_
    exact nx_rit rfl rfl H
  refine nx_int (x := (-1)) rfl rfl ?_
  exact nx_rit rfl rfl H
def BB_X13_isOpen_5 (k5 : TS → Int32 → Int32 → Int32 → Option Int32) (t : TS) (v1 : Int32) (v2 : Int32) (v3 : Int32) : Option Int32 := (gd v1 (tL t 3303 0) (if ((6 * v1) + (tA t 3303 0 v1.toNatClampNeg)) ≤ v3 then (some (0)) else (gd v3 (tL t 3304 0) (gd v3 (tL t 3305 0) (Option.bind (F_X13_in t v2 (tA t 3304 0 v3.toNatClampNeg) (tA t 3305 0 v3.toNatClampNeg)) (fun r21 => (if r21 = 0 then (k5 t v1 v2 (v3 + 1)) else (some (1)))))))))
theorem TBB_X13_isOpen_5 {W : NW} {d : Nat} {Q : Option NV → TS → Prop} {a0 : Nat → Nat → Nat} {e0 : Nat → Nat → Bool} {t : TS} {k5 : TS → Int32 → Int32 → Int32 → Option Int32} {bc bs : Nat} (hW : W.2.2.2 = mm_fx) (hk5 : ∀ (v1 : Int32) (v2 : Int32) (v3 : Int32), wp (k5 t v1 v2 v3) (fun r => Q (some (eI r)) t) → nX W (d + 1) tX13_isOpen Q a0 e0 5 [some (eR (some (13, 0))), some (eI v1), some (eI v2), some (eI v3)] [] t bc bs) : ∀ (v1 : Int32) (v2 : Int32) (v3 : Int32), wp (BB_X13_isOpen_5 k5 t v1 v2 v3) (fun r => Q (some (eI r)) t) → nX W (d + 1) tX13_isOpen Q a0 e0 5 [some (eR (some (13, 0))), some (eI v1), some (eI v2), some (eI v3)] [] t bc bs := by
  intro v1 v2 v3 H
  unfold BB_X13_isOpen_5 at H
  refine nx_ld rfl rfl rfl rfl ?_
  refine nx_int (x := 6) rfl rfl ?_
  refine nx_ld rfl rfl rfl rfl ?_
  refine nx_ii rfl rfl ?_
  refine nx_ld rfl rfl rfl rfl ?_
  refine nx_getFix rfl rfl rfl (by decide) (by rw [hW]; rfl) rfl ?_
  refine nx_ld rfl rfl rfl rfl ?_
  show nX _ _ _ _ _ _ 15 _ _ _ _ _
  refine nx_iald (p := (3303, 0)) rfl rfl (Nat.le_of_ble_eq_true rfl) (Nat.le_of_ble_eq_true rfl) rfl H (fun H => ?_)
  refine nx_ii rfl rfl ?_
  refine nx_icmp rfl rfl (by rfl) H (fun H => ?_) (fun H => ?_)
  · refine nx_int (x := 0) rfl rfl ?_
    exact nx_rzl rfl rfl (by decide) H
  refine nx_ld rfl rfl rfl rfl ?_
  refine nx_ld rfl rfl rfl rfl ?_
  refine nx_getFix rfl rfl rfl (by decide) (by rw [hW]; rfl) rfl ?_
  refine nx_ld rfl rfl rfl rfl ?_
  refine nx_iald (p := (3304, 0)) rfl rfl (Nat.le_of_ble_eq_true rfl) (Nat.le_of_ble_eq_true rfl) rfl H (fun H => ?_)
  refine nx_ld rfl rfl rfl rfl ?_
  refine nx_getFix rfl rfl rfl (by decide) (by rw [hW]; rfl) rfl ?_
  show nX _ _ _ _ _ _ 31 _ _ _ _ _
  refine nx_ld rfl rfl rfl rfl ?_
  refine nx_iald (p := (3305, 0)) rfl rfl (Nat.le_of_ble_eq_true rfl) (Nat.le_of_ble_eq_true rfl) rfl H (fun H => ?_)
  refine nx_cSI (as := [eI v2, eI (tA t 3304 0 v3.toNatClampNeg), eI (tA t 3305 0 v3.toNatClampNeg)]) (st' := []) rfl rfl (Nat.le_of_ble_eq_true rfl) rfl rfl (Nat.le_of_ble_eq_true rfl) H (fun Q H => TF_X13_in hW  H) (fun r21 H => ?_)
  refine nx_if rfl rfl (by rfl) H (fun H => ?_) (fun H => ?_)
  · refine nx_iinc2 1 (ls' := [some (eR (some (13, 0))), some (eI v1), some (eI v2), some (eI (v3 + 1))]) rfl rfl rfl rfl rfl ?_
    refine nx_goto rfl rfl ?_
    exact hk5 _ _ _ H
  refine nx_int (x := 1) rfl rfl ?_
  exact nx_rzl rfl rfl (by decide) H
def B_X13_isOpen_5 : Nat → TS → Int32 → Int32 → Int32 → Option Int32
  | 0 => fun _ _ _ _ => none
  | n + 1 => fun t v1 v2 v3 => BB_X13_isOpen_5 (B_X13_isOpen_5 n) t v1 v2 v3
theorem TB_X13_isOpen_5 {W : NW} {d : Nat} {Q : Option NV → TS → Prop} {a0 : Nat → Nat → Nat} {e0 : Nat → Nat → Bool} {t : TS} {bc bs : Nat} (hW : W.2.2.2 = mm_fx) : ∀ (n : Nat) (v1 : Int32) (v2 : Int32) (v3 : Int32), wp (B_X13_isOpen_5 n t v1 v2 v3) (fun r => Q (some (eI r)) t) → nX W (d + 1) tX13_isOpen Q a0 e0 5 [some (eR (some (13, 0))), some (eI v1), some (eI v2), some (eI v3)] [] t bc bs := by
  intro n
  induction n with
  | zero => intro v1 v2 v3 H; exact (wp_none H).elim
  | succ n ih =>
    intro v1 v2 v3 H
    exact TBB_X13_isOpen_5 hW    ih v1 v2 v3 H
def F_X13_isOpen (t : TS) (x1 : Int32) (x2 : Int32) : Option Int32 := (B_X13_isOpen_5  10000 t x1 x2 (6 * x1))
theorem TF_X13_isOpen {W : NW} {d : Nat} {t : TS} {x1 : Int32} {x2 : Int32} {Q : Option NV → TS → Prop} {bc bs : Nat} (hW : W.2.2.2 = mm_fx) (H : wp (F_X13_isOpen t x1 x2) (fun r => Q (some (eI r)) t)) : nC W (d + 2) 161 [eR (some (13, 0)), eI x1, eI x2] t bc bs Q := by
  refine nC_in (d := (d + 1)) (T := tX13_isOpen) (ls := [some (eR (some (13, 0))), some (eI x1), some (eI x2), none]) rfl (Nat.le_of_ble_eq_true rfl) rfl (fun a0 e0 => ?_)
  unfold F_X13_isOpen at H
  refine nx_int (x := 6) rfl rfl ?_
  refine nx_ld rfl rfl rfl rfl ?_
  refine nx_ii rfl rfl ?_
  refine nx_st (ls' := [some (eR (some (13, 0))), some (eI x1), some (eI x2), some (eI (6 * x1))]) rfl rfl rfl (Nat.le_of_ble_eq_true rfl) rfl ?_
  exact TB_X13_isOpen_5 hW    10000 _ _ _ H
def B_X13_open_14 (t : TS) : Option Int32 := (some ((-1)))
theorem TB_X13_open_14 {W : NW} {d : Nat} {Q : Option NV → TS → Prop} {a0 : Nat → Nat → Nat} {e0 : Nat → Nat → Bool} {t : TS} {bc bs : Nat} (hW : W.2.2.2 = mm_fx) : ∀ (v1 : Int32) (v2 : Int32), wp (B_X13_open_14 t) (fun r => Q (some (eI r)) t) → nX W (d + 2) tX13_open Q a0 e0 14 [some (eR (some (13, 0))), some (eI v1), some (eI v2)] [] t bc bs := by
  intro v1 v2 H
  unfold B_X13_open_14 at H
  refine nx_int (x := (-1)) rfl rfl ?_
  refine nx_goto rfl rfl ?_
  exact nx_ri rfl rfl H
def F_X13_open (t : TS) (x1 : Int32) (x2 : Int32) : Option Int32 := (Option.bind (F_X13_isLeague t x1) (fun r21 => (if r21 = 0 then (B_X13_open_14  t) else (Option.bind (F_X13_isDay t x2) (fun r22 => (if ¬ r22 = 0 then (Option.bind (F_X13_isOpen t x1 x2) (fun r23 => (if r23 = 0 then (some (0)) else (some (1))))) else (B_X13_open_14  t)))))))
theorem TF_X13_open {W : NW} {d : Nat} {t : TS} {x1 : Int32} {x2 : Int32} {Q : Option NV → TS → Prop} {bc bs : Nat} (hW : W.2.2.2 = mm_fx) (H : wp (F_X13_open t x1 x2) (fun r => Q (some (eI r)) t)) : nC W (d + 3) 162 [eR (some (13, 0)), eI x1, eI x2] t bc bs Q := by
  refine nC_in (d := (d + 2)) (T := tX13_open) (ls := [some (eR (some (13, 0))), some (eI x1), some (eI x2)]) rfl (Nat.le_of_ble_eq_true rfl) rfl (fun a0 e0 => ?_)
  unfold F_X13_open at H
  refine nx_ld rfl rfl rfl rfl ?_
  refine nx_cSI (as := [eI x1]) (st' := []) rfl rfl (Nat.le_of_ble_eq_true rfl) rfl rfl (Nat.le_of_ble_eq_true rfl) H (fun Q H => TF_X13_isLeague hW  H) (fun r21 H => ?_)
  refine nx_if rfl rfl (by rfl) H (fun H => ?_) (fun H => ?_)
  · exact TB_X13_open_14 hW    _ _ H
  refine nx_ld rfl rfl rfl rfl ?_
  refine nx_cSI (as := [eI x2]) (st' := []) rfl rfl (Nat.le_of_ble_eq_true rfl) rfl rfl (Nat.le_of_ble_eq_true rfl) H (fun Q H => TF_X13_isDay hW  H) (fun r22 H => ?_)
  refine nx_if rfl rfl (by rfl) H (fun H => ?_) (fun H => ?_)
  · refine nx_ld rfl rfl rfl rfl ?_
    refine nx_ld rfl rfl rfl rfl ?_
    refine nx_ld rfl rfl rfl rfl ?_
    refine nx_cVI (as := [eI x1, eI x2]) (st' := []) rfl rfl (Nat.le_of_ble_eq_true rfl) rfl rfl (Nat.le_of_ble_eq_true rfl) (c0 := 13) rfl (by decide) H (fun Q H => TF_X13_isOpen hW  H) (fun r23 H => ?_)
    refine nx_if rfl rfl (by rfl) H (fun H => ?_) (fun H => ?_)
    · refine nx_int (x := 0) rfl rfl ?_
      exact nx_ri rfl rfl H
    refine nx_int (x := 1) rfl rfl ?_
    refine nx_goto rfl rfl ?_
    exact nx_ri rfl rfl H
  exact TB_X13_open_14 hW    _ _ H
def F_X13_papers (t : TS) (x1 : Int32) (x2 : Int32) : Option (Int32 × TS) := (Option.bind (F_X13_isLeague t x1) (fun r21 => (if r21 = 0 then (some ((-1), t)) else (Option.bind (F_X13_in t x2 0 1439) (fun r22 => (if ¬ r22 = 0 then (gd x1 (tL t 3306 0) (gd x1 (tL t 3306 0) (nxt (uA t 3306 0 x1.toNatClampNeg x2) (fun t23 => (some ((tA t 3306 0 x1.toNatClampNeg), t23)))))) else (some ((-1), t))))))))
theorem TF_X13_papers {W : NW} {d : Nat} {t : TS} {x1 : Int32} {x2 : Int32} {Q : Option NV → TS → Prop} {bc bs : Nat} (hW : W.2.2.2 = mm_fx) (H : wp (F_X13_papers t x1 x2) (fun r => Q (some (eI r.1)) r.2)) : nC W (d + 3) 163 [eR (some (13, 0)), eI x1, eI x2] t bc bs Q := by
  refine nC_in (d := (d + 2)) (T := tX13_papers) (ls := [some (eR (some (13, 0))), some (eI x1), some (eI x2), none]) rfl (Nat.le_of_ble_eq_true rfl) rfl (fun a0 e0 => ?_)
  unfold F_X13_papers at H
  refine nx_ld rfl rfl rfl rfl ?_
  refine nx_cSI (as := [eI x1]) (st' := []) rfl rfl (Nat.le_of_ble_eq_true rfl) rfl rfl (Nat.le_of_ble_eq_true rfl) H (fun Q H => TF_X13_isLeague hW  H) (fun r21 H => ?_)
  refine nx_if rfl rfl (by rfl) H (fun H => ?_) (fun H => ?_)
  · refine nx_int (x := (-1)) rfl rfl ?_
    exact nx_rit rfl rfl H
  refine nx_ld rfl rfl rfl rfl ?_
  refine nx_int (x := 0) rfl rfl ?_
  refine nx_int (x := 1439) rfl rfl ?_
  refine nx_cSI (as := [eI x2, eI 0, eI 1439]) (st' := []) rfl rfl (Nat.le_of_ble_eq_true rfl) rfl rfl (Nat.le_of_ble_eq_true rfl) H (fun Q H => TF_X13_in hW  H) (fun r22 H => ?_)
  refine nx_if rfl rfl (by rfl) H (fun H => ?_) (fun H => ?_)
  · refine nx_ld rfl rfl rfl rfl ?_
    refine nx_getFix rfl rfl rfl (by decide) (by rw [hW]; rfl) rfl ?_
    refine nx_ld rfl rfl rfl rfl ?_
    refine nx_iald (p := (3306, 0)) rfl rfl (Nat.le_of_ble_eq_true rfl) (Nat.le_of_ble_eq_true rfl) rfl H (fun H => ?_)
    refine nx_st (ls' := [some (eR (some (13, 0))), some (eI x1), some (eI x2), some (eI (tA t 3306 0 x1.toNatClampNeg))]) rfl rfl rfl (Nat.le_of_ble_eq_true rfl) rfl ?_
    refine nx_ld rfl rfl rfl rfl ?_
    refine nx_getFix rfl rfl rfl (by decide) (by rw [hW]; rfl) rfl ?_
    show nX _ _ _ _ _ _ 31 _ _ _ _ _
    refine nx_ld rfl rfl rfl rfl ?_
    refine nx_ld rfl rfl rfl rfl ?_
    refine nx_iast (p := (3306, 0)) rfl rfl (Nat.le_of_ble_eq_true rfl) (Nat.le_of_ble_eq_true rfl) rfl H (fun t23 H => ?_)
    refine nx_ld rfl rfl rfl rfl ?_
    exact nx_rit rfl rfl H
  refine nx_int (x := (-1)) rfl rfl ?_
  exact nx_rit rfl rfl H
def F_X13_isBody (t : TS) (x1 : Int32) : Option Int32 := (Option.bind (F_X13_in t x1 0 ((tI t 1307 0) - 1)) (fun r21 => (gb r21 (some (r21)))))
theorem TF_X13_isBody {W : NW} {d : Nat} {t : TS} {x1 : Int32} {Q : Option NV → TS → Prop} {bc bs : Nat} (hW : W.2.2.2 = mm_fx) (H : wp (F_X13_isBody t x1) (fun r => Q (some (eI r)) t)) : nC W (d + 2) 164 [eR (some (13, 0)), eI x1] t bc bs Q := by
  refine nC_in (d := (d + 1)) (T := tX13_isBody) (ls := [some (eR (some (13, 0))), some (eI x1)]) rfl (Nat.le_of_ble_eq_true rfl) rfl (fun a0 e0 => ?_)
  unfold F_X13_isBody at H
  refine nx_ld rfl rfl rfl rfl ?_
  refine nx_int (x := 0) rfl rfl ?_
  refine nx_ld rfl rfl rfl rfl ?_
  refine nx_getI rfl rfl rfl (by decide) ?_
  refine nx_int (x := 1) rfl rfl ?_
  refine nx_ii rfl rfl ?_
  refine nx_cSI (as := [eI x1, eI 0, eI ((tI t 1307 0) - 1)]) (st' := []) rfl rfl (Nat.le_of_ble_eq_true rfl) rfl rfl (Nat.le_of_ble_eq_true rfl) H (fun Q H => TF_X13_in hW  H) (fun r21 H => ?_)
  show nX _ _ _ _ _ _ 11 _ _ _ _ _
  exact nx_rz rfl rfl H
def B_X13_isUnder_58 (t : TS) : Option Int32 := (some (1))
theorem TB_X13_isUnder_58 {W : NW} {d : Nat} {Q : Option NV → TS → Prop} {a0 : Nat → Nat → Nat} {e0 : Nat → Nat → Bool} {t : TS} {bc bs : Nat} (hW : W.2.2.2 = mm_fx) : ∀ (v0 : Int32) (v1 : Int32), wp (B_X13_isUnder_58 t) (fun r => Q (some (eI r)) t) → nX W d tX13_isUnder Q a0 e0 58 [some (eI v0), some (eI v1)] [] t bc bs := by
  intro v0 v1 H
  unfold B_X13_isUnder_58 at H
  refine nx_int (x := 1) rfl rfl ?_
  refine nx_goto rfl rfl ?_
  exact nx_rzl rfl rfl (by decide) H
def B_X13_isUnder_37 (t : TS) : Option Int32 := (some (1))
theorem TB_X13_isUnder_37 {W : NW} {d : Nat} {Q : Option NV → TS → Prop} {a0 : Nat → Nat → Nat} {e0 : Nat → Nat → Bool} {t : TS} {bc bs : Nat} (hW : W.2.2.2 = mm_fx) : ∀ (v0 : Int32) (v1 : Int32), wp (B_X13_isUnder_37 t) (fun r => Q (some (eI r)) t) → nX W d tX13_isUnder Q a0 e0 37 [some (eI v0), some (eI v1)] [] t bc bs := by
  intro v0 v1 H
  unfold B_X13_isUnder_37 at H
  refine nx_int (x := 1) rfl rfl ?_
  refine nx_goto rfl rfl ?_
  exact nx_rzl rfl rfl (by decide) H
def F_X13_isUnder (t : TS) (x1 : Int32) (x2 : Int32) : Option Int32 := (if x2 = 0 then (some (1)) else (if ¬ x1 = x2 then (if ¬ x2 = 1 then (if ¬ x2 = 2 then (if ¬ x2 = 5 then (some (0)) else (if ¬ x1 = 7 then (some (0)) else (some (1)))) else (if x1 = 3 then (B_X13_isUnder_58  t) else (if ¬ x1 = 4 then (some (0)) else (B_X13_isUnder_58  t)))) else (if x1 = 2 then (B_X13_isUnder_37  t) else (if x1 = 3 then (B_X13_isUnder_37  t) else (if x1 = 4 then (B_X13_isUnder_37  t) else (if ¬ x1 = 6 then (some (0)) else (B_X13_isUnder_37  t)))))) else (some (1))))
theorem TF_X13_isUnder {W : NW} {d : Nat} {t : TS} {x1 : Int32} {x2 : Int32} {Q : Option NV → TS → Prop} {bc bs : Nat} (hW : W.2.2.2 = mm_fx) (H : wp (F_X13_isUnder t x1 x2) (fun r => Q (some (eI r)) t)) : nC W (d + 1) 165 [eI x1, eI x2] t bc bs Q := by
  refine nC_in (d := d) (T := tX13_isUnder) (ls := [some (eI x1), some (eI x2)]) rfl (Nat.le_of_ble_eq_true rfl) rfl (fun a0 e0 => ?_)
  unfold F_X13_isUnder at H
  refine nx_ld rfl rfl rfl rfl ?_
  refine nx_if rfl rfl (by rfl) H (fun H => ?_) (fun H => ?_)
  · refine nx_int (x := 1) rfl rfl ?_
    exact nx_rzl rfl rfl (by decide) H
  refine nx_ld rfl rfl rfl rfl ?_
  refine nx_ld rfl rfl rfl rfl ?_
  refine nx_icmp rfl rfl (by rfl) H (fun H => ?_) (fun H => ?_)
  · refine nx_ld rfl rfl rfl rfl ?_
    refine nx_int (x := 1) rfl rfl ?_
    refine nx_icmp rfl rfl (by rfl) H (fun H => ?_) (fun H => ?_)
    · refine nx_ld rfl rfl rfl rfl ?_
      refine nx_int (x := 2) rfl rfl ?_
      refine nx_icmp rfl rfl (by rfl) H (fun H => ?_) (fun H => ?_)
      · refine nx_ld rfl rfl rfl rfl ?_
        refine nx_int (x := 5) rfl rfl ?_
        refine nx_icmp rfl rfl (by rfl) H (fun H => ?_) (fun H => ?_)
        · refine nx_int (x := 0) rfl rfl ?_
          exact nx_rzl rfl rfl (by decide) H
        refine nx_ld rfl rfl rfl rfl ?_
        refine nx_int (x := 7) rfl rfl ?_
        refine nx_icmp rfl rfl (by rfl) H (fun H => ?_) (fun H => ?_)
        · refine nx_int (x := 0) rfl rfl ?_
          exact nx_rzl rfl rfl (by decide) H
        refine nx_int (x := 1) rfl rfl ?_
        refine nx_goto rfl rfl ?_
        exact nx_rzl rfl rfl (by decide) H
      refine nx_ld rfl rfl rfl rfl ?_
      refine nx_int (x := 3) rfl rfl ?_
      refine nx_icmp rfl rfl (by rfl) H (fun H => ?_) (fun H => ?_)
      · exact TB_X13_isUnder_58 hW    _ _ H
      refine nx_ld rfl rfl rfl rfl ?_
      refine nx_int (x := 4) rfl rfl ?_
      refine nx_icmp rfl rfl (by rfl) H (fun H => ?_) (fun H => ?_)
      · refine nx_int (x := 0) rfl rfl ?_
        exact nx_rzl rfl rfl (by decide) H
      exact TB_X13_isUnder_58 hW    _ _ H
    refine nx_ld rfl rfl rfl rfl ?_
    refine nx_int (x := 2) rfl rfl ?_
    refine nx_icmp rfl rfl (by rfl) H (fun H => ?_) (fun H => ?_)
    · exact TB_X13_isUnder_37 hW    _ _ H
    refine nx_ld rfl rfl rfl rfl ?_
    refine nx_int (x := 3) rfl rfl ?_
    refine nx_icmp rfl rfl (by rfl) H (fun H => ?_) (fun H => ?_)
    · exact TB_X13_isUnder_37 hW    _ _ H
    refine nx_ld rfl rfl rfl rfl ?_
    refine nx_int (x := 4) rfl rfl ?_
    refine nx_icmp rfl rfl (by rfl) H (fun H => ?_) (fun H => ?_)
    · exact TB_X13_isUnder_37 hW    _ _ H
    refine nx_ld rfl rfl rfl rfl ?_
    refine nx_int (x := 6) rfl rfl ?_
    refine nx_icmp rfl rfl (by rfl) H (fun H => ?_) (fun H => ?_)
    · refine nx_int (x := 0) rfl rfl ?_
      exact nx_rzl rfl rfl (by decide) H
    exact TB_X13_isUnder_37 hW    _ _ H
  refine nx_int (x := 1) rfl rfl ?_
  exact nx_rzl rfl rfl (by decide) H
def F_X13_isClub (t : TS) (x1 : Int32) : Option Int32 := (Option.bind (F_X13_isBody t x1) (fun r21 => (if r21 = 0 then (some (0)) else (gd x1 (tL t 3308 0) (Option.bind (F_X13_isUnder t (tA t 3308 0 x1.toNatClampNeg) 5) (fun r22 => (if r22 = 0 then (some (0)) else (some (1)))))))))
theorem TF_X13_isClub {W : NW} {d : Nat} {t : TS} {x1 : Int32} {Q : Option NV → TS → Prop} {bc bs : Nat} (hW : W.2.2.2 = mm_fx) (H : wp (F_X13_isClub t x1) (fun r => Q (some (eI r)) t)) : nC W (d + 3) 166 [eR (some (13, 0)), eI x1] t bc bs Q := by
  refine nC_in (d := (d + 2)) (T := tX13_isClub) (ls := [some (eR (some (13, 0))), some (eI x1)]) rfl (Nat.le_of_ble_eq_true rfl) rfl (fun a0 e0 => ?_)
  unfold F_X13_isClub at H
  refine nx_ld rfl rfl rfl rfl ?_
  refine nx_ld rfl rfl rfl rfl ?_
  refine nx_cVI (as := [eI x1]) (st' := []) rfl rfl (Nat.le_of_ble_eq_true rfl) rfl rfl (Nat.le_of_ble_eq_true rfl) (c0 := 13) rfl (by decide) H (fun Q H => TF_X13_isBody hW  H) (fun r21 H => ?_)
  refine nx_if rfl rfl (by rfl) H (fun H => ?_) (fun H => ?_)
  · refine nx_int (x := 0) rfl rfl ?_
    exact nx_rzl rfl rfl (by decide) H
  refine nx_ld rfl rfl rfl rfl ?_
  refine nx_getFix rfl rfl rfl (by decide) (by rw [hW]; rfl) rfl ?_
  refine nx_ld rfl rfl rfl rfl ?_
  refine nx_iald (p := (3308, 0)) rfl rfl (Nat.le_of_ble_eq_true rfl) (Nat.le_of_ble_eq_true rfl) rfl H (fun H => ?_)
  refine nx_int (x := 5) rfl rfl ?_
  refine nx_cSI (as := [eI (tA t 3308 0 x1.toNatClampNeg), eI 5]) (st' := []) rfl rfl (Nat.le_of_ble_eq_true rfl) rfl rfl (Nat.le_of_ble_eq_true rfl) H (fun Q H => TF_X13_isUnder hW  H) (fun r22 H => ?_)
  refine nx_if rfl rfl (by rfl) H (fun H => ?_) (fun H => ?_)
  · refine nx_int (x := 0) rfl rfl ?_
    exact nx_rzl rfl rfl (by decide) H
  refine nx_int (x := 1) rfl rfl ?_
  refine nx_goto rfl rfl ?_
  exact nx_rzl rfl rfl (by decide) H
def F_X13_isPlayer (t : TS) (x1 : Int32) : Option Int32 := (Option.bind (F_X13_isBody t x1) (fun r21 => (if r21 = 0 then (some (0)) else (gd x1 (tL t 3308 0) (Option.bind (F_X13_isUnder t (tA t 3308 0 x1.toNatClampNeg) 2) (fun r22 => (if r22 = 0 then (some (0)) else (some (1)))))))))
theorem TF_X13_isPlayer {W : NW} {d : Nat} {t : TS} {x1 : Int32} {Q : Option NV → TS → Prop} {bc bs : Nat} (hW : W.2.2.2 = mm_fx) (H : wp (F_X13_isPlayer t x1) (fun r => Q (some (eI r)) t)) : nC W (d + 3) 167 [eR (some (13, 0)), eI x1] t bc bs Q := by
  refine nC_in (d := (d + 2)) (T := tX13_isPlayer) (ls := [some (eR (some (13, 0))), some (eI x1)]) rfl (Nat.le_of_ble_eq_true rfl) rfl (fun a0 e0 => ?_)
  unfold F_X13_isPlayer at H
  refine nx_ld rfl rfl rfl rfl ?_
  refine nx_ld rfl rfl rfl rfl ?_
  refine nx_cVI (as := [eI x1]) (st' := []) rfl rfl (Nat.le_of_ble_eq_true rfl) rfl rfl (Nat.le_of_ble_eq_true rfl) (c0 := 13) rfl (by decide) H (fun Q H => TF_X13_isBody hW  H) (fun r21 H => ?_)
  refine nx_if rfl rfl (by rfl) H (fun H => ?_) (fun H => ?_)
  · refine nx_int (x := 0) rfl rfl ?_
    exact nx_rzl rfl rfl (by decide) H
  refine nx_ld rfl rfl rfl rfl ?_
  refine nx_getFix rfl rfl rfl (by decide) (by rw [hW]; rfl) rfl ?_
  refine nx_ld rfl rfl rfl rfl ?_
  refine nx_iald (p := (3308, 0)) rfl rfl (Nat.le_of_ble_eq_true rfl) (Nat.le_of_ble_eq_true rfl) rfl H (fun H => ?_)
  refine nx_int (x := 2) rfl rfl ?_
  refine nx_cSI (as := [eI (tA t 3308 0 x1.toNatClampNeg), eI 2]) (st' := []) rfl rfl (Nat.le_of_ble_eq_true rfl) rfl rfl (Nat.le_of_ble_eq_true rfl) H (fun Q H => TF_X13_isUnder hW  H) (fun r22 H => ?_)
  refine nx_if rfl rfl (by rfl) H (fun H => ?_) (fun H => ?_)
  · refine nx_int (x := 0) rfl rfl ?_
    exact nx_rzl rfl rfl (by decide) H
  refine nx_int (x := 1) rfl rfl ?_
  refine nx_goto rfl rfl ?_
  exact nx_rzl rfl rfl (by decide) H
def F_X13_add (t : TS) (x1 : Int32) : Option (Int32 × TS) := (gd (tI t 1307 0) (tL t 3308 0) (nxt (uA t 3308 0 (tI t 1307 0).toNatClampNeg x1) (fun t21 => (gd (tI t21 1307 0) (tL t21 3314 0) (nxt (uA t21 3314 0 (tI t21 1307 0).toNatClampNeg (-1)) (fun t22 => (nxt (uI t22 1307 0 ((tI t22 1307 0) + 1)) (fun t23 => (some (((tI t23 1307 0) - 1), t23))))))))))
theorem TF_X13_add {W : NW} {d : Nat} {t : TS} {x1 : Int32} {Q : Option NV → TS → Prop} {bc bs : Nat} (hW : W.2.2.2 = mm_fx) (H : wp (F_X13_add t x1) (fun r => Q (some (eI r.1)) r.2)) : nC W (d + 1) 168 [eR (some (13, 0)), eI x1] t bc bs Q := by
  refine nC_in (d := d) (T := tX13_add) (ls := [some (eR (some (13, 0))), some (eI x1)]) rfl (Nat.le_of_ble_eq_true rfl) rfl (fun a0 e0 => ?_)
  unfold F_X13_add at H
  refine nx_ld rfl rfl rfl rfl ?_
  refine nx_getFix rfl rfl rfl (by decide) (by rw [hW]; rfl) rfl ?_
  refine nx_ld rfl rfl rfl rfl ?_
  refine nx_getI rfl rfl rfl (by decide) ?_
  refine nx_ld rfl rfl rfl rfl ?_
  refine nx_iast (p := (3308, 0)) rfl rfl (Nat.le_of_ble_eq_true rfl) (Nat.le_of_ble_eq_true rfl) rfl H (fun t21 H => ?_)
  refine nx_ld rfl rfl rfl rfl ?_
  show nX _ _ _ _ _ _ 11 _ _ _ _ _
  refine nx_getFix rfl rfl rfl (by decide) (by rw [hW]; rfl) rfl ?_
  refine nx_ld rfl rfl rfl rfl ?_
  refine nx_getI rfl rfl rfl (by decide) ?_
  refine nx_int (x := (-1)) rfl rfl ?_
  refine nx_iast (p := (3314, 0)) rfl rfl (Nat.le_of_ble_eq_true rfl) (Nat.le_of_ble_eq_true rfl) rfl H (fun t22 H => ?_)
  refine nx_ld rfl rfl rfl rfl ?_
  refine nx_dup rfl rfl (Nat.ne_of_beq_eq_false rfl) ?_
  refine nx_getI rfl rfl rfl (by decide) ?_
  show nX _ _ _ _ _ _ 25 _ _ _ _ _
  refine nx_int (x := 1) rfl rfl ?_
  refine nx_ii rfl rfl ?_
  refine nx_putI rfl rfl rfl (by decide) H (fun t23 H => ?_)
  refine nx_ld rfl rfl rfl rfl ?_
  refine nx_getI rfl rfl rfl (by decide) ?_
  refine nx_int (x := 1) rfl rfl ?_
  refine nx_ii rfl rfl ?_
  exact nx_rit rfl rfl H
def B_X13_body_17 (t : TS) (v1 : Int32) : Option (Int32 × TS) := (if ¬ (tI t 1307 0) = 150 then (ob2 (F_X13_add t v1) (fun x22 t23 => (some (x22, t23)))) else (some ((-3), t)))
theorem TB_X13_body_17 {W : NW} {d : Nat} {Q : Option NV → TS → Prop} {a0 : Nat → Nat → Nat} {e0 : Nat → Nat → Bool} {bc bs : Nat} (hW : W.2.2.2 = mm_fx) : ∀ (t : TS) (v1 : Int32), wp (B_X13_body_17 t v1) (fun r => Q (some (eI r.1)) r.2) → nX W (d + 1) tX13_body Q a0 e0 17 [some (eR (some (13, 0))), some (eI v1)] [] t bc bs := by
  intro t v1 H
  unfold B_X13_body_17 at H
  refine nx_ld rfl rfl rfl rfl ?_
  refine nx_getI rfl rfl rfl (by decide) ?_
  refine nx_int (x := 150) rfl rfl ?_
  refine nx_icmp rfl rfl (by rfl) H (fun H => ?_) (fun H => ?_)
  · refine nx_ld rfl rfl rfl rfl ?_
    refine nx_ld rfl rfl rfl rfl ?_
    refine nx_cVI2 (as := [eI v1]) (st' := []) rfl rfl (Nat.le_of_ble_eq_true rfl) rfl rfl (Nat.le_of_ble_eq_true rfl) (c0 := 13) rfl (by decide) H (fun Q H => TF_X13_add hW  H) (fun x22 t23 H => ?_)
    exact nx_rit rfl rfl H
  refine nx_int (x := (-3)) rfl rfl ?_
  refine nx_goto rfl rfl ?_
  exact nx_rit rfl rfl H
def F_X13_body (t : TS) (x1 : Int32) : Option (Int32 × TS) := (if x1 = 0 then (B_X13_body_17  t x1) else (if x1 = 1 then (B_X13_body_17  t x1) else (if x1 = 6 then (B_X13_body_17  t x1) else (some ((-1), t)))))
theorem TF_X13_body {W : NW} {d : Nat} {t : TS} {x1 : Int32} {Q : Option NV → TS → Prop} {bc bs : Nat} (hW : W.2.2.2 = mm_fx) (H : wp (F_X13_body t x1) (fun r => Q (some (eI r.1)) r.2)) : nC W (d + 2) 169 [eR (some (13, 0)), eI x1] t bc bs Q := by
  refine nC_in (d := (d + 1)) (T := tX13_body) (ls := [some (eR (some (13, 0))), some (eI x1)]) rfl (Nat.le_of_ble_eq_true rfl) rfl (fun a0 e0 => ?_)
  unfold F_X13_body at H
  refine nx_ld rfl rfl rfl rfl ?_
  refine nx_if rfl rfl (by rfl) H (fun H => ?_) (fun H => ?_)
  · exact TB_X13_body_17 hW    _ _ H
  refine nx_ld rfl rfl rfl rfl ?_
  refine nx_int (x := 1) rfl rfl ?_
  refine nx_icmp rfl rfl (by rfl) H (fun H => ?_) (fun H => ?_)
  · exact TB_X13_body_17 hW    _ _ H
  refine nx_ld rfl rfl rfl rfl ?_
  refine nx_int (x := 6) rfl rfl ?_
  refine nx_icmp rfl rfl (by rfl) H (fun H => ?_) (fun H => ?_)
  · exact TB_X13_body_17 hW    _ _ H
  refine nx_int (x := (-1)) rfl rfl ?_
  exact nx_rit rfl rfl H
def B_X13_club_11 (t : TS) (v1 : Int32) (v2 : Int32) (v3 : Int32) : Option (Int32 × TS) := (Option.bind (F_X13_isLeague t v2) (fun r21 => (if r21 = 0 then (some ((-1), t)) else (Option.bind (F_X13_in t v3 0 9999999) (fun r22 => (if ¬ r22 = 0 then (if ¬ (tI t 1307 0) = 150 then (ob2 (F_X13_add t v1) (fun x24 t25 => (gd x24 (tL t25 3309 0) (nxt (uA t25 3309 0 x24.toNatClampNeg v2) (fun t26 => (gd x24 (tL t26 3310 0) (nxt (uA t26 3310 0 x24.toNatClampNeg v3) (fun t27 => (some (x24, t27)))))))))) else (some ((-3), t))) else (some ((-1), t))))))))
theorem TB_X13_club_11 {W : NW} {d : Nat} {Q : Option NV → TS → Prop} {a0 : Nat → Nat → Nat} {e0 : Nat → Nat → Bool} {bc bs : Nat} (hW : W.2.2.2 = mm_fx) : ∀ (t : TS) (v1 : Int32) (v2 : Int32) (v3 : Int32), wp (B_X13_club_11 t v1 v2 v3) (fun r => Q (some (eI r.1)) r.2) → nX W (d + 2) tX13_club Q a0 e0 11 [some (eR (some (13, 0))), some (eI v1), some (eI v2), some (eI v3), none] [] t bc bs := by
  intro t v1 v2 v3 H
  unfold B_X13_club_11 at H
  refine nx_ld rfl rfl rfl rfl ?_
  refine nx_cSI (as := [eI v2]) (st' := []) rfl rfl (Nat.le_of_ble_eq_true rfl) rfl rfl (Nat.le_of_ble_eq_true rfl) H (fun Q H => TF_X13_isLeague hW  H) (fun r21 H => ?_)
  refine nx_if rfl rfl (by rfl) H (fun H => ?_) (fun H => ?_)
  · refine nx_int (x := (-1)) rfl rfl ?_
    exact nx_rit rfl rfl H
  refine nx_ld rfl rfl rfl rfl ?_
  refine nx_int (x := 0) rfl rfl ?_
  refine nx_int (x := 9999999) rfl rfl ?_
  refine nx_cSI (as := [eI v3, eI 0, eI 9999999]) (st' := []) rfl rfl (Nat.le_of_ble_eq_true rfl) rfl rfl (Nat.le_of_ble_eq_true rfl) H (fun Q H => TF_X13_in hW  H) (fun r22 H => ?_)
  refine nx_if rfl rfl (by rfl) H (fun H => ?_) (fun H => ?_)
  · refine nx_ld rfl rfl rfl rfl ?_
    refine nx_getI rfl rfl rfl (by decide) ?_
    refine nx_int (x := 150) rfl rfl ?_
    refine nx_icmp rfl rfl (by rfl) H (fun H => ?_) (fun H => ?_)
    · refine nx_ld rfl rfl rfl rfl ?_
      refine nx_ld rfl rfl rfl rfl ?_
      refine nx_cVI2 (as := [eI v1]) (st' := []) rfl rfl (Nat.le_of_ble_eq_true rfl) rfl rfl (Nat.le_of_ble_eq_true rfl) (c0 := 13) rfl (by decide) H (fun Q H => TF_X13_add hW  H) (fun x24 t25 H => ?_)
      refine nx_st (ls' := [some (eR (some (13, 0))), some (eI v1), some (eI v2), some (eI v3), some (eI x24)]) rfl rfl rfl (Nat.le_of_ble_eq_true rfl) rfl ?_
      refine nx_ld rfl rfl rfl rfl ?_
      refine nx_getFix rfl rfl rfl (by decide) (by rw [hW]; rfl) rfl ?_
      refine nx_ld rfl rfl rfl rfl ?_
      show nX _ _ _ _ _ _ 57 _ _ _ _ _
      refine nx_ld rfl rfl rfl rfl ?_
      refine nx_iast (p := (3309, 0)) rfl rfl (Nat.le_of_ble_eq_true rfl) (Nat.le_of_ble_eq_true rfl) rfl H (fun t26 H => ?_)
      refine nx_ld rfl rfl rfl rfl ?_
      refine nx_getFix rfl rfl rfl (by decide) (by rw [hW]; rfl) rfl ?_
      refine nx_ld rfl rfl rfl rfl ?_
      refine nx_ld rfl rfl rfl rfl ?_
      refine nx_iast (p := (3310, 0)) rfl rfl (Nat.le_of_ble_eq_true rfl) (Nat.le_of_ble_eq_true rfl) rfl H (fun t27 H => ?_)
      refine nx_ld rfl rfl rfl rfl ?_
      show nX _ _ _ _ _ _ 69 _ _ _ _ _
      exact nx_rit rfl rfl H
    refine nx_int (x := (-3)) rfl rfl ?_
    exact nx_rit rfl rfl H
  refine nx_int (x := (-1)) rfl rfl ?_
  exact nx_rit rfl rfl H
def F_X13_club (t : TS) (x1 : Int32) (x2 : Int32) (x3 : Int32) : Option (Int32 × TS) := (if x1 = 5 then (B_X13_club_11  t x1 x2 x3) else (if ¬ x1 = 7 then (some ((-1), t)) else (B_X13_club_11  t x1 x2 x3)))
theorem TF_X13_club {W : NW} {d : Nat} {t : TS} {x1 : Int32} {x2 : Int32} {x3 : Int32} {Q : Option NV → TS → Prop} {bc bs : Nat} (hW : W.2.2.2 = mm_fx) (H : wp (F_X13_club t x1 x2 x3) (fun r => Q (some (eI r.1)) r.2)) : nC W (d + 3) 170 [eR (some (13, 0)), eI x1, eI x2, eI x3] t bc bs Q := by
  refine nC_in (d := (d + 2)) (T := tX13_club) (ls := [some (eR (some (13, 0))), some (eI x1), some (eI x2), some (eI x3), none]) rfl (Nat.le_of_ble_eq_true rfl) rfl (fun a0 e0 => ?_)
  unfold F_X13_club at H
  refine nx_ld rfl rfl rfl rfl ?_
  refine nx_int (x := 5) rfl rfl ?_
  refine nx_icmp rfl rfl (by rfl) H (fun H => ?_) (fun H => ?_)
  · exact TB_X13_club_11 hW    _ _ _ _ H
  refine nx_ld rfl rfl rfl rfl ?_
  refine nx_int (x := 7) rfl rfl ?_
  refine nx_icmp rfl rfl (by rfl) H (fun H => ?_) (fun H => ?_)
  · refine nx_int (x := (-1)) rfl rfl ?_
    exact nx_rit rfl rfl H
  exact TB_X13_club_11 hW    _ _ _ _ H
def B_X13_player_60 (t : TS) (v1 : Int32) (v2 : Int32) (v3 : Int32) (v4 : Int32) : Option (Int32 × TS) := (if ¬ (tI t 1307 0) = 150 then (ob2 (F_X13_add t v1) (fun x22 t23 => (gd x22 (tL t23 3312 0) (nxt (uA t23 3312 0 x22.toNatClampNeg v2) (fun t24 => (gd x22 (tL t24 3313 0) (nxt (uA t24 3313 0 x22.toNatClampNeg v3) (fun t25 => (gd x22 (tL t25 3314 0) (nxt (uA t25 3314 0 x22.toNatClampNeg v4) (fun t26 => (some (x22, t26))))))))))))) else (some ((-3), t)))
theorem TB_X13_player_60 {W : NW} {d : Nat} {Q : Option NV → TS → Prop} {a0 : Nat → Nat → Nat} {e0 : Nat → Nat → Bool} {bc bs : Nat} (hW : W.2.2.2 = mm_fx) : ∀ (t : TS) (v1 : Int32) (v2 : Int32) (v3 : Int32) (v4 : Int32), wp (B_X13_player_60 t v1 v2 v3 v4) (fun r => Q (some (eI r.1)) r.2) → nX W (d + 2) tX13_player Q a0 e0 60 [some (eR (some (13, 0))), some (eI v1), some (eI v2), some (eI v3), some (eI v4), none] [] t bc bs := by
  intro t v1 v2 v3 v4 H
  unfold B_X13_player_60 at H
  refine nx_ld rfl rfl rfl rfl ?_
  refine nx_getI rfl rfl rfl (by decide) ?_
  refine nx_int (x := 150) rfl rfl ?_
  refine nx_icmp rfl rfl (by rfl) H (fun H => ?_) (fun H => ?_)
  · refine nx_ld rfl rfl rfl rfl ?_
    refine nx_ld rfl rfl rfl rfl ?_
    refine nx_cVI2 (as := [eI v1]) (st' := []) rfl rfl (Nat.le_of_ble_eq_true rfl) rfl rfl (Nat.le_of_ble_eq_true rfl) (c0 := 13) rfl (by decide) H (fun Q H => TF_X13_add hW  H) (fun x22 t23 H => ?_)
    refine nx_st (ls' := [some (eR (some (13, 0))), some (eI v1), some (eI v2), some (eI v3), some (eI v4), some (eI x22)]) rfl rfl rfl (Nat.le_of_ble_eq_true rfl) rfl ?_
    refine nx_ld rfl rfl rfl rfl ?_
    refine nx_getFix rfl rfl rfl (by decide) (by rw [hW]; rfl) rfl ?_
    refine nx_ld rfl rfl rfl rfl ?_
    show nX _ _ _ _ _ _ 86 _ _ _ _ _
    refine nx_ld rfl rfl rfl rfl ?_
    refine nx_iast (p := (3312, 0)) rfl rfl (Nat.le_of_ble_eq_true rfl) (Nat.le_of_ble_eq_true rfl) rfl H (fun t24 H => ?_)
    refine nx_ld rfl rfl rfl rfl ?_
    refine nx_getFix rfl rfl rfl (by decide) (by rw [hW]; rfl) rfl ?_
    refine nx_ld rfl rfl rfl rfl ?_
    refine nx_ld rfl rfl rfl rfl ?_
    refine nx_iast (p := (3313, 0)) rfl rfl (Nat.le_of_ble_eq_true rfl) (Nat.le_of_ble_eq_true rfl) rfl H (fun t25 H => ?_)
    refine nx_ld rfl rfl rfl rfl ?_
    show nX _ _ _ _ _ _ 97 _ _ _ _ _
    refine nx_getFix rfl rfl rfl (by decide) (by rw [hW]; rfl) rfl ?_
    refine nx_ld rfl rfl rfl rfl ?_
    refine nx_ld rfl rfl rfl rfl ?_
    refine nx_iast (p := (3314, 0)) rfl rfl (Nat.le_of_ble_eq_true rfl) (Nat.le_of_ble_eq_true rfl) rfl H (fun t26 H => ?_)
    refine nx_ld rfl rfl rfl rfl ?_
    exact nx_rit rfl rfl H
  refine nx_int (x := (-3)) rfl rfl ?_
  exact nx_rit rfl rfl H
def F_X13_player (t : TS) (x1 : Int32) (x2 : Int32) (x3 : Int32) (x4 : Int32) : Option (Int32 × TS) := (Option.bind (F_X13_in t x1 2 4) (fun r21 => (if r21 = 0 then (some ((-1), t)) else (Option.bind (F_X13_in t x2 (-9000) 0) (fun r22 => (if r22 = 0 then (some ((-1), t)) else (Option.bind (F_X13_in t x3 0 99999) (fun r23 => (if r23 = 0 then (some ((-1), t)) else (if x4 = (-1) then (B_X13_player_60  t x1 x2 x3 x4) else (Option.bind (F_X13_isBody t x4) (fun r24 => (if r24 = 0 then (some ((-1), t)) else (gd x4 (tL t 3308 0) (if (tA t 3308 0 x4.toNatClampNeg) = 6 then (B_X13_player_60  t x1 x2 x3 x4) else (some ((-1), t)))))))))))))))))
theorem TF_X13_player {W : NW} {d : Nat} {t : TS} {x1 : Int32} {x2 : Int32} {x3 : Int32} {x4 : Int32} {Q : Option NV → TS → Prop} {bc bs : Nat} (hW : W.2.2.2 = mm_fx) (H : wp (F_X13_player t x1 x2 x3 x4) (fun r => Q (some (eI r.1)) r.2)) : nC W (d + 3) 171 [eR (some (13, 0)), eI x1, eI x2, eI x3, eI x4] t bc bs Q := by
  refine nC_in (d := (d + 2)) (T := tX13_player) (ls := [some (eR (some (13, 0))), some (eI x1), some (eI x2), some (eI x3), some (eI x4), none]) rfl (Nat.le_of_ble_eq_true rfl) rfl (fun a0 e0 => ?_)
  unfold F_X13_player at H
  refine nx_ld rfl rfl rfl rfl ?_
  refine nx_int (x := 2) rfl rfl ?_
  refine nx_int (x := 4) rfl rfl ?_
  refine nx_cSI (as := [eI x1, eI 2, eI 4]) (st' := []) rfl rfl (Nat.le_of_ble_eq_true rfl) rfl rfl (Nat.le_of_ble_eq_true rfl) H (fun Q H => TF_X13_in hW  H) (fun r21 H => ?_)
  refine nx_if rfl rfl (by rfl) H (fun H => ?_) (fun H => ?_)
  · refine nx_int (x := (-1)) rfl rfl ?_
    exact nx_rit rfl rfl H
  refine nx_ld rfl rfl rfl rfl ?_
  refine nx_int (x := (-9000)) rfl rfl ?_
  refine nx_int (x := 0) rfl rfl ?_
  refine nx_cSI (as := [eI x2, eI (-9000), eI 0]) (st' := []) rfl rfl (Nat.le_of_ble_eq_true rfl) rfl rfl (Nat.le_of_ble_eq_true rfl) H (fun Q H => TF_X13_in hW  H) (fun r22 H => ?_)
  refine nx_if rfl rfl (by rfl) H (fun H => ?_) (fun H => ?_)
  · refine nx_int (x := (-1)) rfl rfl ?_
    exact nx_rit rfl rfl H
  refine nx_ld rfl rfl rfl rfl ?_
  refine nx_int (x := 0) rfl rfl ?_
  refine nx_int (x := 99999) rfl rfl ?_
  refine nx_cSI (as := [eI x3, eI 0, eI 99999]) (st' := []) rfl rfl (Nat.le_of_ble_eq_true rfl) rfl rfl (Nat.le_of_ble_eq_true rfl) H (fun Q H => TF_X13_in hW  H) (fun r23 H => ?_)
  refine nx_if rfl rfl (by rfl) H (fun H => ?_) (fun H => ?_)
  · refine nx_int (x := (-1)) rfl rfl ?_
    exact nx_rit rfl rfl H
  refine nx_ld rfl rfl rfl rfl ?_
  refine nx_int (x := (-1)) rfl rfl ?_
  refine nx_icmp rfl rfl (by rfl) H (fun H => ?_) (fun H => ?_)
  · exact TB_X13_player_60 hW    _ _ _ _ _ H
  refine nx_ld rfl rfl rfl rfl ?_
  refine nx_ld rfl rfl rfl rfl ?_
  refine nx_cVI (as := [eI x4]) (st' := []) rfl rfl (Nat.le_of_ble_eq_true rfl) rfl rfl (Nat.le_of_ble_eq_true rfl) (c0 := 13) rfl (by decide) H (fun Q H => TF_X13_isBody hW  H) (fun r24 H => ?_)
  refine nx_if rfl rfl (by rfl) H (fun H => ?_) (fun H => ?_)
  · refine nx_int (x := (-1)) rfl rfl ?_
    exact nx_rit rfl rfl H
  refine nx_ld rfl rfl rfl rfl ?_
  refine nx_getFix rfl rfl rfl (by decide) (by rw [hW]; rfl) rfl ?_
  refine nx_ld rfl rfl rfl rfl ?_
  refine nx_iald (p := (3308, 0)) rfl rfl (Nat.le_of_ble_eq_true rfl) (Nat.le_of_ble_eq_true rfl) rfl H (fun H => ?_)
  refine nx_int (x := 6) rfl rfl ?_
  refine nx_icmp rfl rfl (by rfl) H (fun H => ?_) (fun H => ?_)
  · exact TB_X13_player_60 hW    _ _ _ _ _ H
  refine nx_int (x := (-1)) rfl rfl ?_
  exact nx_rit rfl rfl H
def F_X13_income (t : TS) (x1 : Int32) (x2 : Int32) (x3 : Int32) : Option (Int32 × TS) := (Option.bind (F_X13_isClub t x1) (fun r21 => (if r21 = 0 then (some ((-1), t)) else (Option.bind (F_X13_in t x2 0 9) (fun r22 => (if r22 = 0 then (some ((-1), t)) else (Option.bind (F_X13_in t x3 0 9999999) (fun r23 => (if ¬ r23 = 0 then (gd ((10 * x1) + x2) (tL t 3311 0) (gd ((10 * x1) + x2) (tL t 3311 0) (nxt (uA t 3311 0 ((10 * x1) + x2).toNatClampNeg x3) (fun t24 => (some ((tA t 3311 0 ((10 * x1) + x2).toNatClampNeg), t24)))))) else (some ((-1), t)))))))))))
theorem TF_X13_income {W : NW} {d : Nat} {t : TS} {x1 : Int32} {x2 : Int32} {x3 : Int32} {Q : Option NV → TS → Prop} {bc bs : Nat} (hW : W.2.2.2 = mm_fx) (H : wp (F_X13_income t x1 x2 x3) (fun r => Q (some (eI r.1)) r.2)) : nC W (d + 4) 172 [eR (some (13, 0)), eI x1, eI x2, eI x3] t bc bs Q := by
  refine nC_in (d := (d + 3)) (T := tX13_income) (ls := [some (eR (some (13, 0))), some (eI x1), some (eI x2), some (eI x3), none]) rfl (Nat.le_of_ble_eq_true rfl) rfl (fun a0 e0 => ?_)
  unfold F_X13_income at H
  refine nx_ld rfl rfl rfl rfl ?_
  refine nx_ld rfl rfl rfl rfl ?_
  refine nx_cVI (as := [eI x1]) (st' := []) rfl rfl (Nat.le_of_ble_eq_true rfl) rfl rfl (Nat.le_of_ble_eq_true rfl) (c0 := 13) rfl (by decide) H (fun Q H => TF_X13_isClub hW  H) (fun r21 H => ?_)
  refine nx_if rfl rfl (by rfl) H (fun H => ?_) (fun H => ?_)
  · refine nx_int (x := (-1)) rfl rfl ?_
    exact nx_rit rfl rfl H
  refine nx_ld rfl rfl rfl rfl ?_
  refine nx_int (x := 0) rfl rfl ?_
  refine nx_int (x := 9) rfl rfl ?_
  refine nx_cSI (as := [eI x2, eI 0, eI 9]) (st' := []) rfl rfl (Nat.le_of_ble_eq_true rfl) rfl rfl (Nat.le_of_ble_eq_true rfl) H (fun Q H => TF_X13_in hW  H) (fun r22 H => ?_)
  refine nx_if rfl rfl (by rfl) H (fun H => ?_) (fun H => ?_)
  · refine nx_int (x := (-1)) rfl rfl ?_
    exact nx_rit rfl rfl H
  refine nx_ld rfl rfl rfl rfl ?_
  refine nx_int (x := 0) rfl rfl ?_
  refine nx_int (x := 9999999) rfl rfl ?_
  refine nx_cSI (as := [eI x3, eI 0, eI 9999999]) (st' := []) rfl rfl (Nat.le_of_ble_eq_true rfl) rfl rfl (Nat.le_of_ble_eq_true rfl) H (fun Q H => TF_X13_in hW  H) (fun r23 H => ?_)
  refine nx_if rfl rfl (by rfl) H (fun H => ?_) (fun H => ?_)
  · refine nx_ld rfl rfl rfl rfl ?_
    refine nx_getFix rfl rfl rfl (by decide) (by rw [hW]; rfl) rfl ?_
    refine nx_int (x := 10) rfl rfl ?_
    refine nx_ld rfl rfl rfl rfl ?_
    refine nx_ii rfl rfl ?_
    refine nx_ld rfl rfl rfl rfl ?_
    refine nx_ii rfl rfl ?_
    show nX _ _ _ _ _ _ 41 _ _ _ _ _
    refine nx_iald (p := (3311, 0)) rfl rfl (Nat.le_of_ble_eq_true rfl) (Nat.le_of_ble_eq_true rfl) rfl H (fun H => ?_)
    refine nx_st (ls' := [some (eR (some (13, 0))), some (eI x1), some (eI x2), some (eI x3), some (eI (tA t 3311 0 ((10 * x1) + x2).toNatClampNeg))]) rfl rfl rfl (Nat.le_of_ble_eq_true rfl) rfl ?_
    refine nx_ld rfl rfl rfl rfl ?_
    refine nx_getFix rfl rfl rfl (by decide) (by rw [hW]; rfl) rfl ?_
    refine nx_int (x := 10) rfl rfl ?_
    refine nx_ld rfl rfl rfl rfl ?_
    refine nx_ii rfl rfl ?_
    refine nx_ld rfl rfl rfl rfl ?_
    show nX _ _ _ _ _ _ 53 _ _ _ _ _
    refine nx_ii rfl rfl ?_
    refine nx_ld rfl rfl rfl rfl ?_
    refine nx_iast (p := (3311, 0)) rfl rfl (Nat.le_of_ble_eq_true rfl) (Nat.le_of_ble_eq_true rfl) rfl H (fun t24 H => ?_)
    refine nx_ld rfl rfl rfl rfl ?_
    exact nx_rit rfl rfl H
  refine nx_int (x := (-1)) rfl rfl ?_
  exact nx_rit rfl rfl H
def F_X13_ageOn (t : TS) (x1 : Int32) (x2 : Int32) : Option Int32 := (gd x1 (tL t 3312 0) (some (((x2 - (tA t 3312 0 x1.toNatClampNeg)) / 300))))
theorem TF_X13_ageOn {W : NW} {d : Nat} {t : TS} {x1 : Int32} {x2 : Int32} {Q : Option NV → TS → Prop} {bc bs : Nat} (hW : W.2.2.2 = mm_fx) (H : wp (F_X13_ageOn t x1 x2) (fun r => Q (some (eI r)) t)) : nC W (d + 1) 173 [eR (some (13, 0)), eI x1, eI x2] t bc bs Q := by
  refine nC_in (d := d) (T := tX13_ageOn) (ls := [some (eR (some (13, 0))), some (eI x1), some (eI x2)]) rfl (Nat.le_of_ble_eq_true rfl) rfl (fun a0 e0 => ?_)
  unfold F_X13_ageOn at H
  refine nx_ld rfl rfl rfl rfl ?_
  refine nx_ld rfl rfl rfl rfl ?_
  refine nx_getFix rfl rfl rfl (by decide) (by rw [hW]; rfl) rfl ?_
  refine nx_ld rfl rfl rfl rfl ?_
  refine nx_iald (p := (3312, 0)) rfl rfl (Nat.le_of_ble_eq_true rfl) (Nat.le_of_ble_eq_true rfl) rfl H (fun H => ?_)
  refine nx_ii rfl rfl ?_
  refine nx_int (x := 300) rfl rfl ?_
  show nX _ _ _ _ _ _ 11 _ _ _ _ _
  refine nx_idivL rfl rfl (by decide) ?_
  exact nx_ri rfl rfl H
