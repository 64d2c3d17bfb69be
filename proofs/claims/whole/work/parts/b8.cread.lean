/-! PART b8: the class reads a text: all parts of numbers. -/
section
variable {T : Nat → Nat} {L j : Nat} {V : Nat → Int32}
theorem div_m1 (a : Int32) : a / (-1) = -a := Int32.toInt_inj.1 (by
  rw [Int32.toInt_div, show (-1 : Int32).toInt = -1 from rfl, Int32.toInt_neg, Int.tdiv_neg, Int.tdiv_one])
theorem irm_m1 (a : Int32) : irm a (-1) = 0 := by
  show a - a / (-1) * (-1) = 0
  rw [div_m1, Int32.neg_mul_neg, Int32.mul_one, Int32.sub_self]
theorem sg_d : ∀ c, c ≤ 256 → isD c = true → sgP c = false ∧ sgS c = false ∧ sgA c = false ∧ sgE c = false ∧ sgR c = false := by decide +kernel
theorem sg_op : ∀ c, c ≤ 256 → (sgP c || (sgS c || sgR c)) = true → ¬ nt c = 1 ∧ ¬ nt c = 2 ∧ ¬ nt c = 3 := by decide +kernel
theorem prod_K (g : Nat → TS → Int32 → Option (Int32 × TS)) (k : TS → Int32 → Int32 → Option (Int32 × TS)) (t : TS) (o v x : Int32) {c : Nat} (hc : c < 256) (hs : sgP c = true) : (if ¬ bt c = 42 then (if ¬ x = 0 then (if ¬ bt c = 47 then (gz x (B_X7_product_134 g k t o (irm v x))) else (gz x (B_X7_product_134 g k t o (v / x)))) else (B_X7_product_135 g k t o 0)) else (B_X7_product_135 g k t o (v * x))) = k t o (bothP (nt c) v x) := by
  unfold B_X7_product_134 B_X7_product_135
  have hs2 := hs
  unfold sgP at hs2
  simp only [Bool.or_eq_true, decide_eq_true_eq] at hs2
  rcases hs2 with rfl | rfl | rfl
  · rw [if_neg (fun q => q rfl)]; rfl
  · rw [if_pos (by decide), if_neg (show ¬ ¬ bt 47 = 47 from fun q => q rfl)]
    have hb : bothP (nt 47) v x = if x = 0 then 0 else if x = -1 then -v else v / x := rfl
    rw [hb]
    by_cases e : x = 0
    · rw [if_neg (fun q => q e), if_pos e]
    · rw [if_pos e, if_neg e, gz_ok _ e]
      by_cases e2 : x = -1
      · rw [if_pos e2, e2, div_m1]
      · rw [if_neg e2]
  · rw [if_pos (by decide), if_pos (show ¬ bt 37 = 47 by decide)]
    have hb : bothP (nt 37) v x = if x = 0 then 0 else if x = -1 then 0 else irm v x := rfl
    rw [hb]
    by_cases e : x = 0
    · rw [if_neg (fun q => q e), if_pos e]
    · rw [if_pos e, if_neg e, gz_ok _ e]
      by_cases e2 : x = -1
      · rw [if_pos e2, e2, irm_m1]
      · rw [if_neg e2]
theorem cI_eq : ∀ N w p o (t : TS) m, 3 * (8 - o) + w + 1 ≤ N → w ≤ 2 → o ≤ 8 → Ilen t → cD t T L j V → cAt t p m → p ≤ L → ∃ x u, G_X7_sum N (2 - w) t (nt o) = some (x, u) ∧ cOut t u (chA T L) V m (pI (chA T L) N w p o) x
  | 0, w, p, o, t, m, h1, _, _, _, _, _, _ => by omega
  | N + 1, w, p, o, t, m, h1, h2, h3, hL, hD, hat, hp => by
    have ih := cI_eq N
    have hend : ∀ p, L ≤ p → chA T L p = 256 := fun p hp => chA_end hp
    have hgo := pI_go (ch := chA T L) hend N
    have hT : ∀ i, i < L → T i < 256 := fun i hi => (hD.2.2.2.2.1 i hi).2
    have hle := fun p => chA_le (T := T) (L := L) hT p
    match w with
    | 0 =>
      rw [show 2 - 0 = 2 from rfl, GS_X7_operand]
      exact cOpd (G_X7_sum N) (rec := pI (chA T L) N 2) (fun p o hp => hgo 2 p o hp) (fun ho t p m hD hL hat hp => ih 2 p (o + 1) t m (by omega) (by omega) (by omega) hL hD hat hp) h3 hL hD hat hp
    | 1 =>
      rw [show 2 - 1 = 1 from rfl, GS_X7_product]
      unfold Fb_X7_product
      have := crun (g := fun t => G_X7_sum N 2 t (nt o)) (B := fun fu t v => B_X7_product_6 (G_X7_sum N) fu t (nt o) v) (sg := sgP) (op := nt) (rec := fun p => pI (chA T L) N 0 p o) (Pv := fun _ => True) (T := T) (L := L) (j := j) (V := V) rfl (fun c hc hd => (sg_d c hc hd).1) (fun c hc hs => sg_op c hc (by rw [hs]; rfl)) (fun p hp => hgo 0 p o hp) (fun t p m hD hL hat hp => by
        obtain ⟨x, u, q1, q2⟩ := ih 0 p o t m (by omega) (by omega) h3 hL hD hat hp
        exact ⟨x, u, q1, trivial, q2⟩) ?_ ?_ ?_ hL hD hat hp
      · obtain ⟨x, u, q1, -, q2⟩ := this
        exact ⟨x, u, q1, q2⟩
      · intro fu t p m v hD hat hp _ hs
        show BB_X7_product_6 (G_X7_sum N) (B_X7_product_6 (G_X7_sum N) fu) t (nt o) v = _
        obtain ⟨h1, h2, h3, h4, h5, h6⟩ := hD
        obtain ⟨a1, a2, a3⟩ := hat
        unfold BB_X7_product_6
        rw [a2, if_neg neg1, a1, h3, igE (by omega) (by omega)]
        by_cases e : L ≤ p
        · rw [if_pos e]
        obtain ⟨q1, q2⟩ := h5 p (by omega)
        have ech : chA T L p = T p := if_pos (by omega)
        have c1 : (bt (T p) = 42) = (T p = 42) := propext (bt_eq _ q2 42 (by omega))
        have c2 : (bt (T p) = 47) = (T p = 47) := propext (bt_eq _ q2 47 (by omega))
        have c3 : (¬ bt (T p) = 37) = ¬ T p = 37 := congrArg Not (propext (bt_eq _ q2 37 (by omega)))
        rw [ech] at hs
        unfold sgP at hs
        simp only [Bool.or_eq_false_iff, decide_eq_false_iff_not] at hs
        simp (disch := omega) only [if_neg e, h2, nxt_e, oc_s, gd_nt, nt_cl, q1]
        rw [ifP c1, ifP c2, ifP c3, if_neg hs.1, if_neg hs.2.1, if_pos hs.2.2]
      · intro fu t p m v hD hat hp _ hs
        obtain ⟨h1, h2, h3, h4, h5, h6⟩ := hD
        obtain ⟨a1, a2, a3⟩ := hat
        have hpL : p < L := ch_lt hend (show ¬ chA T L p = 256 from fun q => by rw [q] at hs; exact absurd hs (by decide))
        obtain ⟨q1, q2⟩ := h5 p hpL
        have ech : chA T L p = T p := if_pos hpL
        rw [ech] at hs ⊢
        refine ⟨fun x25 t26 => (if ¬ bt (T p) = 42 then (if ¬ x25 = 0 then (if ¬ bt (T p) = 47 then (gz x25 (B_X7_product_134 (G_X7_sum N) (B_X7_product_6 (G_X7_sum N) fu) t26 (nt o) (irm v x25))) else (gz x25 (B_X7_product_134 (G_X7_sum N) (B_X7_product_6 (G_X7_sum N) fu) t26 (nt o) (v / x25)))) else (B_X7_product_135 (G_X7_sum N) (B_X7_product_6 (G_X7_sum N) fu) t26 (nt o) 0)) else (B_X7_product_135 (G_X7_sum N) (B_X7_product_6 (G_X7_sum N) fu) t26 (nt o) (v * x25))), ?_, fun x t2 _ => ⟨trivial, prod_K (G_X7_sum N) (B_X7_product_6 (G_X7_sum N) fu) t2 (nt o) v x q2 hs⟩⟩
        show BB_X7_product_6 (G_X7_sum N) (B_X7_product_6 (G_X7_sum N) fu) t (nt o) v = _
        have c1 : (bt (T p) = 42) = (T p = 42) := propext (bt_eq _ q2 42 (by omega))
        have c2 : (bt (T p) = 47) = (T p = 47) := propext (bt_eq _ q2 47 (by omega))
        have c3 : (¬ bt (T p) = 37) = ¬ T p = 37 := congrArg Not (propext (bt_eq _ q2 37 (by omega)))
        have e66 : B_X7_product_66 (G_X7_sum N) (B_X7_product_6 (G_X7_sum N) fu) t (nt o) v = ob2 (G_X7_sum N 2 (uI t 706 0 (nt (p + 1))) (nt o)) (fun x25 t26 => (if ¬ bt (T p) = 42 then (if ¬ x25 = 0 then (if ¬ bt (T p) = 47 then (gz x25 (B_X7_product_134 (G_X7_sum N) (B_X7_product_6 (G_X7_sum N) fu) t26 (nt o) (irm v x25))) else (gz x25 (B_X7_product_134 (G_X7_sum N) (B_X7_product_6 (G_X7_sum N) fu) t26 (nt o) (v / x25)))) else (B_X7_product_135 (G_X7_sum N) (B_X7_product_6 (G_X7_sum N) fu) t26 (nt o) 0)) else (B_X7_product_135 (G_X7_sum N) (B_X7_product_6 (G_X7_sum N) fu) t26 (nt o) (v * x25)))) := by
          unfold B_X7_product_66
          simp (disch := omega) only [h2, nxt_e, oc_s, a1, gd_nt, nt_cl, q1, nt_succ]
        unfold BB_X7_product_6
        rw [a2, if_neg neg1, a1, h3, igE (by omega) (by omega), if_neg (by omega)]
        simp (disch := omega) only [h2, nxt_e, oc_s, gd_nt, nt_cl, q1]
        rw [ifP c1, ifP c2, ifP c3, e66]
        unfold sgP at hs
        simp only [Bool.or_eq_true, decide_eq_true_eq] at hs
        by_cases z1 : T p = 42
        · rw [if_pos z1]
        rw [if_neg z1]
        by_cases z2 : T p = 47
        · rw [if_pos z2]
        rw [if_neg z2, if_neg (fun q => hs.elim z1 (fun h => h.elim z2 q))]
      · intro fu t v h _
        show BB_X7_product_6 (G_X7_sum N) (B_X7_product_6 (G_X7_sum N) fu) t (nt o) v = _
        unfold BB_X7_product_6
        rw [if_pos h]
    | 2 =>
      rw [show 2 - 2 = 0 from rfl, GS_X7_sum]
      unfold Fb_X7_sum
      have := crun (g := fun t => G_X7_sum N 1 t (nt o)) (B := fun fu t v => B_X7_sum_6 (G_X7_sum N) fu t (nt o) v) (sg := sgS) (op := nt) (rec := fun p => pI (chA T L) N 1 p o) (Pv := fun _ => True) (T := T) (L := L) (j := j) (V := V) rfl (fun c hc hd => (sg_d c hc hd).2.1) (fun c hc hs => sg_op c hc (by rw [hs]; cases sgP c <;> rfl)) (fun p hp => hgo 1 p o hp) (fun t p m hD hL hat hp => by
        obtain ⟨x, u, q1, q2⟩ := ih 1 p o t m (by omega) (by omega) h3 hL hD hat hp
        exact ⟨x, u, q1, trivial, q2⟩) ?_ ?_ ?_ hL hD hat hp
      · obtain ⟨x, u, q1, -, q2⟩ := this
        exact ⟨x, u, q1, q2⟩
      · intro fu t p m v hD hat hp _ hs
        show BB_X7_sum_6 (G_X7_sum N) (B_X7_sum_6 (G_X7_sum N) fu) t (nt o) v = _
        obtain ⟨h1, h2, h3, h4, h5, h6⟩ := hD
        obtain ⟨a1, a2, a3⟩ := hat
        unfold BB_X7_sum_6
        rw [a2, if_neg neg1, a1, h3, igE (by omega) (by omega)]
        by_cases e : L ≤ p
        · rw [if_pos e]
        obtain ⟨q1, q2⟩ := h5 p (by omega)
        have ech : chA T L p = T p := if_pos (by omega)
        have c1 : (bt (T p) = 43) = (T p = 43) := propext (bt_eq _ q2 43 (by omega))
        have c3 : (¬ bt (T p) = 45) = ¬ T p = 45 := congrArg Not (propext (bt_eq _ q2 45 (by omega)))
        rw [ech] at hs
        unfold sgS at hs
        simp only [Bool.or_eq_false_iff, decide_eq_false_iff_not] at hs
        simp (disch := omega) only [if_neg e, h2, nxt_e, oc_s, gd_nt, nt_cl, q1]
        rw [ifP c1, ifP c3, if_neg hs.1, if_pos hs.2]
      · intro fu t p m v hD hat hp _ hs
        obtain ⟨h1, h2, h3, h4, h5, h6⟩ := hD
        obtain ⟨a1, a2, a3⟩ := hat
        have hpL : p < L := ch_lt hend (show ¬ chA T L p = 256 from fun q => by rw [q] at hs; exact absurd hs (by decide))
        obtain ⟨q1, q2⟩ := h5 p hpL
        have ech : chA T L p = T p := if_pos hpL
        rw [ech] at hs ⊢
        refine ⟨fun x23 t24 => B_X7_sum_6 (G_X7_sum N) fu t24 (nt o) (bothP (nt (T p)) v x23), ?_, fun x t2 _ => ⟨trivial, rfl⟩⟩
        show BB_X7_sum_6 (G_X7_sum N) (B_X7_sum_6 (G_X7_sum N) fu) t (nt o) v = _
        have c1 : (bt (T p) = 43) = (T p = 43) := propext (bt_eq _ q2 43 (by omega))
        have c1n : (¬ bt (T p) = 43) = ¬ T p = 43 := congrArg Not c1
        have c3 : (¬ bt (T p) = 45) = ¬ T p = 45 := congrArg Not (propext (bt_eq _ q2 45 (by omega)))
        have n10 : ¬ (1 : Int32) = 0 := by decide
        have z00 : (0 : Int32) = 0 := rfl
        have e52 : B_X7_sum_52 (G_X7_sum N) (B_X7_sum_6 (G_X7_sum N) fu) t (nt o) v = ob2 (G_X7_sum N 1 (uI t 706 0 (nt (p + 1))) (nt o)) (fun x23 t24 => B_X7_sum_6 (G_X7_sum N) fu t24 (nt o) (bothP (nt (T p)) v x23)) := by
          unfold B_X7_sum_52 B_X7_sum_71 B_X7_sum_104
          simp (disch := omega) only [h2, nxt_e, oc_s, a1, gd_nt, nt_cl, q1, nt_succ]
          rw [ifP c1n]
          unfold sgS at hs
          simp only [Bool.or_eq_true, decide_eq_true_eq] at hs
          by_cases z1 : T p = 43
          · rw [if_neg (fun q => q z1)]
            simp only [if_neg n10, z1]
            rfl
          · have z2 : T p = 45 := hs.resolve_left z1
            rw [if_pos z1]
            simp only [if_true, z2]
            rfl
        unfold BB_X7_sum_6
        rw [a2, if_neg neg1, a1, h3, igE (by omega) (by omega), if_neg (by omega)]
        simp (disch := omega) only [h2, nxt_e, oc_s, gd_nt, nt_cl, q1]
        rw [ifP c1, ifP c3, e52]
        unfold sgS at hs
        simp only [Bool.or_eq_true, decide_eq_true_eq] at hs
        by_cases z1 : T p = 43
        · rw [if_pos z1]
        rw [if_neg z1, if_neg (fun q => q (hs.resolve_left z1))]
      · intro fu t v h _
        show BB_X7_sum_6 (G_X7_sum N) (B_X7_sum_6 (G_X7_sum N) fu) t (nt o) v = _
        unfold BB_X7_sum_6
        rw [if_pos h]
    | w + 3 => exact absurd h2 (by omega)
end
