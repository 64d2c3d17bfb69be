/-! PART b3: the model reads a text: all parts of numbers, lines. -/
section
variable {T : Nat → Nat} {L R : Nat}
theorem lk_sg : ∀ c, c ≤ 256 → (sgP c || (sgS c || sgR c)) = true → lk c = nt c := by decide +kernel
theorem mI_eq (hT : ∀ i, i < L → T i < 256) (hL160 : L ≤ 160) (hR : R < 17) : ∀ N w p o (t : TS) l, 3 * (8 - o) + w + 1 ≤ N → w ≤ 2 → o ≤ 8 → Ilen t → mD t T L R → mAt t p o l → p ≤ L → l ≤ p → ∃ u, G_X13_operand N w t = some u ∧ mOut t u R p o l (pI (chA T L) N w p o)
  | 0, w, p, o, t, l, h1, _, _, _, _, _, _, _ => by omega
  | N + 1, w, p, o, t, l, h1, h2, h3, hL, hD, hat, hp, hl => by
    have ih := mI_eq hT hL160 hR N
    have hend : ∀ p, L ≤ p → chA T L p = 256 := fun p hp => chA_end hp
    have hgo := pI_go (ch := chA T L) hend N
    have hle := fun p => chA_le (T := T) (L := L) hT p
    match w with
    | 0 =>
      rw [GS_X13_operand]
      exact mOpd (G_X13_operand N) (rec := pI (chA T L) N 2) (fun p o hp => hgo 2 p o hp) (fun ho t p l hL hD hat hp hl => ih 2 p (o + 1) t l (by omega) (by omega) (by omega) hL hD hat hp hl) h3 hL hD hat hp hl
    | 1 =>
      rw [GS_X13_product]
      unfold Fb_X13_product
      refine mrun (g := G_X13_operand N 0) (B := B_X13_product_4 (G_X13_operand N)) (sg := sgP) (op := nt) (rec := fun p => pI (chA T L) N 0 p o) (o := o) hT hL160 hR rfl (fun p hp => hgo 0 p o hp) (fun t p l hL hD hat hp hl => ih 0 p o t l (by omega) (by omega) h3 hL hD hat hp hl) ?_ ?_ ?_ hL hD hat hp hl
      · intro fu t p l hL hD hat hp hs
        show BB_X13_product_4 (G_X13_operand N) (B_X13_product_4 (G_X13_operand N) fu) t = _
        have c1 : (lk (chA T L p) = 42) = (chA T L p = 42) := propext (lk_eq _ (hle p) 42 (by omega))
        have c2 : (lk (chA T L p) = 47) = (chA T L p = 47) := propext (lk_eq _ (hle p) 47 (by omega))
        have c3 : (¬ lk (chA T L p) = 37) = ¬ chA T L p = 37 := congrArg Not (propext (lk_eq _ (hle p) 37 (by omega)))
        unfold BB_X13_product_4
        rw [hat.2.1, if_neg neg1, look_eq hL hD hat.1 hp, ob_s, ob_s, ob_s, ifP c1, ifP c2, ifP c3]
        unfold sgP at hs
        simp only [Bool.or_eq_false_iff, decide_eq_false_iff_not] at hs
        rw [if_neg hs.1, if_neg hs.2.1, if_pos hs.2.2]
      · intro fu t p l hL hD hat hp hs
        show BB_X13_product_4 (G_X13_operand N) (B_X13_product_4 (G_X13_operand N) fu) t = _
        have c1 : (lk (chA T L p) = 42) = (chA T L p = 42) := propext (lk_eq _ (hle p) 42 (by omega))
        have c2 : (lk (chA T L p) = 47) = (chA T L p = 47) := propext (lk_eq _ (hle p) 47 (by omega))
        have c3 : (¬ lk (chA T L p) = 37) = ¬ chA T L p = 37 := congrArg Not (propext (lk_eq _ (hle p) 37 (by omega)))
        have e38 : B_X13_product_38 (G_X13_operand N) (B_X13_product_4 (G_X13_operand N) fu) t = Option.bind (G_X13_operand N 0 (uI t 1363 0 (nt (p + 1)))) (fun r => Option.bind (F_X13_lay r (nt (chA T L p)) 0) (fun r' => B_X13_product_4 (G_X13_operand N) fu r')) := by
          unfold B_X13_product_38
          rw [look_eq hL hD hat.1 hp, ob_s, nxt_e, hat.1, nt_succ, lk_sg _ (hle p) (by rw [hs]; rfl)]
        unfold BB_X13_product_4
        rw [hat.2.1, if_neg neg1, look_eq hL hD hat.1 hp, ob_s, ob_s, ob_s, ifP c1, ifP c2, ifP c3, e38]
        unfold sgP at hs
        simp only [Bool.or_eq_true, decide_eq_true_eq] at hs
        by_cases q1 : chA T L p = 42
        · rw [if_pos q1]
        rw [if_neg q1]
        by_cases q2 : chA T L p = 47
        · rw [if_pos q2]
        rw [if_neg q2, if_neg (fun q => hs.elim q1 (fun h => h.elim q2 q))]
      · intro fu t h
        show BB_X13_product_4 (G_X13_operand N) (B_X13_product_4 (G_X13_operand N) fu) t = _
        unfold BB_X13_product_4
        rw [if_pos h]
    | 2 =>
      rw [GS_X13_sum]
      unfold Fb_X13_sum
      refine mrun (g := G_X13_operand N 1) (B := B_X13_sum_4 (G_X13_operand N)) (sg := sgS) (op := nt) (rec := fun p => pI (chA T L) N 1 p o) (o := o) hT hL160 hR rfl (fun p hp => hgo 1 p o hp) (fun t p l hL hD hat hp hl => ih 1 p o t l (by omega) (by omega) h3 hL hD hat hp hl) ?_ ?_ ?_ hL hD hat hp hl
      · intro fu t p l hL hD hat hp hs
        show BB_X13_sum_4 (G_X13_operand N) (B_X13_sum_4 (G_X13_operand N) fu) t = _
        have c1 : (lk (chA T L p) = 43) = (chA T L p = 43) := propext (lk_eq _ (hle p) 43 (by omega))
        have c3 : (¬ lk (chA T L p) = 45) = ¬ chA T L p = 45 := congrArg Not (propext (lk_eq _ (hle p) 45 (by omega)))
        unfold BB_X13_sum_4
        rw [hat.2.1, if_neg neg1, look_eq hL hD hat.1 hp, ob_s, ob_s, ifP c1, ifP c3]
        unfold sgS at hs
        simp only [Bool.or_eq_false_iff, decide_eq_false_iff_not] at hs
        rw [if_neg hs.1, if_pos hs.2]
      · intro fu t p l hL hD hat hp hs
        show BB_X13_sum_4 (G_X13_operand N) (B_X13_sum_4 (G_X13_operand N) fu) t = _
        have c1 : (lk (chA T L p) = 43) = (chA T L p = 43) := propext (lk_eq _ (hle p) 43 (by omega))
        have c3 : (¬ lk (chA T L p) = 45) = ¬ chA T L p = 45 := congrArg Not (propext (lk_eq _ (hle p) 45 (by omega)))
        have e38 : B_X13_sum_29 (G_X13_operand N) (B_X13_sum_4 (G_X13_operand N) fu) t = Option.bind (G_X13_operand N 1 (uI t 1363 0 (nt (p + 1)))) (fun r => Option.bind (F_X13_lay r (nt (chA T L p)) 0) (fun r' => B_X13_sum_4 (G_X13_operand N) fu r')) := by
          unfold B_X13_sum_29
          rw [look_eq hL hD hat.1 hp, ob_s, nxt_e, hat.1, nt_succ, lk_sg _ (hle p) (by rw [hs]; cases sgP (chA T L p) <;> rfl)]
        unfold BB_X13_sum_4
        rw [hat.2.1, if_neg neg1, look_eq hL hD hat.1 hp, ob_s, ob_s, ifP c1, ifP c3, e38]
        unfold sgS at hs
        simp only [Bool.or_eq_true, decide_eq_true_eq] at hs
        by_cases q1 : chA T L p = 43
        · rw [if_pos q1]
        rw [if_neg q1, if_neg (fun q => hs.elim q1 q)]
      · intro fu t h
        show BB_X13_sum_4 (G_X13_operand N) (B_X13_sum_4 (G_X13_operand N) fu) t = _
        unfold BB_X13_sum_4
        rw [if_pos h]
    | w + 3 => exact absurd h2 (by omega)
end
