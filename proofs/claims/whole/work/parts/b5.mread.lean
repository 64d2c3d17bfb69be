/-! PART b5: the model reads a text: lines, all of them. -/
section
variable {T : Nat → Nat} {L R : Nat}
theorem mB_eq (hT : ∀ i, i < L → T i < 256) (hL160 : L ≤ 160) (hR : R < 17) : ∀ N w p o (t : TS) l, 3 * (8 - o) + w + 1 ≤ N → w ≤ 2 → o ≤ 8 → Ilen t → mD t T L R → mAt t p o l → p ≤ L → l ≤ p → ∃ u, G_X13_base N w t = some u ∧ mOut t u R p o l (pB (chA T L) N w p o)
  | 0, w, p, o, t, l, h1, _, _, _, _, _, _, _ => by omega
  | N + 1, w, p, o, t, l, h1, h2, h3, hL, hD, hat, hp, hl => by
    have ih := mB_eq hT hL160 hR N
    have hend : ∀ p, L ≤ p → chA T L p = 256 := fun p hp => chA_end hp
    have hgo := pB_go (ch := chA T L) hend N
    have hle := fun p => chA_le (T := T) (L := L) hT p
    match w with
    | 0 =>
      rw [GS_X13_base]
      exact mBs hT (G_X13_base N) (rb := pB (chA T L) N 0) (re := pB (chA T L) N 2) (fun p o hp => hgo 0 p o hp) (fun p o hp => hgo 2 p o hp) (fun ho t p l hL hD hat hp hl => ih 0 p (o + 1) t l (by omega) (by omega) (by omega) hL hD hat hp hl) (fun ho t p l hL hD hat hp hl => ih 2 p (o + 1) t l (by omega) (by omega) (by omega) hL hD hat hp hl) h3 hL hD hat hp hl
    | 1 =>
      rw [GS_X13_all]
      unfold Fb_X13_all
      refine mrun (g := G_X13_base N 0) (B := B_X13_all_4 (G_X13_base N)) (sg := sgA) (op := fun _ => 4) (rec := fun p => pB (chA T L) N 0 p o) (o := o) hT hL160 hR rfl (fun p hp => hgo 0 p o hp) (fun t p l hL hD hat hp hl => ih 0 p o t l (by omega) (by omega) h3 hL hD hat hp hl) ?_ ?_ ?_ hL hD hat hp hl
      · intro fu t p l hL hD hat hp hs
        show BB_X13_all_4 (G_X13_base N) (B_X13_all_4 (G_X13_base N) fu) t = _
        have c1 : (¬ lk (chA T L p) = 38) = ¬ chA T L p = 38 := congrArg Not (propext (lk_eq _ (hle p) 38 (by omega)))
        unfold BB_X13_all_4
        rw [hat.2.1, if_neg neg1, look_eq hL hD hat.1 hp, ob_s, ifP c1]
        unfold sgA at hs
        rw [if_pos (of_decide_eq_false hs)]
      · intro fu t p l hL hD hat hp hs
        show BB_X13_all_4 (G_X13_base N) (B_X13_all_4 (G_X13_base N) fu) t = _
        have c1 : (¬ lk (chA T L p) = 38) = ¬ chA T L p = 38 := congrArg Not (propext (lk_eq _ (hle p) 38 (by omega)))
        unfold BB_X13_all_4
        rw [hat.2.1, if_neg neg1, look_eq hL hD hat.1 hp, ob_s, ifP c1]
        unfold sgA at hs
        rw [if_neg (fun q => q (of_decide_eq_true hs)), nxt_e, hat.1, nt_succ]
      · intro fu t h
        show BB_X13_all_4 (G_X13_base N) (B_X13_all_4 (G_X13_base N) fu) t = _
        unfold BB_X13_all_4
        rw [if_pos h]
    | 2 =>
      rw [GS_X13_either]
      unfold Fb_X13_either
      refine mrun (g := G_X13_base N 1) (B := B_X13_either_4 (G_X13_base N)) (sg := sgE) (op := fun _ => 5) (rec := fun p => pB (chA T L) N 1 p o) (o := o) hT hL160 hR rfl (fun p hp => hgo 1 p o hp) (fun t p l hL hD hat hp hl => ih 1 p o t l (by omega) (by omega) h3 hL hD hat hp hl) ?_ ?_ ?_ hL hD hat hp hl
      · intro fu t p l hL hD hat hp hs
        show BB_X13_either_4 (G_X13_base N) (B_X13_either_4 (G_X13_base N) fu) t = _
        have c1 : (¬ lk (chA T L p) = 124) = ¬ chA T L p = 124 := congrArg Not (propext (lk_eq _ (hle p) 124 (by omega)))
        unfold BB_X13_either_4
        rw [hat.2.1, if_neg neg1, look_eq hL hD hat.1 hp, ob_s, ifP c1]
        unfold sgE at hs
        rw [if_pos (of_decide_eq_false hs)]
      · intro fu t p l hL hD hat hp hs
        show BB_X13_either_4 (G_X13_base N) (B_X13_either_4 (G_X13_base N) fu) t = _
        have c1 : (¬ lk (chA T L p) = 124) = ¬ chA T L p = 124 := congrArg Not (propext (lk_eq _ (hle p) 124 (by omega)))
        unfold BB_X13_either_4
        rw [hat.2.1, if_neg neg1, look_eq hL hD hat.1 hp, ob_s, ifP c1]
        unfold sgE at hs
        rw [if_neg (fun q => q (of_decide_eq_true hs)), nxt_e, hat.1, nt_succ]
      · intro fu t h
        show BB_X13_either_4 (G_X13_base N) (B_X13_either_4 (G_X13_base N) fu) t = _
        unfold BB_X13_either_4
        rw [if_pos h]
    | w + 3 => exact absurd h2 (by omega)
end
