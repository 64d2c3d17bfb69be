/-! PART c0: the class reads a text: lines, all of them. -/
section
variable {T : Nat → Nat} {L j : Nat} {V : Nat → Int32}
theorem cB_eq : ∀ N w p o (t : TS) m, 3 * (8 - o) + w + 1 ≤ N → w ≤ 2 → o ≤ 8 → Ilen t → cD t T L j V → cAt t p m → p ≤ L → ∃ x u, G_X7_anyOf N (2 - w) t (nt o) = some (x, u) ∧ P01 x ∧ cOut t u (chA T L) V m (pB (chA T L) N w p o) x
  | 0, w, p, o, t, m, h1, _, _, _, _, _, _ => by omega
  | N + 1, w, p, o, t, m, h1, h2, h3, hL, hD, hat, hp => by
    have ih := cB_eq N
    have hend : ∀ p, L ≤ p → chA T L p = 256 := fun p hp => chA_end hp
    have hgo := pB_go (ch := chA T L) hend N
    match w with
    | 0 =>
      rw [show 2 - 0 = 2 from rfl, GS_X7_base]
      exact cBs (G_X7_anyOf N) (rb := pB (chA T L) N 0) (re := pB (chA T L) N 2) (fun p o hp => hgo 0 p o hp) (fun p o hp => hgo 2 p o hp) (fun ho t p m hD hL hat hp => ih 0 p (o + 1) t m (by omega) (by omega) (by omega) hL hD hat hp) (fun ho t p m hD hL hat hp => ih 2 p (o + 1) t m (by omega) (by omega) (by omega) hL hD hat hp) h3 hL hD hat hp
    | 1 =>
      rw [show 2 - 1 = 1 from rfl, GS_X7_allOf]
      unfold Fb_X7_allOf
      refine crun (g := fun t => G_X7_anyOf N 2 t (nt o)) (B := fun fu t v => B_X7_allOf_6 (G_X7_anyOf N) fu t (nt o) v) (sg := sgA) (op := fun _ => 4) (rec := fun p => pB (chA T L) N 0 p o) (Pv := P01) (T := T) (L := L) (j := j) (V := V) rfl (fun c hc hd => (sg_d c hc hd).2.2.1) (fun c hc hs => ⟨by decide, by decide, by decide⟩) (fun p hp => hgo 0 p o hp) (fun t p m hD hL hat hp => ih 0 p o t m (by omega) (by omega) h3 hL hD hat hp) ?_ ?_ ?_ hL hD hat hp
      · intro fu t p m v hD hat hp hv hs
        show BB_X7_allOf_6 (G_X7_anyOf N) (B_X7_allOf_6 (G_X7_anyOf N) fu) t (nt o) v = _
        obtain ⟨h1, h2, h3, h4, h5, h6⟩ := hD
        obtain ⟨a1, a2, a3⟩ := hat
        unfold BB_X7_allOf_6
        rw [a2, if_neg neg1, a1, h3, igE (by omega) (by omega)]
        by_cases e : L ≤ p
        · rw [if_pos e, gb_p hv]
        obtain ⟨q1, q2⟩ := h5 p (by omega)
        have ech : chA T L p = T p := if_pos (by omega)
        have c1 : (¬ bt (T p) = 38) = ¬ T p = 38 := congrArg Not (propext (bt_eq _ q2 38 (by omega)))
        rw [ech] at hs
        unfold sgA at hs
        simp (disch := omega) only [if_neg e, h2, nxt_e, oc_s, gd_nt, nt_cl, q1]
        rw [ifP c1, if_pos (of_decide_eq_false hs), gb_p hv]
      · intro fu t p m v hD hat hp hv hs
        obtain ⟨h1, h2, h3, h4, h5, h6⟩ := hD
        obtain ⟨a1, a2, a3⟩ := hat
        have hpL : p < L := ch_lt hend (show ¬ chA T L p = 256 from fun q => by rw [q] at hs; exact absurd hs (by decide))
        obtain ⟨q1, q2⟩ := h5 p hpL
        have ech : chA T L p = T p := if_pos hpL
        rw [ech] at hs
        refine ⟨fun x25 t26 => B_X7_allOf_6 (G_X7_anyOf N) fu t26 (nt o) (v &&& x25), ?_, fun x t2 hx => ⟨(and_01 hv hx).2, by rw [← (and_01 hv hx).1]⟩⟩
        show BB_X7_allOf_6 (G_X7_anyOf N) (B_X7_allOf_6 (G_X7_anyOf N) fu) t (nt o) v = _
        have c1 : (¬ bt (T p) = 38) = ¬ T p = 38 := congrArg Not (propext (bt_eq _ q2 38 (by omega)))
        unfold BB_X7_allOf_6
        rw [a2, if_neg neg1, a1, h3, igE (by omega) (by omega), if_neg (by omega)]
        simp (disch := omega) only [h2, nxt_e, oc_s, gd_nt, nt_cl, q1, nt_succ]
        unfold sgA at hs
        rw [ifP c1, if_neg (fun q => q (of_decide_eq_true hs))]
      · intro fu t v h hv
        show BB_X7_allOf_6 (G_X7_anyOf N) (B_X7_allOf_6 (G_X7_anyOf N) fu) t (nt o) v = _
        unfold BB_X7_allOf_6
        rw [if_pos h, gb_p hv]
    | 2 =>
      rw [show 2 - 2 = 0 from rfl, GS_X7_anyOf]
      unfold Fb_X7_anyOf
      refine crun (g := fun t => G_X7_anyOf N 1 t (nt o)) (B := fun fu t v => B_X7_anyOf_6 (G_X7_anyOf N) fu t (nt o) v) (sg := sgE) (op := fun _ => 5) (rec := fun p => pB (chA T L) N 1 p o) (Pv := P01) (T := T) (L := L) (j := j) (V := V) rfl (fun c hc hd => (sg_d c hc hd).2.2.2.1) (fun c hc hs => ⟨by decide, by decide, by decide⟩) (fun p hp => hgo 1 p o hp) (fun t p m hD hL hat hp => ih 1 p o t m (by omega) (by omega) h3 hL hD hat hp) ?_ ?_ ?_ hL hD hat hp
      · intro fu t p m v hD hat hp hv hs
        show BB_X7_anyOf_6 (G_X7_anyOf N) (B_X7_anyOf_6 (G_X7_anyOf N) fu) t (nt o) v = _
        obtain ⟨h1, h2, h3, h4, h5, h6⟩ := hD
        obtain ⟨a1, a2, a3⟩ := hat
        unfold BB_X7_anyOf_6
        rw [a2, if_neg neg1, a1, h3, igE (by omega) (by omega)]
        by_cases e : L ≤ p
        · rw [if_pos e, gb_p hv]
        obtain ⟨q1, q2⟩ := h5 p (by omega)
        have ech : chA T L p = T p := if_pos (by omega)
        have c1 : (¬ bt (T p) = 124) = ¬ T p = 124 := congrArg Not (propext (bt_eq _ q2 124 (by omega)))
        rw [ech] at hs
        unfold sgE at hs
        simp (disch := omega) only [if_neg e, h2, nxt_e, oc_s, gd_nt, nt_cl, q1]
        rw [ifP c1, if_pos (of_decide_eq_false hs), gb_p hv]
      · intro fu t p m v hD hat hp hv hs
        obtain ⟨h1, h2, h3, h4, h5, h6⟩ := hD
        obtain ⟨a1, a2, a3⟩ := hat
        have hpL : p < L := ch_lt hend (show ¬ chA T L p = 256 from fun q => by rw [q] at hs; exact absurd hs (by decide))
        obtain ⟨q1, q2⟩ := h5 p hpL
        have ech : chA T L p = T p := if_pos hpL
        rw [ech] at hs
        refine ⟨fun x25 t26 => B_X7_anyOf_6 (G_X7_anyOf N) fu t26 (nt o) (v ||| x25), ?_, fun x t2 hx => ⟨(or_01 hv hx).2, by rw [← (or_01 hv hx).1]⟩⟩
        show BB_X7_anyOf_6 (G_X7_anyOf N) (B_X7_anyOf_6 (G_X7_anyOf N) fu) t (nt o) v = _
        have c1 : (¬ bt (T p) = 124) = ¬ T p = 124 := congrArg Not (propext (bt_eq _ q2 124 (by omega)))
        unfold BB_X7_anyOf_6
        rw [a2, if_neg neg1, a1, h3, igE (by omega) (by omega), if_neg (by omega)]
        simp (disch := omega) only [h2, nxt_e, oc_s, gd_nt, nt_cl, q1, nt_succ]
        unfold sgE at hs
        rw [ifP c1, if_neg (fun q => q (of_decide_eq_true hs))]
      · intro fu t v h hv
        show BB_X7_anyOf_6 (G_X7_anyOf N) (B_X7_anyOf_6 (G_X7_anyOf N) fu) t (nt o) v = _
        unfold BB_X7_anyOf_6
        rw [if_pos h, gb_p hv]
    | w + 3 => exact absurd h2 (by omega)
end
