/-! PART c3: a text's lines: the model lays its steps. -/
def cum (ls : List (List (Int32 × Int32))) (i : Nat) : Nat := (ls.take i).flatten.length
def rSt (t : TS) (R : Nat) (ls : List (List (Int32 × Int32))) : Prop := tA t 3359 0 R = nt ls.length ∧ (∀ i, i < ls.length → tA t 3360 0 (90 * R + i) = nt (cum ls (i + 1))) ∧ ∀ j, j < ls.flatten.length → tA t 3361 0 (200 * R + j) = (ls.flatten.getD j (0, 0)).1 ∧ tA t 3362 0 (200 * R + j) = (ls.flatten.getD j (0, 0)).2
def uT (t u : TS) (R : Nat) : Prop := (∀ r, r < R → tA u 3359 0 r = tA t 3359 0 r) ∧ (∀ i, i < 90 * R → tA u 3360 0 i = tA t 3360 0 i) ∧ ∀ i, i < 200 * R → tA u 3361 0 i = tA t 3361 0 i ∧ tA u 3362 0 i = tA t 3362 0 i
def kRr : Nat → Bool := ks [1363, 1364, 1365, 1367, 3359, 3360, 3361, 3362]
theorem uT_tr {t u v : TS} {R : Nat} (h : uT t u R) (h' : uT u v R) : uT t v R := ⟨fun r hr => (h'.1 r hr).trans (h.1 r hr), fun i hi => (h'.2.1 i hi).trans (h.2.1 i hi), fun i hi => ⟨(h'.2.2 i hi).1.trans (h.2.2 i hi).1, (h'.2.2 i hi).2.trans (h.2.2 i hi).2⟩⟩
theorem cum_lt {ls : List (List (Int32 × Int32))} {c : List (Int32 × Int32)} {i : Nat} (h : i < ls.length) : cum (ls ++ [c]) (i + 1) = cum ls (i + 1) := by
  unfold cum
  rw [List.take_append_of_le_length (by omega)]
theorem cum_all {ls : List (List (Int32 × Int32))} {c : List (Int32 × Int32)} : cum (ls ++ [c]) (ls.length + 1) = ls.flatten.length + c.length := by
  unfold cum
  rw [List.take_of_length_le (by rw [List.length_append, List.length_cons, List.length_nil]; omega), List.flatten_append, List.length_append, List.flatten_cons, List.flatten_nil, List.append_nil]
section
variable {T : Nat → Nat} {L R : Nat}
theorem mD_f2 {t u : TS} (h : frm kRr t u) (hD : mD t T L R) : mD u T L R := by
  obtain ⟨h1, h2, h3, h4, h5⟩ := hD
  exact ⟨h1, by rw [(h.1 1354 rfl).2.1]; exact h2, by rw [(h.1 1366 rfl).2.1]; exact h3, h4, fun i hi => by rw [(h.1 3353 rfl).2.2.2.2.1]; exact h5 i hi⟩
theorem rl_eq {t u : TS} (hLu : Ilen u) (h1 : F_X13_either t = some u) (h2 : tI u 1366 0 = nt R) (hR : R < 17) {n l : Nat} (h3 : tA u 3359 0 R = nt n) (hn : n < 90) (h4 : tI u 1367 0 = nt l) : F_X13_readLine t = some (uA (uA u 3360 0 (90 * R + n) (nt l)) 3359 0 R (nt (n + 1))) := by
  have e : (90 : Int32) * nt R + nt n = nt (90 * R + n) := by rw [show (90 : Int32) = nt 90 from rfl, nt_mul, nt_add]
  unfold F_X13_readLine
  rw [h1, ob_s, h2, (show tL _ 3359 0 = 17 from hLu 3359 rfl), (show tL _ 3360 0 = 1530 from hLu 3360 rfl), gd_nt _ (by omega) (by omega), nt_cl (by omega), h3, e, gd_nt _ (by omega) (by omega), nxt_e, nt_cl (by omega), h4, show tI (uA u 3360 0 (90 * R + n) (nt l)) = tI u from rfl, h2, show tL (uA u 3360 0 (90 * R + n) (nt l)) 3359 0 = 17 from hLu 3359 rfl, gd_nt _ (by omega) (by omega), gd_nt _ (by omega) (by omega), nxt_e, nt_cl (by omega), show tA (uA u 3360 0 (90 * R + n) (nt l)) 3359 0 R = tA u 3359 0 R from by rw [A_uA_n (by decide)], h3, nt_succ]
theorem mLn (x1 x2 : Int32) : ∀ f p ls (t : TS) fu, Ilen t → mD t T L R → mAt t p 0 ls.flatten.length → ls.flatten.length ≤ p → p ≤ L → 2 * ls.length ≤ p → rSt t R ls → L - p < f → L - p < fu → ∃ u, Option.bind (F_X13_readLine t) (fun r => B_X13_rule_81 fu r x1 x2) = B_X13_rule_136 u x1 x2 ∧ frm kRr t u ∧ uT t u R ∧ (((pRu (chA T L) f p ls).1 = true ∧ tI u 1364 0 = -1 ∧ rSt u R (pRu (chA T L) f p ls).2.2) ∨ ((pRu (chA T L) f p ls).1 = false ∧ tI u 1364 0 = nt (pRu (chA T L) f p ls).2.1))
  | 0, p, ls, t, fu, _, _, _, _, _, _, _, h1, _ => by omega
  | f + 1, p, ls, t, fu, hL, hD, hat, hl, hp, h2l, hst, h1, h2 => by
    obtain ⟨fu, rfl⟩ : ∃ k, fu = k + 1 := ⟨fu - 1, by omega⟩
    have hend : ∀ p, L ≤ p → chA T L p = 256 := fun p hp => chA_end hp
    have hT : ∀ i, i < L → T i < 256 := fun i hi => (hD.2.2.2.2 i hi).2
    have hL160 := hD.1
    have hR := hD.2.2.2.1
    have hle := fun p => chA_le (T := T) (L := L) hT p
    obtain ⟨u, a1, a2⟩ := mB_eq hT hL160 hR 100 2 p 0 t _ (by omega) (by omega) (by omega) hL hD hat hp hl
    have a1' : F_X13_either t = some u := a1
    have hgo := pB_go (ch := chA T L) hend 100 2 p 0 hp
    unfold pRu
    generalize pB (chA T L) 100 2 p 0 = r at a2 hgo ⊢
    obtain ⟨rb, rq, rc⟩ := r
    obtain ⟨af, ap, ah⟩ := a2
    have hLu := Ilen_f af hL
    have hDu := mD_f af hD
    have e59 : tA u 3359 0 R = nt ls.length := by rw [(af.1 3359 rfl).2.2.2.2.1]; exact hst.1
    have fr0 : frm kRr t u := frm_sb af (ks_sb rfl)
    obtain ⟨l', hl'⟩ : ∃ l', tI u 1367 0 = nt l' := by
      rcases ah with ⟨-, ⟨-, -, -, q⟩, -⟩ | ⟨-, -, l', q, -⟩
      · exact ⟨_, q⟩
      · exact ⟨l', q⟩
    have hrl := rl_eq hLu a1' hDu.2.2.1 hR e59 (by omega) hl'
    rw [hrl, ob_s]
    obtain ⟨v, hv⟩ : ∃ v, v = uA (uA u 3360 0 (90 * R + ls.length) (nt l')) 3359 0 R (nt (ls.length + 1)) := ⟨_, rfl⟩
    rw [← hv]
    have fv : frm kRr t v := by rw [hv]; exact frm_tr fr0 (frm_tr (frm_uA rfl) (frm_uA rfl))
    have hLv := Ilen_f fv hL
    have hDv := mD_f2 fv hD
    have vI : tI v = tI u := by rw [hv]; rfl
    have v61 : tA v 3361 = tA u 3361 := by rw [hv, A_uA_n (by decide), A_uA_n (by decide)]
    have v62 : tA v 3362 = tA u 3362 := by rw [hv, A_uA_n (by decide), A_uA_n (by decide)]
    have v59 : ∀ r, tA v 3359 0 r = if r = R then nt (ls.length + 1) else tA t 3359 0 r := fun r => by
      rw [hv, A_uA, m1_s, A_uA_n (by decide), (af.1 3359 rfl).2.2.2.2.1]
      by_cases e : r = R
      · rw [if_pos e, e, m1_s]
      · rw [if_neg e, m1_n e]
    have v60 : ∀ i, tA v 3360 0 i = if i = 90 * R + ls.length then nt l' else tA t 3360 0 i := fun i => by
      rw [hv, A_uA_n (by decide), A_uA, m1_s, (af.1 3360 rfl).2.2.2.2.1]
      by_cases e : i = 90 * R + ls.length
      · rw [if_pos e, e, m1_s]
      · rw [if_neg e, m1_n e]
    have uTv : uT t v R := by
      refine ⟨fun r hr => by rw [v59, if_neg (by omega)], fun i hi => by rw [v60, if_neg (by omega)], fun i hi => ?_⟩
      rw [v61, v62]
      exact ap i (by omega)
    have un : B_X13_rule_81 (fu + 1) v x1 x2 = BB_X13_rule_81 (B_X13_rule_81 fu) v x1 x2 := rfl
    rw [un]
    unfold BB_X13_rule_81
    cases rb with
    | false =>
      rcases hgo with ⟨k1, -⟩ | ⟨-, k2, k3⟩
      · cases k1
      have k3' : rq ≤ L := k3
      rcases ah with ⟨h4, -⟩ | ⟨-, b1_, -⟩
      · cases h4
      have b1' : tI v 1364 0 = nt rq := by rw [vI]; exact b1_
      have hz : 0 ≤ tI v 1364 0 := by rw [b1']; exact nt_nn (by omega)
      rw [if_pos hz, if_neg ffn]
      unfold B_X13_rule_114
      rw [if_pos hz]
      exact ⟨v, rfl, fv, uTv, Or.inr ⟨rfl, b1'⟩⟩
    | true =>
      rcases hgo with ⟨-, k1, k2, k3⟩ | ⟨k1, -⟩
      case inr => cases k1
      have k1' : p < rq := k1
      have k2' : rq ≤ L := k2
      have k3' : p + rc.length ≤ rq := k3
      rcases ah with ⟨-, ⟨b1_, b2, b3, b4⟩, b5⟩ | ⟨h4, -⟩
      case inr => cases h4
      have b1' : tI v 1363 0 = nt rq := by rw [vI]; exact b1_
      have b2' : tI v 1364 0 = -1 := by rw [vI]; exact b2
      have b3' : tI v 1365 0 = nt 0 := by rw [vI]; exact b3
      have b4' : tI v 1367 0 = nt (ls.flatten.length + rc.length) := by rw [vI]; exact b4
      have hfl : (ls ++ [rc]).flatten = ls.flatten ++ rc := by rw [List.flatten_append, List.flatten_cons, List.flatten_nil, List.append_nil]
      have el' : nt l' = nt (ls.flatten.length + rc.length) := by
        have b4u : tI u 1367 0 = nt (ls.flatten.length + rc.length) := b4
        rw [← hl', b4u]
      have hrs : rSt v R (ls ++ [rc]) := by
        refine ⟨by rw [v59, if_pos rfl, List.length_append, List.length_cons, List.length_nil], fun i hi => ?_, fun jj hj => ?_⟩
        · rw [List.length_append, List.length_cons, List.length_nil] at hi
          rw [v60]
          by_cases e : i = ls.length
          · subst e
            rw [if_pos rfl, el', cum_all]
          · rw [if_neg (by omega), cum_lt (by omega)]
            exact hst.2.1 i (by omega)
        · rw [hfl, List.length_append] at hj
          rw [hfl, List.getD_eq_getElem?_getD, v61, v62]
          by_cases e : jj < ls.flatten.length
          · rw [List.getElem?_append_left e, ← List.getD_eq_getElem?_getD]
            obtain ⟨q1, q2⟩ := ap (200 * R + jj) (by omega)
            obtain ⟨q3, q4⟩ := hst.2.2 jj e
            exact ⟨q1.trans q3, q2.trans q4⟩
          · rw [List.getElem?_append_right (by omega), ← List.getD_eq_getElem?_getD]
            have := b5 (jj - ls.flatten.length) (by show jj - ls.flatten.length < rc.length; omega)
            rw [show 200 * R + ls.flatten.length + (jj - ls.flatten.length) = 200 * R + jj by omega] at this
            exact this
      have c59 : (¬ lk (chA T L rq) = 59) = ¬ chA T L rq = 59 := congrArg Not (propext (lk_eq _ (hle rq) 59 (by omega)))
      rw [b2', if_neg neg1, look_eq hLv hDv b1' k2', ob_s, ifP c59, if_pos rfl]
      show ∃ w, _ = B_X13_rule_136 w x1 x2 ∧ frm kRr t w ∧ uT t w R ∧ (((if chA T L rq = 59 then pRu (chA T L) f (rq + 1) (ls ++ [rc]) else if chA T L rq = 256 then (true, rq, ls ++ [rc]) else (false, rq, [])).1 = true ∧ _ ∧ rSt w R (if chA T L rq = 59 then pRu (chA T L) f (rq + 1) (ls ++ [rc]) else if chA T L rq = 256 then (true, rq, ls ++ [rc]) else (false, rq, [])).2.2) ∨ ((if chA T L rq = 59 then pRu (chA T L) f (rq + 1) (ls ++ [rc]) else if chA T L rq = 256 then (true, rq, ls ++ [rc]) else (false, rq, [])).1 = false ∧ _ = nt (if chA T L rq = 59 then pRu (chA T L) f (rq + 1) (ls ++ [rc]) else if chA T L rq = 256 then (true, rq, ls ++ [rc]) else (false, rq, [])).2.1))
      by_cases c4 : chA T L rq = 59
      · have hqL : rq < L := ch_lt hend (show ¬ chA T L rq = 256 by omega)
        rw [if_neg (fun q => q c4), if_pos c4, nxt_e, b1', nt_succ]
        have f2 : frm kRr v (uI v 1363 0 (nt (rq + 1))) := frm_uI rfl
        obtain ⟨w, w1, w2, w3, w4⟩ := mLn x1 x2 f (rq + 1) (ls ++ [rc]) (uI v 1363 0 (nt (rq + 1))) fu (Ilen_f f2 hLv) (mD_f2 f2 hDv) (by
          rw [hfl, List.length_append]
          refine ⟨by rw [I_uI, m1_s], ?_, ?_, ?_⟩
          · rw [I_uI_n (by decide)]; exact b2'
          · rw [I_uI_n (by decide)]; exact b3'
          · rw [I_uI_n (by decide)]; exact b4') (by rw [hfl, List.length_append]; omega) hqL (by rw [List.length_append, List.length_cons, List.length_nil]; omega) hrs (by omega) (by omega)
        exact ⟨w, w1, frm_tr fv (frm_tr f2 w2), uT_tr uTv (uT_tr ⟨fun _ _ => rfl, fun _ _ => rfl, fun _ _ => ⟨rfl, rfl⟩⟩ w3), w4⟩
      · rw [if_pos c4, if_neg c4]
        unfold B_X13_rule_114
        rw [b2', if_neg neg1, hDv.2.1, b1', igE (by omega) (by omega)]
        by_cases e : L ≤ rq
        · have ech : chA T L rq = 256 := chA_end e
          rw [if_pos e, if_pos ech]
          exact ⟨v, rfl, fv, uTv, Or.inl ⟨rfl, b2', hrs⟩⟩
        · have hne : ¬ chA T L rq = 256 := by
            have h5 : chA T L rq = T rq := if_pos (by omega)
            have := hT rq (by omega)
            omega
          rw [if_neg e, if_neg hne, wrong_eq b1' b2', ob_s]
          refine ⟨uI v 1364 0 (nt rq), rfl, frm_tr fv (frm_uI rfl), uT_tr uTv ⟨fun _ _ => rfl, fun _ _ => rfl, fun _ _ => ⟨rfl, rfl⟩⟩, Or.inr ⟨rfl, by rw [I_uI, m1_s]⟩⟩
end
