/-! PART b9: the class reads a text: lines. -/
section
variable {T : Nat → Nat} {L j : Nat} {V : Nat → Int32}
def P01 (x : Int32) : Prop := x = 0 ∨ x = 1
theorem gb_p {α : Type} {x : Int32} (h : P01 x) (k : Option α) : gb x k = k := by
  unfold gb
  exact if_pos h
theorem and_01 {v x : Int32} (hv : P01 v) (hx : P01 x) : v &&& x = bothP 4 v x ∧ P01 (bothP 4 v x) := by
  rcases hv with rfl | rfl <;> rcases hx with rfl | rfl
  · exact ⟨by decide, Or.inl (by decide)⟩
  · exact ⟨by decide, Or.inl (by decide)⟩
  · exact ⟨by decide, Or.inl (by decide)⟩
  · exact ⟨by decide, Or.inr (by decide)⟩
theorem or_01 {v x : Int32} (hv : P01 v) (hx : P01 x) : v ||| x = bothP 5 v x ∧ P01 (bothP 5 v x) := by
  rcases hv with rfl | rfl <;> rcases hx with rfl | rfl
  · exact ⟨by decide, Or.inl (by decide)⟩
  · exact ⟨by decide, Or.inr (by decide)⟩
  · exact ⟨by decide, Or.inr (by decide)⟩
  · exact ⟨by decide, Or.inr (by decide)⟩
theorem cBs (g : Nat → TS → Int32 → Option (Int32 × TS)) {rb re : Nat → Nat → Bool × Nat × List (Int32 × Int32)} {o : Nat} (hbgo : ∀ p o, p ≤ L → pgo L p (rb p o)) (hego : ∀ p o, p ≤ L → pgo L p (re p o)) (hgb : ¬ o = 8 → ∀ t p m, cD t T L j V → Ilen t → cAt t p m → p ≤ L → ∃ x u, g 2 t (nt (o + 1)) = some (x, u) ∧ P01 x ∧ cOut t u (chA T L) V m (rb p (o + 1)) x) (hge : ¬ o = 8 → ∀ t p m, cD t T L j V → Ilen t → cAt t p m → p ≤ L → ∃ x u, g 0 t (nt (o + 1)) = some (x, u) ∧ P01 x ∧ cOut t u (chA T L) V m (re p (o + 1)) x) (ho : o ≤ 8) {t : TS} {p : Nat} {m : Int32} (hL : Ilen t) (hD : cD t T L j V) (hat : cAt t p m) (hp : p ≤ L) : ∃ x u, Fb_X7_base g t (nt o) = some (x, u) ∧ P01 x ∧ cOut t u (chA T L) V m (pBs (chA T L) rb re p o) x := by
  have hD0 := hD
  have hat0 := hat
  obtain ⟨hL160, h2, h3, h4, h5, h6⟩ := hD
  obtain ⟨a1, a2, a3⟩ := hat
  have hT : ∀ i, i < L → T i < 256 := fun i hi => (h5 i hi).2
  have hle := fun p => chA_le (T := T) (L := L) hT p
  have hend : ∀ p, L ≤ p → chA T L p = 256 := fun p hp => chA_end hp
  have c33 : (pk (chA T L p) = 33) = (chA T L p = 33) := propext (pk_sg _ (hle p) 33 (by omega))
  have c33n : (¬ pk (chA T L p) = 33) = ¬ chA T L p = 33 := congrArg Not c33
  have c91 : (¬ pk (chA T L p) = 91) = ¬ chA T L p = 91 := congrArg Not (propext (pk_sg _ (hle p) 91 (by omega)))
  have c8 : (nt o < (8 : Int32)) = (o < 8) := lt_nt (n := 8) (by omega) (by omega)
  have f1 : frm kCr t (uI t 706 0 (nt (p + 1))) := frm_uI rfl
  have hat1 : cAt (uI t 706 0 (nt (p + 1))) (p + 1) m := by
    refine ⟨by rw [I_uI, m1_s], ?_, ?_⟩
    · rw [I_uI_n (by decide)]; exact a2
    · rw [I_uI_n (by decide)]; exact a3
  have bad8 : ∃ x u, ob2 (F_X7_fail t) (fun x30 t31 => some (0, t31)) = some (x, u) ∧ P01 x ∧ cOut t u (chA T L) V m (false, p, []) x := by
    rw [fail_eq a1 a2, ob2_s]
    exact ⟨0, _, rfl, Or.inl rfl, frm_uI rfl, Or.inr ⟨rfl, by rw [I_uI_n (by decide)]; exact a1, Or.inl (by rw [I_uI, m1_s])⟩⟩
  unfold Fb_X7_base pBs
  rw [peek_eq hD0 a1 hp, ob_s, ifP c33, ifP c91]
  unfold B_X7_base_17
  rw [ifP c8, a1, nt_succ, nt_succ, nxt_e, ifP c33n]
  by_cases c1 : chA T L p = 33
  · have hpL : p < L := ch_lt hend (show ¬ chA T L p = 256 by omega)
    rw [if_pos c1, if_pos c1]
    by_cases c3 : o = 8
    · rw [if_neg (show ¬ o < 8 by omega), if_pos c3]
      exact bad8
    rw [if_pos (show o < 8 by omega), if_neg c3, if_neg (fun q => q c1)]
    obtain ⟨x, v, g1, g2, g3⟩ := hgb c3 (uI t 706 0 (nt (p + 1))) (p + 1) m (cD_f f1 hD0) (Ilen_f f1 hL) hat1 hpL
    have hgo := hbgo (p + 1) (o + 1) hpL
    rw [g1, ob2_s]
    generalize rb (p + 1) (o + 1) = r at g3 hgo ⊢
    obtain ⟨rb', rq, rc⟩ := r
    obtain ⟨gf, gh⟩ := g3
    have fv : frm kCr t v := frm_tr f1 gf
    have hres : ∃ y, (if ¬ x = 0 then some ((0 : Int32), v) else some (1, v)) = some (y, v) ∧ P01 y ∧ y = if x = 0 then 1 else 0 := by
      by_cases e : x = 0
      · exact ⟨1, if_neg (fun q => q e), Or.inr rfl, (if_pos e).symm⟩
      · exact ⟨0, if_pos e, Or.inl rfl, (if_neg e).symm⟩
    obtain ⟨y, y1, y2, y3⟩ := hres
    rw [y1]
    cases rb' with
    | true =>
      rcases gh with ⟨-, hatv, hv⟩ | ⟨h4, -⟩
      case inr => cases h4
      have hatv' : cAt v rq (nmk m rc) := hatv
      rw [if_pos rfl]
      refine ⟨y, v, rfl, y2, fv, Or.inl ⟨rfl, ?_, ?_⟩⟩
      · show cAt v rq (nmk m (rc ++ [(3, 0)]))
        rw [nmk_app]
        exact hatv'
      · rw [y3]; exact isV_dny hv
    | false =>
      rcases gh with ⟨h4, -⟩ | ⟨-, h706, hbad⟩
      · cases h4
      rw [if_neg ffn]
      exact ⟨y, v, rfl, y2, fv, Or.inr ⟨rfl, h706, hbad⟩⟩
  rw [if_neg c1, if_neg c1]
  by_cases c2 : chA T L p = 91
  · have hpL : p < L := ch_lt hend (show ¬ chA T L p = 256 by omega)
    rw [if_neg (fun q => q c2), if_pos c2]
    by_cases c3 : o = 8
    · rw [if_neg (show ¬ o < 8 by omega), if_pos c3]
      exact bad8
    rw [if_pos (show o < 8 by omega), if_neg c3, if_pos c1]
    obtain ⟨x, v, g1, g2, g3⟩ := hge c3 (uI t 706 0 (nt (p + 1))) (p + 1) m (cD_f f1 hD0) (Ilen_f f1 hL) hat1 hpL
    have hgo := hego (p + 1) (o + 1) hpL
    rw [g1, ob2_s]
    generalize re (p + 1) (o + 1) = r at g3 hgo ⊢
    obtain ⟨rb', rq, rc⟩ := r
    obtain ⟨gf, gh⟩ := g3
    have fv : frm kCr t v := frm_tr f1 gf
    have hDv := cD_f fv hD0
    cases rb' with
    | true =>
      rcases hgo with ⟨-, k1, k2, k3⟩ | ⟨k1, -⟩
      case inr => cases k1
      have k2' : rq ≤ L := k2
      rcases gh with ⟨-, hatv, hv⟩ | ⟨h4, -⟩
      case inr => cases h4
      have hatv' : cAt v rq (nmk m rc) := hatv
      rw [show (93 : Int32) = nt 93 from rfl, pass_eq hDv hatv' k2' (by omega), if_pos rfl]
      show ∃ x' u, Option.bind (if chA T L rq = 93 then _ else _) _ = some (x', u) ∧ P01 x' ∧ cOut t u (chA T L) V m (if chA T L rq = 93 then _ else _) x'
      by_cases c4 : chA T L rq = 93
      · rw [if_pos c4, if_pos c4, ob_s, gb_p g2]
        refine ⟨x, _, rfl, g2, frm_tr fv (frm_uI rfl), Or.inl ⟨rfl, ⟨by rw [I_uI, m1_s], ?_, ?_⟩, hv⟩⟩
        · rw [I_uI_n (by decide)]; exact hatv'.2.1
        · rw [I_uI_n (by decide)]; exact hatv'.2.2
      · rw [if_neg c4, if_neg c4, ob_s, gb_p g2]
        exact ⟨x, _, rfl, g2, frm_tr fv (frm_uI rfl), Or.inr ⟨rfl, by rw [I_uI_n (by decide)]; exact hatv'.1, Or.inl (by rw [I_uI, m1_s])⟩⟩
    | false =>
      rcases hgo with ⟨k1, -⟩ | ⟨-, k2, k3⟩
      · cases k1
      have k3' : rq ≤ L := k3
      rcases gh with ⟨h4, -⟩ | ⟨-, h706, hbad⟩
      · cases h4
      obtain ⟨u, p1, p2, p3, p4⟩ := pass_bad hDv k3' h706 hbad (s := 93) (by omega) rfl
      rw [show (93 : Int32) = nt 93 from rfl, p1, ob_s, if_neg ffn, gb_p g2]
      exact ⟨x, u, rfl, g2, frm_tr fv p2, Or.inr ⟨rfl, p3, Or.inl p4⟩⟩
  rw [if_pos c2, if_neg c2]
  have hsum : ∀ (t : TS) p m, cD t T L j V → Ilen t → cAt t p m → p ≤ L → ∃ x u, F_X7_sum t (nt o) = some (x, u) ∧ cOut t u (chA T L) V m (pI (chA T L) 100 2 p o) x := fun t p m q1 q2 q3 q4 => cI_eq 100 2 p o t m (by omega) (by omega) ho q2 q1 q3 q4
  obtain ⟨v, u, s1, s2⟩ := hsum t p m hD0 hL hat0 hp
  have hsgo := pI_go (ch := chA T L) hend 100 2 p o hp
  have hrgo := fun q hq => pI_go (ch := chA T L) hend 100 2 q o hq
  rw [s1, ob2_s]
  generalize pI (chA T L) 100 2 p o = s at s2 hsgo ⊢
  obtain ⟨sb', sq, sc⟩ := s
  obtain ⟨gf, gh⟩ := s2
  have hDu := cD_f gf hD0
  have hLu := Ilen_f gf hL
  have e118 : ∀ q, q ≤ L → tI u 706 0 = nt q → (tI u 707 0 = nt q ∨ (tI u 707 0 = -1 ∧ isD (chA T L q) = true)) → ∃ x w, B_X7_base_118 g u = some (x, w) ∧ P01 x ∧ cOut t w (chA T L) V m (false, q, []) x := by
    intro q hq h706 hb
    obtain ⟨w, w1, w2, w3, w4⟩ := fail_bad hDu hq h706 hb
    unfold B_X7_base_118
    rw [w1, ob2_s]
    exact ⟨0, w, rfl, Or.inl rfl, frm_tr gf w2, Or.inr ⟨rfl, w3, Or.inl w4⟩⟩
  have hrel : ∀ q, (pk (chA T L q) = 60) = (chA T L q = 60) ∧ (pk (chA T L q) = 61) = (chA T L q = 61) ∧ (pk (chA T L q) = 62) = (chA T L q = 62) := fun q => ⟨propext (pk_sg _ (hle q) 60 (by omega)), propext (pk_sg _ (hle q) 61 (by omega)), propext (pk_sg _ (hle q) 62 (by omega))⟩
  have hno : ∀ q, q ≤ L → tI u 706 0 = nt q → sgR (chA T L q) = false → (Option.bind (F_X7_peek u) (fun r25 => (if 0 ≤ (tI u 707 0) then (B_X7_base_118 g u) else (if r25 = 60 then (B_X7_base_125 g u (nt o) v r25) else (if r25 = 61 then (B_X7_base_125 g u (nt o) v r25) else (if r25 = 62 then (B_X7_base_125 g u (nt o) v r25) else (B_X7_base_118 g u))))))) = B_X7_base_118 g u := by
    intro q hq h706 hs
    obtain ⟨r1, r2, r3⟩ := hrel q
    rw [peek_eq hDu h706 hq, ob_s, ifP r1, ifP r2, ifP r3]
    unfold sgR at hs
    simp only [Bool.or_eq_false_iff, decide_eq_false_iff_not] at hs
    rw [if_neg hs.1, if_neg hs.2.1, if_neg hs.2.2, ite_self]
  cases sb' with
  | false =>
    rcases hsgo with ⟨k1, -⟩ | ⟨-, k2, k3⟩
    · cases k1
    have k3' : sq ≤ L := k3
    rcases gh with ⟨h4, -⟩ | ⟨-, h706, hbad⟩
    · cases h4
    have h706' : tI u 706 0 = nt sq := h706
    rw [if_neg ffn]
    have hbad' : tI u 707 0 = nt sq ∨ (tI u 707 0 = -1 ∧ isD (chA T L sq) = true) := hbad
    have e : (Option.bind (F_X7_peek u) (fun r25 => (if 0 ≤ (tI u 707 0) then (B_X7_base_118 g u) else (if r25 = 60 then (B_X7_base_125 g u (nt o) v r25) else (if r25 = 61 then (B_X7_base_125 g u (nt o) v r25) else (if r25 = 62 then (B_X7_base_125 g u (nt o) v r25) else (B_X7_base_118 g u))))))) = B_X7_base_118 g u := by
      rcases hbad' with hb | ⟨hb1, hb2⟩
      · rw [peek_eq hDu h706' k3', ob_s, hb, if_pos (nt_nn (by omega))]
      · exact hno sq k3' h706' (sg_d _ (hle sq) hb2).2.2.2.2
    rw [e]
    exact e118 sq k3' h706' hbad'
  | true =>
  rcases hsgo with ⟨-, k1, k2, k3⟩ | ⟨k1, -⟩
  case inr => cases k1
  have k2' : sq ≤ L := k2
  rcases gh with ⟨-, hatu, hv⟩ | ⟨h4, -⟩
  case inr => cases h4
  have hatu' : cAt u sq (nmk m sc) := hatu
  have hv' : isV (VV V) sc v := hv
  rw [if_pos rfl]
  show ∃ x w, _ = some (x, w) ∧ P01 x ∧ cOut t w (chA T L) V m (if sgR (chA T L sq) = true then _ else _) x
  by_cases cr : sgR (chA T L sq) = true
  case neg =>
    have cr' : sgR (chA T L sq) = false := by simpa using cr
    rw [hno sq k2' hatu'.1 cr', if_neg cr]
    unfold B_X7_base_118
    rw [fail_eq hatu'.1 hatu'.2.1, ob2_s]
    exact ⟨0, _, rfl, Or.inl rfl, frm_tr gf (frm_uI rfl), Or.inr ⟨rfl, by rw [I_uI_n (by decide)]; exact hatu'.1, Or.inl (by rw [I_uI, m1_s])⟩⟩
  have hsL : sq < L := ch_lt hend (show ¬ chA T L sq = 256 from fun q => by rw [q] at cr; exact absurd cr (by decide))
  obtain ⟨r1, r2, r3⟩ := hrel sq
  have hcase : chA T L sq = 60 ∨ chA T L sq = 61 ∨ chA T L sq = 62 := by
    have cr2 := cr
    unfold sgR at cr2
    simp only [Bool.or_eq_true, decide_eq_true_eq] at cr2
    exact cr2
  have epk : pk (chA T L sq) = nt (chA T L sq) := by
    unfold pk
    rw [if_neg (by omega)]
  have e125 : (Option.bind (F_X7_peek u) (fun r25 => (if 0 ≤ (tI u 707 0) then (B_X7_base_118 g u) else (if r25 = 60 then (B_X7_base_125 g u (nt o) v r25) else (if r25 = 61 then (B_X7_base_125 g u (nt o) v r25) else (if r25 = 62 then (B_X7_base_125 g u (nt o) v r25) else (B_X7_base_118 g u))))))) = B_X7_base_125 g u (nt o) v (nt (chA T L sq)) := by
    rw [peek_eq hDu hatu'.1 k2', ob_s, hatu'.2.1, if_neg neg1, ifP r1, ifP r2, ifP r3, epk]
    by_cases q1 : chA T L sq = 60
    · rw [if_pos q1]
    rw [if_neg q1]
    by_cases q2 : chA T L sq = 61
    · rw [if_pos q2]
    rw [if_neg q2, if_pos ((hcase.resolve_left q1).resolve_left q2)]
  rw [e125, if_pos cr]
  have f2 : frm kCr u (uI u 706 0 (nt (sq + 1))) := frm_uI rfl
  have hat2 : cAt (uI u 706 0 (nt (sq + 1))) (sq + 1) (nmk m sc) := by
    refine ⟨by rw [I_uI, m1_s], ?_, ?_⟩
    · rw [I_uI_n (by decide)]; exact hatu'.2.1
    · rw [I_uI_n (by decide)]; exact hatu'.2.2
  obtain ⟨x, w, w1, w2⟩ := hsum (uI u 706 0 (nt (sq + 1))) (sq + 1) (nmk m sc) (cD_f f2 hDu) (Ilen_f f2 hLu) hat2 hsL
  have hgo := hrgo (sq + 1) hsL
  unfold B_X7_base_125
  rw [hatu'.1, nt_succ, nxt_e, w1, ob2_s]
  have hres : ∃ y, (if ¬ nt (chA T L sq) = 60 then (if ¬ nt (chA T L sq) = 62 then (if ¬ v = x then some ((0 : Int32), w) else some (1, w)) else (if v ≤ x then some (0, w) else some (1, w))) else (if x ≤ v then some (0, w) else some (1, w))) = some (y, w) ∧ P01 y ∧ y = bothP (nt (chA T L sq)) v x := by
    rcases hcase with e | e | e
    · rw [e, if_neg (fun q => q rfl)]
      have hb : bothP (nt 60) v x = if v < x then 1 else 0 := rfl
      rw [hb]
      by_cases c : x ≤ v
      · exact ⟨0, if_pos c, Or.inl rfl, (if_neg (Int32.not_lt.mpr c)).symm⟩
      · exact ⟨1, if_neg c, Or.inr rfl, (if_pos (Int32.not_le.mp c)).symm⟩
    · rw [e, if_pos (show ¬ nt 61 = 60 by decide), if_pos (show ¬ nt 61 = 62 by decide)]
      have hb : bothP (nt 61) v x = if v = x then 1 else 0 := rfl
      rw [hb]
      by_cases c : v = x
      · exact ⟨1, if_neg (fun q => q c), Or.inr rfl, (if_pos c).symm⟩
      · exact ⟨0, if_pos c, Or.inl rfl, (if_neg c).symm⟩
    · rw [e, if_pos (show ¬ nt 62 = 60 by decide), if_neg (fun q => q rfl)]
      have hb : bothP (nt 62) v x = if x < v then 1 else 0 := rfl
      rw [hb]
      by_cases c : v ≤ x
      · exact ⟨0, if_pos c, Or.inl rfl, (if_neg (Int32.not_lt.mpr c)).symm⟩
      · exact ⟨1, if_neg c, Or.inr rfl, (if_pos (Int32.not_le.mp c)).symm⟩
  obtain ⟨y, y1, y2, y3⟩ := hres
  rw [y1]
  show ∃ x' w', some (y, w) = some (x', w') ∧ P01 x' ∧ cOut t w' (chA T L) V m (if (pI (chA T L) 100 2 (sq + 1) o).1 = true then (true, (pI (chA T L) 100 2 (sq + 1) o).2.1, sc ++ (pI (chA T L) 100 2 (sq + 1) o).2.2 ++ [(nt (chA T L sq), 0)]) else (false, (pI (chA T L) 100 2 (sq + 1) o).2.1, [])) x'
  generalize pI (chA T L) 100 2 (sq + 1) o = r at w2 hgo ⊢
  obtain ⟨rb', rq, rc⟩ := r
  obtain ⟨wf, wh⟩ := w2
  have fw : frm kCr t w := frm_tr gf (frm_tr f2 wf)
  cases rb' with
  | true =>
    rcases wh with ⟨-, hatw, hw⟩ | ⟨h4, -⟩
    case inr => cases h4
    have hatw' : cAt w rq (nmk (nmk m sc) rc) := hatw
    obtain ⟨o1, o2, o3⟩ := sg_op _ (hle sq) (by rw [cr]; cases sgP (chA T L sq) <;> cases sgS (chA T L sq) <;> rfl)
    rw [if_pos rfl]
    refine ⟨y, w, rfl, y2, fw, Or.inl ⟨rfl, ?_, ?_⟩⟩
    · show cAt w rq (nmk m (sc ++ rc ++ [(nt (chA T L sq), 0)]))
      rw [nmk_app, nmk_app]
      show cAt w rq (nmS (nmk (nmk m sc) rc) (nt (chA T L sq), 0))
      unfold nmS
      rw [if_neg o2]
      exact hatw'
    · rw [y3]
      exact isV_bin hv' hw o1 o2 o3
  | false =>
    rcases wh with ⟨h4, -⟩ | ⟨-, h706, hbad⟩
    · cases h4
    rw [if_neg ffn]
    exact ⟨y, w, rfl, y2, fw, Or.inr ⟨rfl, h706, hbad⟩⟩
end
