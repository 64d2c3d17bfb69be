/-! PART c9: the first line of a text that doesn't hold, by both. -/
def vl (V : Int32 → Int32) (c : List (Int32 × Int32)) : Int32 := (ev V c []).headD 0
def fz (V : Int32 → Int32) : List (List (Int32 × Int32)) → Option Nat
  | [] => none
  | c :: r => if vl V c = 0 then some 0 else oel (fz V r) none (fun i => some (i + 1))
theorem vl_is {V : Int32 → Int32} {c : List (Int32 × Int32)} {x : Int32} (h : isV V c x) : vl V c = x := by
  unfold vl
  rw [h []]
  rfl
theorem ev_dp {V : Int32 → Int32} : ∀ c d e, dp c d = some e → ∀ a : List Int32, a.length = d → ∃ b : List Int32, b.length = e ∧ ∀ st, ev V c (a ++ st) = b ++ st
  | [], d, e, h, a, ha => ⟨a, by rw [ha]; exact Option.some.inj h, fun _ => rfl⟩
  | s :: c, d, e, h, a, ha => by
    have h0 : oel (dpS s d) none (dp c) = some e := h
    unfold dpS at h0
    have fin : ∀ d' a', a'.length = d' → dp c d' = some e → (∀ st, evS V s (a ++ st) = a' ++ st) → ∃ b : List Int32, b.length = e ∧ ∀ st, ev V (s :: c) (a ++ st) = b ++ st := by
      intro d' a' ha' hd' he
      obtain ⟨b, q1, q2⟩ := ev_dp c d' e hd' a' ha'
      refine ⟨b, q1, fun st => ?_⟩
      show ev V c (evS V s (a ++ st)) = b ++ st
      rw [he st]
      exact q2 st
    by_cases c1 : s.1 = 1
    · rw [if_pos c1, oel_s] at h0
      exact fin (d + 1) (s.2 :: a) (by show a.length + 1 = d + 1; omega) h0 (fun st => by
        unfold evS
        rw [if_pos c1]; rfl)
    rw [if_neg c1] at h0
    by_cases c2 : s.1 = 2
    · rw [if_pos c2] at h0
      by_cases hx : (ix 12 s.2).isSome = true
      · rw [if_pos hx, oel_s] at h0
        exact fin (d + 1) (V s.2 :: a) (by show a.length + 1 = d + 1; omega) h0 (fun st => by
          unfold evS
          rw [if_neg c1, if_pos c2]; rfl)
      · rw [if_neg hx, oel_n] at h0; cases h0
    rw [if_neg c2] at h0
    by_cases c3 : s.1 = 3
    · rw [if_pos c3] at h0
      by_cases hd : 1 ≤ d
      · rw [if_pos hd, oel_s] at h0
        cases a with
        | nil => have : 0 = d := ha; omega
        | cons y a =>
          exact fin d ((if y = 0 then 1 else 0) :: a) ha h0 (fun st => by
            unfold evS
            rw [if_neg c1, if_neg c2, if_pos c3]; rfl)
      · rw [if_neg hd, oel_n] at h0; cases h0
    rw [if_neg c3] at h0
    by_cases hd : 2 ≤ d
    · rw [if_pos hd, oel_s] at h0
      cases a with
      | nil => have : 0 = d := ha; omega
      | cons y a =>
        cases a with
        | nil => have : 1 = d := ha; omega
        | cons x a =>
          have ha' : a.length + 1 + 1 = d := ha
          exact fin (d - 1) (bothP s.1 x y :: a) (by show a.length + 1 = d - 1; omega) h0 (fun st => by
            unfold evS
            rw [if_neg c1, if_neg c2, if_neg c3]; rfl)
    · rw [if_neg hd, oel_n] at h0; cases h0
theorem wfc_is {V : Int32 → Int32} {c : List (Int32 × Int32)} (h : wfc c) : isV V c (vl V c) := by
  obtain ⟨b, q1, q2⟩ := ev_dp (V := V) c 0 1 (h 0) [] rfl
  cases b with
  | nil => cases q1
  | cons x b =>
    cases b with
    | cons y b =>
      have q1' : b.length + 1 + 1 = 1 := q1
      omega
    | nil =>
      have hx : isV V c x := fun st => q2 st
      rw [vl_is hx]
      exact hx
theorem fz_cong {V F : Int32 → Int32} : ∀ ls : List (List (Int32 × Int32)), (∀ c, c ∈ ls → ∀ s, s ∈ c → s.1 = 2 → V s.2 = F s.2) → fz V ls = fz F ls
  | [], _ => rfl
  | c :: r, h => by
    unfold fz vl
    rw [ev_cong (V := V) (F := F) c [] (h c List.mem_cons_self), fz_cong r (fun c' hc => h c' (List.mem_cons_of_mem c hc))]
section
variable {T : Nat → Nat} {L j : Nat} {V F : Nat → Int32}
theorem cBr : ∀ f p ls (t : TS) fu k m, Ilen t → cD t T L j V → cAt t p m → p ≤ L → k ≤ p → L - p < f → L - p < fu → (pRu (chA T L) f p ls).1 = true → ∃ ls' u, (pRu (chA T L) f p ls).2.2 = ls ++ ls' ∧ frm kCr t u ∧ B_X7_brokenLineOf_9 fu t (nt k) = some (oel (fz (VV V) ls') (-1) (fun i => nt (k + i)), u)
  | 0, p, ls, t, fu, k, m, _, _, _, _, _, h1, _, _ => by omega
  | f + 1, p, ls, t, fu, k, m, hL, hD, hat, hp, hk, h1, h2, h => by
    obtain ⟨fu, rfl⟩ : ∃ k, fu = k + 1 := ⟨fu - 1, by omega⟩
    have hend : ∀ p, L ≤ p → chA T L p = 256 := fun p hp => chA_end hp
    have hL160 := hD.1
    have h705 : ∀ u, frm kCr t u → tI u 705 0 = nt L := fun u h => by rw [(h.1 705 rfl).2.1]; exact hD.2.2.1
    obtain ⟨x, u, a1, -, a2⟩ := any0 hL hD hat hp
    have hgo := pB_go (ch := chA T L) hend 100 2 p 0 hp
    have hun : B_X7_brokenLineOf_9 (fu + 1) t (nt k) = (if ¬ x = 0 then (if tI u 706 0 < tI u 705 0 then Option.bind (F_X7_pass u 59) (fun r24 => B_X7_brokenLineOf_9 fu r24 (nt k + 1)) else some (-1, u)) else some (nt k, u)) := by
      show BB_X7_brokenLineOf_9 (B_X7_brokenLineOf_9 fu) t (nt k) = _
      unfold BB_X7_brokenLineOf_9
      rw [hD.2.2.1, ilT (by omega) (by omega), if_neg (by omega), a1, ob2_s]
    rw [hun]
    unfold pRu at h ⊢
    generalize pB (chA T L) 100 2 p 0 = r at a2 hgo h ⊢
    obtain ⟨rb, rq, rc⟩ := r
    obtain ⟨af, ah⟩ := a2
    have hDu := cD_f af hD
    have hLu := Ilen_f af hL
    cases rb with
    | false => rw [if_neg ffn] at h; cases h
    | true =>
      rcases hgo with ⟨-, k1, k2, k3⟩ | ⟨k1, -⟩
      case inr => cases k1
      have k1' : p < rq := k1
      have k2' : rq ≤ L := k2
      rcases ah with ⟨-, hatu, hv⟩ | ⟨h4, -⟩
      case inr => cases h4
      have hatu' : cAt u rq (nmk m rc) := hatu
      have hvl : vl (VV V) rc = x := vl_is hv
      rw [if_pos rfl] at h ⊢
      have rest : ∃ ls', (if chA T L (true, rq, rc).2.1 = 59 then pRu (chA T L) f ((true, rq, rc).2.1 + 1) (ls ++ [(true, rq, rc).2.2]) else if chA T L (true, rq, rc).2.1 = 256 then (true, (true, rq, rc).2.1, ls ++ [(true, rq, rc).2.2]) else (false, (true, rq, rc).2.1, [])).2.2 = ls ++ rc :: ls' ∧ (¬ x = 0 → ∃ w, frm kCr t w ∧ (if tI u 706 0 < tI u 705 0 then Option.bind (F_X7_pass u 59) (fun r24 => B_X7_brokenLineOf_9 fu r24 (nt k + 1)) else some (-1, u)) = some (oel (fz (VV V) ls') (-1) (fun i => nt (k + 1 + i)), w)) := by
        rw [hatu'.1, h705 u af, ilT (by omega) (by omega)]
        by_cases c4 : chA T L rq = 59
        · have hqL : rq < L := ch_lt hend (show ¬ chA T L rq = 256 by omega)
          have e : (if chA T L (true, rq, rc).2.1 = 59 then pRu (chA T L) f ((true, rq, rc).2.1 + 1) (ls ++ [(true, rq, rc).2.2]) else if chA T L (true, rq, rc).2.1 = 256 then (true, (true, rq, rc).2.1, ls ++ [(true, rq, rc).2.2]) else (false, (true, rq, rc).2.1, [])) = pRu (chA T L) f (rq + 1) (ls ++ [rc]) := if_pos c4
          rw [e] at h ⊢
          have f2 : frm kCr u (uI u 706 0 (nt (rq + 1))) := frm_uI rfl
          have hat2 : cAt (uI u 706 0 (nt (rq + 1))) (rq + 1) (nmk m rc) := by
            refine ⟨by rw [I_uI, m1_s], ?_, ?_⟩
            · rw [I_uI_n (by decide)]; exact hatu'.2.1
            · rw [I_uI_n (by decide)]; exact hatu'.2.2
          obtain ⟨ls', w, q1, q2, q3⟩ := cBr f (rq + 1) (ls ++ [rc]) (uI u 706 0 (nt (rq + 1))) fu (k + 1) (nmk m rc) (Ilen_f f2 hLu) (cD_f f2 hDu) hat2 hqL (by omega) (by omega) (by omega) h
          refine ⟨ls', by rw [q1, List.append_assoc]; rfl, fun _ => ⟨w, frm_tr af (frm_tr f2 q2), ?_⟩⟩
          rw [if_pos hqL, show (59 : Int32) = nt 59 from rfl, pass_eq hDu hatu' k2' (by omega), if_pos c4, ob_s, nt_succ]
          exact q3
        · by_cases c5 : chA T L rq = 256
          · have e : (if chA T L (true, rq, rc).2.1 = 59 then pRu (chA T L) f ((true, rq, rc).2.1 + 1) (ls ++ [(true, rq, rc).2.2]) else if chA T L (true, rq, rc).2.1 = 256 then (true, (true, rq, rc).2.1, ls ++ [(true, rq, rc).2.2]) else (false, (true, rq, rc).2.1, [])) = (true, rq, ls ++ [rc]) := by
              rw [if_neg (show ¬ chA T L (true, rq, rc).2.1 = 59 from c4), if_pos (show chA T L (true, rq, rc).2.1 = 256 from c5)]
            rw [e]
            have hnl : ¬ rq < L := fun q => by
              have h5 : chA T L rq = T rq := if_pos q
              have := (hD.2.2.2.2.1 rq q).2
              omega
            refine ⟨[], rfl, fun _ => ⟨u, af, ?_⟩⟩
            rw [if_neg hnl]
            rfl
          · have e : (if chA T L (true, rq, rc).2.1 = 59 then pRu (chA T L) f ((true, rq, rc).2.1 + 1) (ls ++ [(true, rq, rc).2.2]) else if chA T L (true, rq, rc).2.1 = 256 then (true, (true, rq, rc).2.1, ls ++ [(true, rq, rc).2.2]) else (false, (true, rq, rc).2.1, [])) = (false, rq, []) := by
              rw [if_neg (show ¬ chA T L (true, rq, rc).2.1 = 59 from c4), if_neg (show ¬ chA T L (true, rq, rc).2.1 = 256 from c5)]
            rw [e] at h
            cases h
      obtain ⟨ls', q1, q2⟩ := rest
      by_cases e : x = 0
      · rw [if_neg (show ¬ ¬ x = 0 from fun q => q e)]
        refine ⟨rc :: ls', u, q1, af, ?_⟩
        show _ = some (oel (if vl (VV V) rc = 0 then some 0 else _) (-1) (fun i => nt (k + i)), u)
        rw [if_pos (show vl (VV V) rc = 0 by rw [hvl]; exact e), oel_s, Nat.add_zero]
      · obtain ⟨w, w1, w2⟩ := q2 e
        rw [if_pos (show ¬ x = 0 from e), w2]
        refine ⟨rc :: ls', w, q1, w1, ?_⟩
        show _ = some (oel (if vl (VV V) rc = 0 then some 0 else oel (fz (VV V) ls') none (fun i => some (i + 1))) (-1) (fun i => nt (k + i)), w)
        rw [if_neg (show ¬ vl (VV V) rc = 0 by rw [hvl]; exact e)]
        cases fz (VV V) ls' with
        | none => rfl
        | some i =>
          rw [oel_s, oel_s, oel_s]
          exact congrArg (fun z => some (nt z, w)) (by omega)
/-- the class asks a rule's text -/
theorem broken_c {t : TS} {j : Nat} (hL : Ilen t) (hn : L ≤ 160) (hl : tL t 2700 j = L) (hb : ∀ i, i < L → tA t 2700 j i = bt (T i) ∧ T i < 256) (hV : tA t 2702 0 = V) (hok : (pRu (chA T L) 200 0 []).1 = true) : ∃ u, F_X7_brokenLineOf t (some j) = some (oel (fz (VV V) (pRu (chA T L) 200 0 []).2.2) (-1) nt, u) ∧ frm (ks [703, 704, 705, 706, 707]) t u := by
  obtain ⟨u0, a1, a2, a3, a4⟩ := begin_eq (T := T) (V := V) hL hn (by omega) (by omega) hb hV
  obtain ⟨N, hN⟩ : ∃ N : Nat, N = 10000 := ⟨_, rfl⟩
  obtain ⟨ls', u, q1, q2, q3⟩ := cBr 200 0 [] u0 N 0 0 (Ilen_f a2 hL) a3 a4 (Nat.zero_le _) (Nat.le_refl _) (by omega) (by omega) hok
  rw [List.nil_append] at q1
  refine ⟨u, ?_, frm_tr a2 (frm_sb q2 (ks_sb rfl))⟩
  unfold F_X7_brokenLineOf
  rw [oc_s, hl]
  show Option.bind (F_X7_begin t (some j) (nt L)) _ = _
  rw [a1, ob_s, ← hN]
  show B_X7_brokenLineOf_9 N u0 (nt 0) = _
  rw [q3, q1]
  cases fz (VV V) ls' with
  | none => rfl
  | some i => rw [oel_s, oel_s, Nat.zero_add]
/-- the model asks a rule's lines -/
theorem broken_m {R : Nat} (hR : R < 17) (lsA : List (List (Int32 × Int32))) (hwf : ∀ c, c ∈ lsA → wfc c) (h90 : lsA.length ≤ 90) (h200 : lsA.flatten.length ≤ 200) : ∀ (ls' pre : List (List (Int32 × Int32))) (t : TS) fu, lsA = pre ++ ls' → Ilen t → tA t 3368 0 = F → rSt t R lsA → ls'.length < fu → ∃ u, B_X13_firstBroken_223 fu t (nt R) (nt pre.flatten.length) (nt pre.length) = some (oel (fz (VV F) ls') (-1) (fun i => nt (pre.length + i)), u) ∧ frm (ks [3369]) t u
  | [], pre, t, fu, hA, hL, hF, hst, hfu => by
    obtain ⟨fu, rfl⟩ : ∃ k, fu = k + 1 := ⟨fu - 1, by have : 0 < fu := hfu; omega⟩
    rw [List.append_nil] at hA
    refine ⟨t, ?_, frm_rf⟩
    show BB_X13_firstBroken_223 (B_X13_firstBroken_223 fu) t _ _ _ = _
    unfold BB_X13_firstBroken_223
    rw [(show tL _ 3359 0 = 17 from hL 3359 rfl), gd_nt _ (by omega) (by omega), nt_cl (by omega), hst.1, igE (by rw [← hA]; omega) (by omega), if_pos (by rw [hA]; exact Nat.le_refl _)]
    rfl
  | c :: ls', pre, t, fu, hA, hL, hF, hst, hfu => by
    obtain ⟨fu, rfl⟩ : ∃ k, fu = k + 1 := ⟨fu - 1, by omega⟩
    have hfu' : ls'.length + 1 < fu + 1 := hfu
    have hlen : lsA.length = pre.length + (ls'.length + 1) := by rw [hA, List.length_append]; rfl
    have hflat : lsA.flatten = pre.flatten ++ (c ++ ls'.flatten) := by rw [hA, List.flatten_append, List.flatten_cons]
    have hfl : lsA.flatten.length = pre.flatten.length + (c.length + ls'.flatten.length) := by rw [hflat, List.length_append, List.length_append]
    have hcum : cum lsA (pre.length + 1) = pre.flatten.length + c.length := by
      unfold cum
      rw [hA, List.take_append, List.take_of_length_le (by omega), show pre.length + 1 - pre.length = 1 by omega, List.flatten_append, List.length_append]
      show pre.flatten.length + (List.flatten [c]).length = _
      rw [List.flatten_cons, List.flatten_nil, List.append_nil]
    have hw : wfc c := hwf c (by rw [hA]; exact List.mem_append_right _ List.mem_cons_self)
    have hend := hst.2.1 pre.length (by omega)
    rw [hcum] at hend
    have e90 : (90 : Int32) * nt R + nt pre.length = nt (90 * R + pre.length) := by rw [show (90 : Int32) = nt 90 from rfl, nt_mul, nt_add]
    obtain ⟨w, w1, w2⟩ := worked_eq (F := F) hR (c := c) (u := t) (a := pre.flatten.length) (b := pre.flatten.length + c.length) hL hF hw (by omega) (fun i hi => by
      have := hst.2.2 (pre.flatten.length + i) (by omega)
      rw [hflat, List.getD_eq_getElem?_getD, List.getElem?_append_right (by omega), Nat.add_sub_cancel_left, List.getElem?_append_left hi, ← List.getD_eq_getElem?_getD, ← Nat.add_assoc] at this
      exact this) rfl (by omega) (wfc_is hw)
    have hst' : rSt w R lsA := by
      unfold rSt at hst ⊢
      rw [(w2.1 3359 rfl).2.2.2.2.1, (w2.1 3360 rfl).2.2.2.2.1, (w2.1 3361 rfl).2.2.2.2.1, (w2.1 3362 rfl).2.2.2.2.1]
      exact hst
    have hun : B_X13_firstBroken_223 (fu + 1) t (nt R) (nt pre.flatten.length) (nt pre.length) = (if ¬ vl (VV F) c = 0 then B_X13_firstBroken_223 fu w (nt R) (nt (pre.flatten.length + c.length)) (nt (pre.length + 1)) else some (nt pre.length, w)) := by
      show BB_X13_firstBroken_223 (B_X13_firstBroken_223 fu) t _ _ _ = _
      unfold BB_X13_firstBroken_223
      rw [(show tL _ 3359 0 = 17 from hL 3359 rfl), (show tL _ 3360 0 = 1530 from hL 3360 rfl), gd_nt _ (by omega) (by omega), nt_cl (by omega), hst.1, igE (by omega) (by omega), if_neg (by omega), e90, gd_nt _ (by omega) (by omega), nt_cl (by omega), hend, w1, ob2_s, nt_succ]
    rw [hun]
    by_cases e : vl (VV F) c = 0
    · rw [if_neg (fun q => q e)]
      refine ⟨w, ?_, w2⟩
      show _ = some (oel (if vl (VV F) c = 0 then some 0 else _) (-1) (fun i => nt (pre.length + i)), w)
      rw [if_pos e, oel_s, Nat.add_zero]
    · have hp2 : (pre ++ [c]).flatten.length = pre.flatten.length + c.length := by rw [List.flatten_append, List.length_append, List.flatten_cons, List.flatten_nil, List.append_nil]
      have hp3 : (pre ++ [c]).length = pre.length + 1 := by rw [List.length_append, List.length_cons, List.length_nil]
      obtain ⟨u, q1, q2⟩ := broken_m hR lsA hwf h90 h200 ls' (pre ++ [c]) w fu (by rw [hA, List.append_assoc]; rfl) (Ilen_f w2 hL) (by rw [(w2.1 3368 rfl).2.2.2.2.1]; exact hF) hst' (by omega)
      rw [hp2, hp3] at q1
      rw [if_pos e, q1]
      refine ⟨u, ?_, frm_tr w2 q2⟩
      show _ = some (oel (if vl (VV F) c = 0 then some 0 else oel (fz (VV F) ls') none (fun i => some (i + 1))) (-1) (fun i => nt (pre.length + i)), u)
      rw [if_neg e]
      cases fz (VV F) ls' with
      | none => rfl
      | some i =>
        rw [oel_s, oel_s, oel_s]
        exact congrArg (fun z => some (nt z, u)) (by omega)
end
