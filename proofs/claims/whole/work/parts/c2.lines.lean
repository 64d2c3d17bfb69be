/-! PART c2: a text's lines; the class finds a fault. -/
def pRu (ch : Nat → Nat) : Nat → Nat → List (List (Int32 × Int32)) → Bool × Nat × List (List (Int32 × Int32))
  | 0, p, ls => (false, p, ls)
  | f + 1, p, ls => if (pB ch 100 2 p 0).1 then (if ch (pB ch 100 2 p 0).2.1 = 59 then pRu ch f ((pB ch 100 2 p 0).2.1 + 1) (ls ++ [(pB ch 100 2 p 0).2.2]) else if ch (pB ch 100 2 p 0).2.1 = 256 then (true, (pB ch 100 2 p 0).2.1, ls ++ [(pB ch 100 2 p 0).2.2]) else (false, (pB ch 100 2 p 0).2.1, [])) else (false, (pB ch 100 2 p 0).2.1, [])
section
variable {T : Nat → Nat} {L j : Nat} {V : Nat → Int32}
theorem any0 {t : TS} {p : Nat} {m : Int32} (hL : Ilen t) (hD : cD t T L j V) (hat : cAt t p m) (hp : p ≤ L) : ∃ x u, F_X7_anyOf t 0 = some (x, u) ∧ P01 x ∧ cOut t u (chA T L) V m (pB (chA T L) 100 2 p 0) x := cB_eq 100 2 p 0 t m (by omega) (by omega) (by omega) hL hD hat hp
theorem cT : ∀ f p ls (t : TS) fu k m, Ilen t → cD t T L j V → cAt t p m → p ≤ L → k ≤ p → L - p < f → L - p + 1 < fu → ∃ u, frm kCr t u ∧ (((pRu (chA T L) f p ls).1 = true ∧ B_X7_faultOfTape_14 fu t (nt k) = some (-1, u) ∧ ∃ ls', (pRu (chA T L) f p ls).2.2 = ls ++ ls' ∧ tI u 703 0 = nmk m ls'.flatten) ∨ ((pRu (chA T L) f p ls).1 = false ∧ B_X7_faultOfTape_14 fu t (nt k) = some (nt (pRu (chA T L) f p ls).2.1, u) ∧ (pRu (chA T L) f p ls).2.1 ≤ L))
  | 0, p, ls, t, fu, k, m, _, _, _, _, _, h1, _ => by omega
  | f + 1, p, ls, t, fu, k, m, hL, hD, hat, hp, hk, h1, h2 => by
    obtain ⟨fu, rfl⟩ : ∃ k, fu = k + 1 := ⟨fu - 1, by omega⟩
    have hend : ∀ p, L ≤ p → chA T L p = 256 := fun p hp => chA_end hp
    have hT : ∀ i, i < L → T i < 256 := fun i hi => (hD.2.2.2.2.1 i hi).2
    have hL160 := hD.1
    have h705 : ∀ u, frm kCr t u → tI u 705 0 = nt L := fun u h => by rw [(h.1 705 rfl).2.1]; exact hD.2.2.1
    obtain ⟨x, u, a1, -, a2⟩ := any0 hL hD hat hp
    have hgo := pB_go (ch := chA T L) hend 100 2 p 0 hp
    have hun : B_X7_faultOfTape_14 (fu + 1) t (nt k) = (if 0 ≤ tI u 707 0 then some (tI u 707 0, u) else if tI u 706 0 < tI u 705 0 then Option.bind (F_X7_pass u 59) (fun r24 => B_X7_faultOfTape_14 fu r24 (nt k + 1)) else some (tI u 707 0, u)) := by
      show BB_X7_faultOfTape_14 (B_X7_faultOfTape_14 fu) t (nt k) = _
      unfold BB_X7_faultOfTape_14
      rw [hD.2.2.1, ilT (by omega) (by omega), if_neg (by omega), a1, ob2_s]
    rw [hun]
    unfold pRu
    generalize pB (chA T L) 100 2 p 0 = r at a2 hgo ⊢
    obtain ⟨rb, rq, rc⟩ := r
    obtain ⟨af, ah⟩ := a2
    have hDu := cD_f af hD
    have hLu := Ilen_f af hL
    -- what a pass that fails brings: one more turn, and nothing new
    have stop : ∀ (w : TS) q, frm kCr t w → q < L → k ≤ q → tI w 706 0 = nt q → tI w 707 0 = nt q → ∃ w', frm kCr t w' ∧ B_X7_faultOfTape_14 fu w (nt k + 1) = some (nt q, w') := by
      intro w q hf hq hkq e1 e2
      obtain ⟨fu, rfl⟩ : ∃ k, fu = k + 1 := ⟨fu - 1, by omega⟩
      have hDw := cD_f hf hD
      have hzw : 0 ≤ tI w 707 0 := by rw [e2]; exact nt_nn (by omega)
      obtain ⟨y, w', q1, -, q2⟩ := fB (T := T) (L := L) (j := j) (V := V) 100 2 q 0 w (by omega) (by omega) (by omega) (Ilen_f hf hL) hDw e1 (by omega) hzw
      have q1' : F_X7_anyOf w 0 = some (y, w') := q1
      refine ⟨w', frm_tr hf q2.1, ?_⟩
      show BB_X7_faultOfTape_14 (B_X7_faultOfTape_14 fu) w (nt k + 1) = _
      unfold BB_X7_faultOfTape_14
      rw [h705 w hf, nt_succ, ilT (by omega) (by omega), if_neg (by omega), q1', ob2_s, q2.2.1, if_pos hzw, e2]
    cases rb with
    | false =>
      rcases hgo with ⟨k1, -⟩ | ⟨-, k2, k3⟩
      · cases k1
      have k2' : p ≤ rq := k2
      have k3' : rq ≤ L := k3
      rcases ah with ⟨h4, -⟩ | ⟨-, h706, hbad⟩
      · cases h4
      have h706' : tI u 706 0 = nt rq := h706
      rw [if_neg ffn]
      rcases hbad with hb | ⟨hb1, hb2⟩
      · have hb' : tI u 707 0 = nt rq := hb
        rw [hb', if_pos (nt_nn (by omega))]
        exact ⟨u, af, Or.inr ⟨rfl, rfl, k3'⟩⟩
      · have hb2' : isD (chA T L rq) = true := hb2
        have hqL : rq < L := ch_lt hend (show ¬ chA T L rq = 256 from fun q => by rw [q] at hb2'; exact absurd hb2' (by decide))
        obtain ⟨v, p1, p2, p3, p4⟩ := pass_bad hDu k3' h706' (Or.inr ⟨hb1, hb2⟩) (s := 59) (by omega) rfl
        have hkq : k ≤ rq := by omega
        obtain ⟨w', w1, w2⟩ := stop v rq (frm_tr af p2) hqL hkq p3 p4
        rw [hb1, if_neg neg1, h706', h705 u af, ilT (by omega) (by omega), if_pos hqL, show (59 : Int32) = nt 59 from rfl, p1, ob_s]
        exact ⟨w', w1, Or.inr ⟨rfl, w2, k3'⟩⟩
    | true =>
      rcases hgo with ⟨-, k1, k2, k3⟩ | ⟨k1, -⟩
      case inr => cases k1
      have k1' : p < rq := k1
      have k2' : rq ≤ L := k2
      rcases ah with ⟨-, hatu, -⟩ | ⟨h4, -⟩
      case inr => cases h4
      have hatu' : cAt u rq (nmk m rc) := hatu
      rw [if_pos rfl, hatu'.2.1, if_neg neg1, hatu'.1, h705 u af, ilT (by omega) (by omega)]
      show ∃ w, frm kCr t w ∧ (((if chA T L rq = 59 then pRu (chA T L) f (rq + 1) (ls ++ [rc]) else if chA T L rq = 256 then (true, rq, ls ++ [rc]) else (false, rq, [])).1 = true ∧ _ ∧ ∃ ls', (if chA T L rq = 59 then pRu (chA T L) f (rq + 1) (ls ++ [rc]) else if chA T L rq = 256 then (true, rq, ls ++ [rc]) else (false, rq, [])).2.2 = ls ++ ls' ∧ _) ∨ ((if chA T L rq = 59 then pRu (chA T L) f (rq + 1) (ls ++ [rc]) else if chA T L rq = 256 then (true, rq, ls ++ [rc]) else (false, rq, [])).1 = false ∧ _ = some (nt (if chA T L rq = 59 then pRu (chA T L) f (rq + 1) (ls ++ [rc]) else if chA T L rq = 256 then (true, rq, ls ++ [rc]) else (false, rq, [])).2.1, w) ∧ (if chA T L rq = 59 then pRu (chA T L) f (rq + 1) (ls ++ [rc]) else if chA T L rq = 256 then (true, rq, ls ++ [rc]) else (false, rq, [])).2.1 ≤ L))
      by_cases e : rq < L
      case neg =>
        have ech : chA T L rq = 256 := chA_end (by omega)
        rw [if_neg e, if_neg (show ¬ chA T L rq = 59 by omega), if_pos ech]
        refine ⟨u, af, Or.inl ⟨rfl, rfl, [rc], rfl, ?_⟩⟩
        rw [List.flatten_cons, List.flatten_nil, List.append_nil]
        exact hatu'.2.2
      rw [if_pos e, show (59 : Int32) = nt 59 from rfl, pass_eq hDu hatu' k2' (by omega)]
      by_cases c4 : chA T L rq = 59
      · rw [if_pos c4, if_pos c4, ob_s, nt_succ]
        have f2 : frm kCr u (uI u 706 0 (nt (rq + 1))) := frm_uI rfl
        have hat2 : cAt (uI u 706 0 (nt (rq + 1))) (rq + 1) (nmk m rc) := by
          refine ⟨by rw [I_uI, m1_s], ?_, ?_⟩
          · rw [I_uI_n (by decide)]; exact hatu'.2.1
          · rw [I_uI_n (by decide)]; exact hatu'.2.2
        obtain ⟨w, w1, w2⟩ := cT f (rq + 1) (ls ++ [rc]) (uI u 706 0 (nt (rq + 1))) fu (k + 1) (nmk m rc) (Ilen_f f2 hLu) (cD_f f2 hDu) hat2 e (by omega) (by omega) (by omega)
        refine ⟨w, frm_tr af (frm_tr f2 w1), ?_⟩
        rcases w2 with ⟨z1, z2, ls', z3, z4⟩ | z
        · refine Or.inl ⟨z1, z2, rc :: ls', ?_, ?_⟩
          · rw [z3, List.append_assoc]; rfl
          · rw [List.flatten_cons, nmk_app]; exact z4
        · exact Or.inr z
      · have hne : ¬ chA T L rq = 256 := by
          have : chA T L rq = T rq := if_pos e
          have := hT rq e
          omega
        rw [if_neg c4, if_neg c4, if_neg hne, ob_s]
        obtain ⟨w', w1, w2⟩ := stop (uI u 707 0 (nt rq)) rq (frm_tr af (frm_uI rfl)) e (by omega) (by rw [I_uI_n (by decide)]; exact hatu'.1) (by rw [I_uI, m1_s])
        exact ⟨w', w1, Or.inr ⟨rfl, w2, k2'⟩⟩
end
