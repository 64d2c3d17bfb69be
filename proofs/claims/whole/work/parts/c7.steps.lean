/-! PART c7: the steps of a text are well made. -/
def dpS (s : Int32 × Int32) (d : Nat) : Option Nat := if s.1 = 1 then some (d + 1) else if s.1 = 2 then (if (ix 12 s.2).isSome then some (d + 1) else none) else if s.1 = 3 then (if 1 ≤ d then some d else none) else (if 2 ≤ d then some (d - 1) else none)
def dp : List (Int32 × Int32) → Nat → Option Nat
  | [], d => some d
  | s :: c, d => oel (dpS s d) none (dp c)
theorem dp_app : ∀ c c2 d, dp (c ++ c2) d = oel (dp c d) none (dp c2)
  | [], _, _ => rfl
  | s :: c, c2, d => by
    show oel (dpS s d) none (dp (c ++ c2)) = oel (oel (dpS s d) none (dp c)) none (dp c2)
    cases dpS s d with
    | none => rfl
    | some e => exact dp_app c c2 e
def wfc (c : List (Int32 × Int32)) : Prop := ∀ d, dp c d = some (d + 1)
theorem wfc_bin {c c2 : List (Int32 × Int32)} {k : Int32} (h1 : wfc c) (h2 : wfc c2) (k1 : ¬ k = 1) (k2 : ¬ k = 2) (k3 : ¬ k = 3) : wfc (c ++ c2 ++ [(k, 0)]) := by
  intro d
  rw [dp_app, dp_app, h1 d, oel_s, h2 (d + 1), oel_s]
  show oel (dpS (k, 0) (d + 1 + 1)) none (dp []) = _
  unfold dpS
  rw [if_neg k1, if_neg k2, if_neg k3, if_pos (by omega)]
  rfl
theorem wfc_dny {c : List (Int32 × Int32)} (h1 : wfc c) : wfc (c ++ [(3, 0)]) := by
  intro d
  rw [dp_app, h1 d, oel_s]
  show oel (dpS (3, 0) (d + 1)) none (dp []) = _
  unfold dpS
  rw [if_neg (show ¬ (3 : Int32) = 1 by decide), if_neg (show ¬ (3 : Int32) = 2 by decide), if_pos (show (3 : Int32) = 3 from rfl), if_pos (by omega)]
  rfl
def pwf (r : Bool × Nat × List (Int32 × Int32)) : Prop := r.1 = true → wfc r.2.2
section
variable {ch : Nat → Nat} {L : Nat}
theorem pOpd_wf (hc : ∀ p, ch p ≤ 256) {rec : Nat → Nat → Bool × Nat × List (Int32 × Int32)} (hr : ∀ p o, pwf (rec p o)) (p o : Nat) : pwf (pOpd ch rec p o) := by
  unfold pOpd
  by_cases c1 : (nameN (ch p)).isSome = true
  · rw [if_pos c1]
    intro _ d
    cases hn : nameN (ch p) with
    | none => rw [hn] at c1; cases c1
    | some k =>
      have hk := name_lt _ (hc p) k hn
      show oel (dpS (2, oel (some k) (-1) nt) d) none (dp []) = _
      rw [oel_s]
      unfold dpS
      rw [if_neg (show ¬ (2 : Int32) = 1 by decide), if_pos (show (2 : Int32) = 2 from rfl), ix_nt hk (by omega), if_pos (by rfl)]
      rfl
  rw [if_neg c1]
  by_cases c2 : ch p = 40
  · rw [if_pos c2]
    by_cases c3 : o = 8
    · rw [if_pos c3]; intro q; cases q
    rw [if_neg c3]
    have hg := hr (p + 1) (o + 1)
    generalize rec (p + 1) (o + 1) = r at hg ⊢
    by_cases g1 : r.1 = true
    · rw [if_pos g1]
      by_cases c4 : ch r.2.1 = 41
      · rw [if_pos c4]; intro _; exact hg g1
      · rw [if_neg c4]; intro q; cases q
    · rw [if_neg g1]; intro q; cases q
  rw [if_neg c2]
  by_cases c3 : (pNum ch 7 p 0).1 = p ∨ isD (ch (pNum ch 7 p 0).1) = true
  · rw [if_pos c3]; intro q; cases q
  · rw [if_neg c3]; intro _ d; rfl
theorem pLp_wf (hc : ∀ p, ch p ≤ 256) {sg : Nat → Bool} {op : Nat → Int32} (hop : ∀ c, c ≤ 256 → sg c = true → ¬ op c = 1 ∧ ¬ op c = 2 ∧ ¬ op c = 3) {rec : Nat → Bool × Nat × List (Int32 × Int32)} (hr : ∀ p, pwf (rec p)) : ∀ f p c, wfc c → pwf (pLp ch sg op rec f p c)
  | 0, p, c, h => fun _ => h
  | f + 1, p, c, h => by
    unfold pLp
    by_cases c1 : sg (ch p) = true
    · rw [if_pos c1]
      have hg := hr (p + 1)
      generalize rec (p + 1) = r at hg ⊢
      by_cases g1 : r.1 = true
      · obtain ⟨o1, o2, o3⟩ := hop _ (hc p) c1
        rw [if_pos g1]
        exact pLp_wf hc hop hr f r.2.1 _ (wfc_bin h (hg g1) o1 o2 o3)
      · rw [if_neg g1]; intro q; cases q
    · rw [if_neg c1]; exact fun _ => h
theorem pRp_wf (hc : ∀ p, ch p ≤ 256) {sg : Nat → Bool} {op : Nat → Int32} (hop : ∀ c, c ≤ 256 → sg c = true → ¬ op c = 1 ∧ ¬ op c = 2 ∧ ¬ op c = 3) {rec : Nat → Bool × Nat × List (Int32 × Int32)} (hr : ∀ p, pwf (rec p)) (p : Nat) : pwf (pRp ch sg op rec p) := by
  unfold pRp
  have hg := hr p
  by_cases g1 : (rec p).1 = true
  · rw [if_pos g1]; exact pLp_wf hc hop hr 200 _ _ (hg g1)
  · rw [if_neg g1]; intro q; cases q
theorem pI_wf (hc : ∀ p, ch p ≤ 256) : ∀ n w p o, pwf (pI ch n w p o)
  | 0, w, p, o => fun q => by cases q
  | n + 1, w, p, o => by
    have ih := pI_wf hc n
    match w with
    | 0 => exact pOpd_wf hc (fun p o => ih 2 p o) p o
    | 1 => exact pRp_wf hc (sg := sgP) (op := nt) (fun c hc hs => sg_op c hc (by rw [hs]; rfl)) (fun p => ih 0 p o) p
    | w + 2 => exact pRp_wf hc (sg := sgS) (op := nt) (fun c hc hs => sg_op c hc (by rw [hs]; cases sgP c <;> rfl)) (fun p => ih 1 p o) p
theorem pBs_wf (hc : ∀ p, ch p ≤ 256) {rb re : Nat → Nat → Bool × Nat × List (Int32 × Int32)} (hb : ∀ p o, pwf (rb p o)) (he : ∀ p o, pwf (re p o)) (p o : Nat) : pwf (pBs ch rb re p o) := by
  unfold pBs
  by_cases c1 : ch p = 33
  · rw [if_pos c1]
    by_cases c3 : o = 8
    · rw [if_pos c3]; intro q; cases q
    rw [if_neg c3]
    have hg := hb (p + 1) (o + 1)
    generalize rb (p + 1) (o + 1) = r at hg ⊢
    by_cases g1 : r.1 = true
    · rw [if_pos g1]; intro _; exact wfc_dny (hg g1)
    · rw [if_neg g1]; intro q; cases q
  rw [if_neg c1]
  by_cases c2 : ch p = 91
  · rw [if_pos c2]
    by_cases c3 : o = 8
    · rw [if_pos c3]; intro q; cases q
    rw [if_neg c3]
    have hg := he (p + 1) (o + 1)
    generalize re (p + 1) (o + 1) = r at hg ⊢
    by_cases g1 : r.1 = true
    · rw [if_pos g1]
      by_cases c4 : ch r.2.1 = 93
      · rw [if_pos c4]; intro _; exact hg g1
      · rw [if_neg c4]; intro q; cases q
    · rw [if_neg g1]; intro q; cases q
  rw [if_neg c2]
  have hs := pI_wf hc 100 2 p o
  generalize pI ch 100 2 p o = s at hs ⊢
  by_cases s1 : s.1 = true
  · rw [if_pos s1]
    by_cases c3 : sgR (ch s.2.1) = true
    · rw [if_pos c3]
      have hg := pI_wf hc 100 2 (s.2.1 + 1) o
      generalize pI ch 100 2 (s.2.1 + 1) o = r at hg ⊢
      by_cases g1 : r.1 = true
      · obtain ⟨o1, o2, o3⟩ := sg_op _ (hc s.2.1) (by rw [c3]; cases sgP (ch s.2.1) <;> cases sgS (ch s.2.1) <;> rfl)
        rw [if_pos g1]; intro _; exact wfc_bin (hs s1) (hg g1) o1 o2 o3
      · rw [if_neg g1]; intro q; cases q
    · rw [if_neg c3]; intro q; cases q
  · rw [if_neg s1]; intro q; cases q
theorem pB_wf (hc : ∀ p, ch p ≤ 256) : ∀ n w p o, pwf (pB ch n w p o)
  | 0, w, p, o => fun q => by cases q
  | n + 1, w, p, o => by
    have ih := pB_wf hc n
    match w with
    | 0 => exact pBs_wf hc (fun p o => ih 0 p o) (fun p o => ih 2 p o) p o
    | 1 => exact pRp_wf hc (sg := sgA) (op := fun _ => 4) (fun c _ _ => ⟨by decide, by decide, by decide⟩) (fun p => ih 0 p o) p
    | w + 2 => exact pRp_wf hc (sg := sgE) (op := fun _ => 5) (fun c _ _ => ⟨by decide, by decide, by decide⟩) (fun p => ih 1 p o) p
theorem pRu_wf (hc : ∀ p, ch p ≤ 256) : ∀ f p ls, (∀ c, c ∈ ls → wfc c) → (pRu ch f p ls).1 = true → ∀ c, c ∈ (pRu ch f p ls).2.2 → wfc c
  | 0, p, ls, _, h => by cases h
  | f + 1, p, ls, hls, h => by
    have hg := pB_wf hc 100 2 p 0
    unfold pRu at h ⊢
    generalize pB ch 100 2 p 0 = r at h hg ⊢
    by_cases g1 : r.1 = true
    · have hls2 : ∀ c, c ∈ ls ++ [r.2.2] → wfc c := fun c hc => by
        rw [List.mem_append, List.mem_singleton] at hc
        rcases hc with q | q
        · exact hls c q
        · rw [q]; exact hg g1
      rw [if_pos g1] at h ⊢
      by_cases c4 : ch r.2.1 = 59
      · rw [if_pos c4] at h ⊢
        exact pRu_wf hc f _ _ hls2 h
      · rw [if_neg c4] at h ⊢
        by_cases c5 : ch r.2.1 = 256
        · rw [if_pos c5] at h ⊢
          exact hls2
        · rw [if_neg c5] at h; cases h
    · rw [if_neg g1] at h; cases h
end
/-- names: of two sets of values that agree on the names of a text its lines come to the same -/
theorem ev_cong {V F : Int32 → Int32} : ∀ c st, (∀ s, s ∈ c → s.1 = 2 → V s.2 = F s.2) → ev V c st = ev F c st
  | [], _, _ => rfl
  | s :: c, st, h => by
    show ev V c (evS V s st) = ev F c (evS F s st)
    have e : evS V s st = evS F s st := by
      unfold evS
      by_cases c1 : s.1 = 1
      · rw [if_pos c1, if_pos c1]
      rw [if_neg c1, if_neg c1]
      by_cases c2 : s.1 = 2
      · rw [if_pos c2, if_pos c2, h s List.mem_cons_self c2]
      · rw [if_neg c2, if_neg c2]
    rw [e]
    exact ev_cong c _ (fun s' hs => h s' (List.mem_cons_of_mem s hs))
/-- the set of names, as a natural -/
def nmN (m : Nat) : List (Int32 × Int32) → Nat
  | [] => m
  | s :: c => nmN (if s.1 = 2 then m ||| 2 ^ s.2.toNatClampNeg else m) c
theorem nmN_ge {k : Nat} : ∀ c m, m.testBit k = true → (nmN m c).testBit k = true
  | [], _, h => h
  | s :: c, m, h => by
    refine nmN_ge c _ ?_
    by_cases e : s.1 = 2
    · rw [if_pos e, Nat.testBit_or, h, Bool.true_or]
    · rw [if_neg e]; exact h
theorem nmN_in {s : Int32 × Int32} : ∀ c m, s ∈ c → s.1 = 2 → (nmN m c).testBit s.2.toNatClampNeg = true
  | [], _, h, _ => absurd h List.not_mem_nil
  | s' :: c, m, h, h2 => by
    rw [List.mem_cons] at h
    rcases h with rfl | h
    · refine nmN_ge c _ ?_
      rw [if_pos h2, Nat.testBit_or, Nat.testBit_two_pow_self, Bool.or_true]
    · exact nmN_in c _ h h2
theorem or_12 : ∀ k, k < 12 → ∀ m, m < 4096 → m ||| 2 ^ k < 4096 := fun k hk m hm => Nat.or_lt_two_pow (n := 12) hm (Nat.pow_lt_pow_right (by omega) hk)
theorem nmk_N : ∀ c m, m < 4096 → (∀ s, s ∈ c → s.1 = 2 → ∃ k, k < 12 ∧ s.2 = nt k) → nmk (nt m) c = nt (nmN m c) ∧ nmN m c < 4096
  | [], m, h, _ => ⟨rfl, h⟩
  | s :: c, m, h, hs => by
    show nmk (nmS (nt m) s) c = nt (nmN (if s.1 = 2 then m ||| 2 ^ s.2.toNatClampNeg else m) c) ∧ nmN (if s.1 = 2 then m ||| 2 ^ s.2.toNatClampNeg else m) c < 4096
    unfold nmS
    by_cases e : s.1 = 2
    · obtain ⟨k, hk, hk2⟩ := hs s List.mem_cons_self e
      have ep : (1 : Int32) <<< (nt k &&& 31) = nt (2 ^ k) := by
        have : ∀ n, n < 12 → (1 : Int32) <<< (nt n &&& 31) = nt (2 ^ n) := by decide +kernel
        exact this k hk
      rw [if_pos e, if_pos e, hk2, nt_cl (by omega), ep, nt_or]
      exact nmk_N c _ (or_12 k hk m h) (fun s' hs' => hs s' (List.mem_cons_of_mem s hs'))
    · rw [if_neg e, if_neg e]
      exact nmk_N c m h (fun s' hs' => hs s' (List.mem_cons_of_mem s hs'))
theorem wfc_nm {c : List (Int32 × Int32)} (h : wfc c) : ∀ s, s ∈ c → s.1 = 2 → ∃ k, k < 12 ∧ s.2 = nt k := by
  have : ∀ c d e, dp c d = some e → ∀ s, s ∈ c → s.1 = 2 → ∃ k, k < 12 ∧ s.2 = nt k := by
    intro c
    induction c with
    | nil => intro d e _ s hs; exact absurd hs List.not_mem_nil
    | cons a c ih =>
      intro d e h s hs h2
      cases hd : dpS a d with
      | none =>
        have : oel (dpS a d) none (dp c) = some e := h
        rw [hd, oel_n] at this; cases this
      | some d' =>
        have h' : oel (dpS a d) none (dp c) = some e := h
        rw [hd, oel_s] at h'
        rw [List.mem_cons] at hs
        rcases hs with rfl | hs
        · unfold dpS at hd
          rw [if_neg (show ¬ s.1 = 1 by rw [h2]; decide), if_pos h2] at hd
          cases hx : ix 12 s.2 with
          | none => rw [hx] at hd; cases hd
          | some k => exact ⟨k, (ix_some hx).1, (ix_some hx).2⟩
        · exact ih d' e h' s hs h2
  exact this c 0 1 (h 0)
