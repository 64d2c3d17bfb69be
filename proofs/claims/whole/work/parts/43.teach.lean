/-! PART 43: teaching: the model's days, and both from their start. -/
section
variable {t : TS} {nB nS nM p d : Nat}
theorem dl_len (t : TS) (p : Nat) : ∀ n, (dl t p n).length ≤ n
  | 0 => Nat.le_refl _
  | n + 1 => by
    have := dl_len t p n
    unfold dl
    split
    · simp only [List.length_cons]; omega
    · omega
theorem dl_lt {t : TS} {p s : Nat} : ∀ {n}, s ∈ dl t p n → s < n
  | 0, h => by cases h
  | n + 1, h => by
    unfold dl at h
    split at h
    · rcases List.mem_cons.mp h with e | e
      · omega
      · have := dl_lt e; omega
    · have := dl_lt h; omega
/-- the model's look through the player's spans on one day -/
theorem ft_inner {k : TS → Int32 → Int32 → Int32 → Option TS} {t1 : TS} {L : List Nat} {v3 dd : Int32} (hL : Ilen t1) (hlt : ∀ s, s ∈ L → s < 600) (hlen : L.length ≤ 600) (hL2 : ∀ j, j < L.length → tA t1 3326 0 j = nt (L.getD j 0)) :
    B_X13_findTaught_153 k 10000 t1 (nt L.length) v3 dd 0 (-1) 0 = B_X13_findTaught_247 k t1 (nt L.length) v3 dd (enc (inn t1 dd false L)) := by
  generalize hr : inn t1 dd false L = res
  obtain ⟨N, hN⟩ : ∃ N : Nat, N = 10000 := ⟨_, rfl⟩
  rw [← hN]
  have h := loop_wh (B := fun fu (a : Bool × Option Nat × Nat) => B_X13_findTaught_153 k fu t1 (nt L.length) v3 dd (b1 a.1) (enc a.2.1) (nt a.2.2)) (mu := fun a => L.length + 1 - a.2.2) (G := fun o => o = B_X13_findTaught_247 k t1 (nt L.length) v3 dd (enc res))
    (P := fun a => a.2.2 ≤ L.length ∧ ((∃ s, s < 600 ∧ a.2.1 = some s ∧ res = some s) ∨ (a.2.1 = none ∧ inn t1 dd a.1 (L.drop a.2.2) = res))) ?_ N (false, none, 0) ⟨Nat.zero_le _, Or.inr ⟨rfl, hr⟩⟩ (by show L.length + 1 - 0 < N; omega)
  · exact h
  · rintro fu ⟨ow, by_, j⟩ ⟨k1, k2⟩
    dsimp only at k1 k2
    show BB_X13_findTaught_153 k (B_X13_findTaught_153 k fu) t1 (nt L.length) v3 dd (b1 ow) (enc by_) (nt j) = _ ∨ ∃ a', BB_X13_findTaught_153 k (B_X13_findTaught_153 k fu) t1 (nt L.length) v3 dd (b1 ow) (enc by_) (nt j) = _ ∧ _
    unfold BB_X13_findTaught_153
    rcases k2 with ⟨s, h6, rfl, hs⟩ | ⟨rfl, hs⟩
    · left
      rw [hs]
      have : (0 : Int32) ≤ enc (some s) := nt_nn (by omega)
      rw [if_pos this, ite_self]
    · by_cases hj : j = L.length
      · left
        subst hj
        rw [List.drop_length] at hs
        rw [if_pos (Int32.le_refl _), ← hs]
        rfl
      · right
        have hj2 : j < L.length := by omega
        obtain ⟨s, hs1⟩ : ∃ s, L.getD j 0 = s := ⟨_, rfl⟩
        have hs2 : L.drop j = s :: L.drop (j + 1) := by
          rw [List.drop_eq_getElem_cons hj2, ← hs1, List.getD_eq_getElem?_getD, List.getElem?_eq_getElem hj2]
          rfl
        have hs6 : s < 600 := hlt s (List.mem_of_mem_drop (by rw [hs2]; exact List.mem_cons_self))
        rw [hs2] at hs
        unfold inn at hs
        have e0 : (enc none : Int32) = -1 := rfl
        rw [if_neg (fun q => by rw [ge_nt (by omega) (by omega)] at q; omega), e0, if_neg (by decide), (show tL _ 3326 0 = 600 from hL 3326 rfl), gd_nt _ (by omega) (by omega), nt_cl (by omega), hL2 j hj2, hs1, isSome_eq hL hs6, ob_s, (show tL _ 3321 0 = 600 from hL 3321 rfl), (show tL _ 3320 0 = 600 from hL 3320 rfl)]
        simp only [b1_0, gd_nt _ hs6 (show s < 2147483648 by omega), nt_cl (show s < 2147483648 by omega)]
        unfold sm at hs
        cases h2 : (decide (tA t1 3319 0 s ≤ dd) && decide (dd < tA t1 3322 0 s))
        · rw [h2] at hs
          simp only [Bool.false_eq_true, if_false] at hs
          refine ⟨(ow, none, j + 1), ?_, ⟨by show j + 1 ≤ L.length; omega, Or.inr ⟨rfl, hs⟩⟩, by show L.length + 1 - (j + 1) < L.length + 1 - j; omega⟩
          simp only [not_true_eq_false, if_false]
          show _ = B_X13_findTaught_153 k fu t1 (nt L.length) v3 dd (b1 ow) (-1) (nt (j + 1))
          rw [B_X13_findTaught_241, nt_succ]
        · rw [h2] at hs
          simp only [if_true] at hs
          simp only [Bool.true_eq_false, not_false_eq_true, if_true]
          by_cases h1 : tA t1 3321 0 s = 1
          · simp only [h1, if_true] at hs
            simp only [h1, not_true_eq_false, if_false]
            cases ow
            · simp only [Bool.false_eq_true, if_false] at hs
              simp only [not_true_eq_false, if_false]
              by_cases h4 : tA t1 3320 0 s < dd
              · rw [if_pos h4] at hs
                refine ⟨(true, none, j + 1), ?_, ⟨by show j + 1 ≤ L.length; omega, Or.inr ⟨rfl, hs⟩⟩, by show L.length + 1 - (j + 1) < L.length + 1 - j; omega⟩
                rw [if_pos h4, B_X13_findTaught_219, B_X13_findTaught_241, nt_succ]
                rfl
              · rw [if_neg h4] at hs
                refine ⟨(true, some s, j + 1), ?_, ⟨by show j + 1 ≤ L.length; omega, Or.inl ⟨s, hs6, rfl, hs.symm⟩⟩, by show L.length + 1 - (j + 1) < L.length + 1 - j; omega⟩
                rw [if_neg h4, B_X13_findTaught_219, B_X13_findTaught_241, nt_succ]
                rfl
            · simp only [if_true] at hs
              simp only [Bool.true_eq_false, not_false_eq_true, if_true]
              refine ⟨(true, none, j + 1), ?_, ⟨by show j + 1 ≤ L.length; omega, Or.inr ⟨rfl, hs⟩⟩, by show L.length + 1 - (j + 1) < L.length + 1 - j; omega⟩
              rw [B_X13_findTaught_219, B_X13_findTaught_241, nt_succ]
              rfl
          · simp only [h1, if_false] at hs
            simp only [h1, not_false_eq_true, if_true]
            by_cases h4 : tA t1 3320 0 s < dd
            · rw [if_pos h4] at hs
              refine ⟨(ow, none, j + 1), ?_, ⟨by show j + 1 ≤ L.length; omega, Or.inr ⟨rfl, hs⟩⟩, by show L.length + 1 - (j + 1) < L.length + 1 - j; omega⟩
              rw [if_pos h4, B_X13_findTaught_241, nt_succ]
              rfl
            · rw [if_neg h4] at hs
              refine ⟨(ow, some s, j + 1), ?_, ⟨by show j + 1 ≤ L.length; omega, Or.inl ⟨s, hs6, rfl, hs.symm⟩⟩, by show L.length + 1 - (j + 1) < L.length + 1 - j; omega⟩
              rw [if_neg h4, B_X13_findTaught_241, nt_succ]
              rfl
theorem inn_f {D : Nat → Bool} {t' : TS} {dd : Int32} (h : frm D t t') (hd : ∀ k, k ∈ kHol → D k = false) : ∀ (ow : Bool) (L : List Nat), inn t' dd ow L = inn t dd ow L
  | _, [] => rfl
  | ow, s :: r => by
    unfold inn sm
    simp only [inn_f h hd _ r, (h.1 3319 (hd 3319 (by decide))).2.2.2.2.1, (h.1 3320 (hd 3320 (by decide))).2.2.2.2.1, (h.1 3321 (hd 3321 (by decide))).2.2.2.2.1, (h.1 3322 (hd 3322 (by decide))).2.2.2.2.1]
theorem dl_f {D : Nat → Bool} {t' : TS} (h : frm D t t') (hd : ∀ k, k ∈ kHol → D k = false) : ∀ n, dl t' p n = dl t p n
  | 0 => rfl
  | n + 1 => by
    unfold dl pS
    simp only [dl_f h hd n, (h.1 3317 (hd 3317 (by decide))).2.2.2.2.1]
theorem ft_loopM (hL : Ilen t) (hB : Mbody nB t) (hS : Mspan nB nS t) (hp : p < nB) (hd : d ≤ 2999) {t1 : TS} (hf : frm (ks [3325, 3326]) t t1) (h9 : ∀ c, c < nB → tA t1 3325 0 c = 0) (hL2 : ∀ j, j < (dl t p nS).length → tA t1 3326 0 j = nt ((dl t p nS).getD j 0)) :
    ∃ t2, B_X13_findTaught_138 10000 t1 (nt (dl t p nS).length) (it (lastZ t p d)) (it (D0 t p)) = some t2 ∧ frm (ks [3325, 3326]) t t2 ∧ ∀ c, c < nB → tA t2 3325 0 c = nt (tch t nS p d c) := by
  obtain ⟨b1_, b2, b3, b4, b5⟩ := last_bdM hB hp hd
  have h600 := hS.1
  have hlen := dl_len t p nS
  obtain ⟨N, hN⟩ : ∃ N : Nat, N = 10000 := ⟨_, rfl⟩
  rw [← hN]
  have h := loop_wh (B := fun fu (a : TS × Nat) => B_X13_findTaught_138 fu a.1 (nt (dl t p nS).length) (it (lastZ t p d)) (it (D0 t p + a.2))) (mu := fun a => NN t p d - a.2) (G := fun o => ∃ t2, o = some t2 ∧ frm (ks [3325, 3326]) t t2 ∧ ∀ c, c < nB → tA t2 3325 0 c = nt (tch t nS p d c))
    (P := fun a => a.2 ≤ NN t p d ∧ frm (ks [3325, 3326]) t a.1 ∧ (∀ c, c < nB → tA a.1 3325 0 c = nt (cnk (cz t nS p) c (D0 t p) a.2)) ∧ ∀ j, j < (dl t p nS).length → tA a.1 3326 0 j = nt ((dl t p nS).getD j 0)) ?_ N (t1, 0) ⟨Nat.zero_le _, hf, h9, hL2⟩ (by show NN t p d - 0 < N; omega)
  · have e : D0 t p + ((0 : Nat) : Int) = D0 t p := by omega
    show ∃ t2, B_X13_findTaught_138 N t1 (nt (dl t p nS).length) (it (lastZ t p d)) (it (D0 t p)) = some t2 ∧ _
    rw [← e]; exact h
  · rintro fu ⟨t3, k⟩ ⟨k1, k2, k3, k4⟩
    dsimp only at k1 k2 k3 k4
    have hNN : NN t p d = (lastZ t p d + 1 - D0 t p).toNat := rfl
    have hL3 : Ilen t3 := Ilen_f k2 hL
    show (∃ t2, BB_X13_findTaught_138 (B_X13_findTaught_138 fu) t3 (nt (dl t p nS).length) (it (lastZ t p d)) (it (D0 t p + k)) = _ ∧ _) ∨ ∃ a', BB_X13_findTaught_138 (B_X13_findTaught_138 fu) t3 (nt (dl t p nS).length) (it (lastZ t p d)) (it (D0 t p + k)) = _ ∧ _
    unfold BB_X13_findTaught_138
    by_cases hk : k = NN t p d
    · left
      refine ⟨t3, ?_, k2, ?_⟩
      · rw [if_pos ((it_lt (by omega) (by omega) (by omega) (by omega)).mpr (by omega))]
      · intro c hc; rw [k3 c hc, hk]; rfl
    · right
      rw [if_neg (fun q => by have := (it_lt (by omega) (by omega) (by omega) (by omega)).mp q; omega), ft_inner hL3 (fun s hs => by have := dl_lt hs; omega) (by omega) k4, inn_f k2 (by decide), inn_hol]
      have e1 : it (D0 t p + k) + 1 = it (D0 t p + ((k + 1 : Nat) : Int)) := by
        rw [it_1, it_add]
        congr 1
        omega
      unfold B_X13_findTaught_247
      cases eh : hol t nS p (it (D0 t p + k)) with
      | none =>
        have hc0 : cz t nS p (D0 t p + k) = none := by unfold cz; rw [eh]; rfl
        refine ⟨(t3, k + 1), ?_, ⟨by omega, k2, ?_, k4⟩, by show NN t p d - (k + 1) < NN t p d - k; omega⟩
        · rw [if_pos (show enc none < 0 by decide), B_X13_findTaught_268, e1]
        · intro c hc
          show tA t3 3325 0 c = nt (cnk (cz t nS p) c (D0 t p) k + (if cz t nS p (D0 t p + k) = some c then 1 else 0))
          rw [k3 c hc, hc0]
          rfl
      | some s =>
        have hs := hol_lt eh
        obtain ⟨⟨c, hc, hcl, hc2⟩, -⟩ := hS.2.2 s hs
        have hnB := hB.1
        have hc3 : tA t3 3318 0 s = nt c := by rw [(k2.1 3318 rfl).2.2.2.2.1, hc2]
        have hc0 : cz t nS p (D0 t p + k) = some c := by unfold cz; rw [eh, oel_s, hc2, nt_cl (by omega)]
        refine ⟨(uA t3 3325 0 c (tA t3 3325 0 c + 1), k + 1), ?_, ⟨by omega, frm_tr k2 (frm_uA rfl), ?_, ?_⟩, by show NN t p d - (k + 1) < NN t p d - k; omega⟩
        · have ee : enc (some s) = nt s := rfl
          rw [ee, if_neg (nt_neg (by omega)), (show tL _ 3318 0 = 600 from hL3 3318 rfl), (show tL _ 3325 0 = 150 from hL3 3325 rfl), gd_nt _ (by omega) (by omega), nt_cl (by omega), hc3, gd_nt _ (by omega) (by omega), gd_nt _ (by omega) (by omega), nt_cl (by omega), nxt_e, B_X13_findTaught_268, e1]
        · intro c' hc'
          show tA (uA t3 3325 0 c (tA t3 3325 0 c + 1)) 3325 0 c' = nt (cnk (cz t nS p) c' (D0 t p) k + (if cz t nS p (D0 t p + k) = some c' then 1 else 0))
          rw [A_uA, m1_s, hc0]
          by_cases e : c' = c
          · subst e
            rw [m1_s, k3 c' hc', if_pos rfl, nt_succ]
          · rw [m1_n e, k3 c' hc', if_neg (fun q => e (Option.some.inj q).symm)]
            rfl
        · intro j hj
          rw [A_uA_n (by decide)]
          exact k4 j hj
end
