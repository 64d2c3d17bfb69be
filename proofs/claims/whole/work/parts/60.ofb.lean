/-! PART 60: reads of bodies. -/
section
variable {t : TS} {nB nS nM : Nat}
theorem swix1 {α : Type} {df : Option α} (bs : List (Option α)) (x : Int32) (h2 : bs.length + 1 < 2147483648) (h0 : ¬ x = 0) : swi x 1 bs df = oel (ix (bs.length + 1) x) df (fun i => bs.getD (i - 1) df) := by
  cases h : ix (bs.length + 1) x with
  | none =>
    rw [oel_n]
    refine swi_no bs 1 (by omega) (fun i hi e => ?_)
    rw [e, ix_nt (by omega) h2] at h
    cases h
  | some i =>
    obtain ⟨h1, rfl⟩ := ix_some h
    cases i with
    | zero => exact absurd rfl h0
    | succ j => rw [swi1 bs j (by omega) h2, oel_s, Nat.add_sub_cancel]
theorem kind_pc {k : Nat} (hk : k < 8) : isPl (nt k) = true → isCl (nt k) = false := by
  have : ∀ k, k < 8 → isPl (nt k) = true → isCl (nt k) = false := by decide
  exact this k hk
theorem m_ofBody (x1 x2 : Int32) (hL : Ilen t) (hT : Itime t) (hB : Ibody nB t) (hC : Icoin nB t) (hK : Ilack nB t) (hS : Ispan nB nS nM t) : ∃ r, F_X12_ofBody t x1 x2 = some r ∧ F_X13_ofBody t x1 x2 = some r := by
  obtain ⟨d, mi, hd, hmi, e1, e2, e3, e4⟩ := hT
  have h150 := hB.1
  unfold F_X12_ofBody F_X13_ofBody
  rw [bodyAt_eq hL hB, isBody_eq hB, ob_s, ob_s]
  cases hx : ix nB x1 with
  | none => exact ⟨-2000000000, rfl, rfl⟩
  | some p =>
  obtain ⟨hp, rfl⟩ := ix_some hx
  obtain ⟨-, -, q3, q4, q5, q6, q7, q8, ⟨k, hk, q9⟩, -⟩ := hB.2.2.2.1 p hp
  rw [oc_s, isS_s, gw1, if_pos rfl]
  by_cases h0 : x2 = 0
  · refine ⟨tA t 3308 0 p, ?_, ?_⟩
    · rw [if_neg (fun g => g h0), q4]
    · rw [if_neg (fun g => g h0), (show tL _ 3308 0 = 150 from hL 3308 rfl), gd_nt _ (by omega) (by omega), nt_cl (by omega)]
  rw [if_pos h0, if_pos h0, X1_isPlayer_eq, X1_isClub_eq, isClub_eq hL hB, isPlayer_eq hL hB, ob_s, ob_s, ob_s, ob_s, q4]
  have s1 : six isCl t nB (nt p) = if isCl (tA t 3308 0 p) then some p else none := by unfold six; rw [hx, oel_s]
  have s2 : six isPl t nB (nt p) = if isPl (tA t 3308 0 p) then some p else none := by unfold six; rw [hx, oel_s]
  rw [s1, s2, gw0, gw0, gw0, gw1]
  by_cases hpl : isPl (tA t 3308 0 p) = true
  case neg =>
    have hpl' : isPl (tA t 3308 0 p) = false := by revert hpl; cases isPl (tA t 3308 0 p) <;> simp
    by_cases hcl : isCl (tA t 3308 0 p) = true
    · rw [hcl, hpl']
      have hb53 : B_X12_ofBody_53 t x2 p = if ¬ x2 = 2 then some (-2000000000) else some (tI t 103 p) := by
        unfold B_X12_ofBody_53
        rw [X1_isClub_eq, ob_s, q4, hcl]
        rfl
      rw [hb53]
      by_cases g1 : x2 = 1
      · subst g1
        refine ⟨tA t 3309 0 p, ?_, ?_⟩
        · rw [if_neg (by decide), if_pos rfl, if_neg (by decide), q5]
        · rw [if_pos rfl, if_pos (show (some p : Option Nat).isSome = true from rfl), if_neg (by decide), (show tL _ 3309 0 = 150 from hL 3309 rfl), gd_nt _ (by omega) (by omega), nt_cl (by omega)]
      · by_cases g2 : x2 = 2
        · subst g2
          refine ⟨tA t 3310 0 p, ?_, ?_⟩
          · rw [if_neg (by decide), if_pos rfl, if_pos (by decide), if_neg (by decide), hC.1 p hp]
          · rw [if_pos rfl, if_pos (show (some p : Option Nat).isSome = true from rfl), if_pos (by decide), if_neg (by decide), (show tL _ 3310 0 = 150 from hL 3310 rfl), gd_nt _ (by omega) (by omega), nt_cl (by omega)]
        · refine ⟨-2000000000, ?_, ?_⟩
          · rw [if_neg (by decide), if_pos rfl, if_pos g1, if_pos g2]
          · rw [if_pos rfl, if_pos (show (some p : Option Nat).isSome = true from rfl), if_pos g1, if_pos g2]
    · have hcl' : isCl (tA t 3308 0 p) = false := by revert hcl; cases isCl (tA t 3308 0 p) <;> simp
      refine ⟨-2000000000, ?_, ?_⟩
      · rw [hpl', hcl', if_neg (by decide), if_neg (by decide)]
        unfold B_X12_ofBody_53
        rw [X1_isClub_eq, ob_s, q4, hcl']
        rfl
      · rw [hpl', hcl', if_neg (show ¬ ((if false = true then some p else (none : Option Nat)).isSome = true) from (by decide : ¬ (false = true))), if_neg (show ¬ ((if false = true then some p else (none : Option Nat)).isSome = true) from (by decide : ¬ (false = true)))]
  case pos =>
  have hncl : isCl (tA t 3308 0 p) = false := by rw [q9] at hpl ⊢; exact kind_pc hk hpl
  rw [hpl, hncl]
  have hX : (if (if false = true then some p else (none : Option Nat)).isSome = true then (if ¬ x2 = 1 then (if ¬ x2 = 2 then some (-2000000000 : Int32) else gd (nt p) (tL t 3310 0) (some (tA t 3310 0 (nt p).toNatClampNeg))) else gd (nt p) (tL t 3309 0) (some (tA t 3309 0 (nt p).toNatClampNeg))) else if (if true = true then some p else (none : Option Nat)).isSome = true then Option.bind (F_X13_ownSpan t (nt p) (tI t 1301 0)) (fun r24 => if r24 < 0 then B_X13_ofBody_106 t (nt p) x2 r24 else gd r24 (tL t 3320 0) (if tA t 3320 0 r24.toNatClampNeg < tI t 1301 0 then B_X13_ofBody_106 t (nt p) x2 r24 else B_X13_ofBody_107 t (nt p) x2 r24 1)) else some (-2000000000)) = B_X13_ofBody_107 t (nt p) x2 (enc (ow0 t nS p (nt d))) (b1 (own t nS p (nt d)).isSome) := by
    rw [if_neg (show ¬ ((if false = true then some p else (none : Option Nat)).isSome = true) from (by decide : ¬ (false = true))), if_pos (show (if true = true then some p else (none : Option Nat)).isSome = true from rfl), ownSpan_eq hL hS, ob_s, e2]
    unfold own B_X13_ofBody_106
    cases hw : ow0 t nS p (nt d) with
    | none => rfl
    | some s =>
      have hs : s < nS := (lastP_lt hw).1
      have h600 := hS.1
      rw [show enc (some s) = nt s from rfl, if_neg (nt_neg (by omega)), (show tL _ 3320 0 = 600 from hL 3320 rfl), gd_nt _ (by omega) (by omega), nt_cl (by omega), oel_s]
      by_cases g : tA t 3320 0 s < nt d
      · rw [if_pos g, if_pos g]; rfl
      · rw [if_neg g, if_neg g]; rfl
  have hY : (if (if false = true then some p else (none : Option Nat)).isSome = true then (0 : Int32) else 0) = 0 := rfl
  rw [if_pos rfl]
  suffices h : ∃ r, F_X12_ofPlayer t (some p) x2 = some r ∧ B_X13_ofBody_107 t (nt p) x2 (enc (ow0 t nS p (nt d))) (b1 (own t nS p (nt d)).isSome) = some r by
    obtain ⟨r, r1, r2⟩ := h
    refine ⟨r, by rw [r1]; rfl, ?_⟩
    rw [← r2, ← hX]
  unfold F_X12_ofPlayer B_X13_ofBody_107
  rw [oc_s, e1, e2, X1_holding_eq hS hp, ob_s, X1_owning_eq hS hp, ob_s, swix1 _ _ (Nat.le_of_ble_eq_true rfl) h0, swix1 _ _ (Nat.le_of_ble_eq_true rfl) h0]
  simp only [List.length_cons, List.length_nil]
  cases hy : ix (0 + 1 + 1 + 1 + 1 + 1 + 1 + 1 + 1 + 1 + 1) x2 with
  | none => exact ⟨-2000000000, rfl, rfl⟩
  | some i =>
  obtain ⟨hi, rfl⟩ := ix_some hy
  have hi' : i = 1 ∨ i = 2 ∨ i = 3 ∨ i = 4 ∨ i = 5 ∨ i = 6 ∨ i = 7 ∨ i = 8 ∨ i = 9 := by
    cases i with
    | zero => exact absurd rfl h0
    | succ j => omega
  simp only [oel_s]
  have hO : ∀ s, own t nS p (nt d) = some s → s < nS ∧ ow0 t nS p (nt d) = some s := fun s hs => ⟨(own_lt hs).1, (own_lt hs).2.1⟩
  have h600 := hS.1
  rcases hi' with rfl | rfl | rfl | rfl | rfl | rfl | rfl | rfl | rfl
  all_goals simp only [Nat.succ_sub_succ, Nat.sub_zero, List.getD_cons_succ, List.getD_cons_zero]
  · refine ⟨(nt d - tA t 3312 0 p) / 300, ?_, ?_⟩
    · unfold F_X1_ageOn; rw [ob_s, q6]
    · unfold F_X13_ageOn; rw [(show tL _ 3312 0 = 150 from hL 3312 rfl), gd_nt _ (by omega) (by omega), nt_cl (by omega), ob_s]
  · exact ⟨tA t 3313 0 p, by rw [q7], by rw [(show tL _ 3313 0 = 150 from hL 3313 rfl), gd_nt _ (by omega) (by omega), nt_cl (by omega)]⟩
  · rcases q8 with ⟨a1, a2⟩ | ⟨j, hj, a1, a2⟩
    · exact ⟨-1, by rw [nxt_e, a1]; rfl, by rw [(show tL _ 3314 0 = 150 from hL 3314 rfl), gd_nt _ (by omega) (by omega), nt_cl (by omega), a2]⟩
    · exact ⟨nt j, by simp only [nxt_e, a1, oc_s, (hB.2.2.2.1 j hj).2.2.1], by rw [(show tL _ 3314 0 = 150 from hL 3314 rfl), gd_nt _ (by omega) (by omega), nt_cl (by omega), a2]⟩
  · refine ⟨oel (hol t nS p (nt d)) (-1) (fun s => tA t 3318 0 s), ?_, ?_⟩
    · exact clubNo hB hS (fun s hs => hol_lt hs) (-1)
    · rw [holderOn_eq hL hS, ob_s]
  · refine ⟨oel (own t nS p (nt d)) (-1) (fun s => tA t 3318 0 s), ?_, ?_⟩
    · exact clubNo hB hS (fun s hs => (own_lt hs).1) (-1)
    · cases hw : own t nS p (nt d) with
      | none => rfl
      | some s =>
        obtain ⟨w1, w2⟩ := hO s hw
        rw [w2, isS_s, gw0, if_pos rfl, show enc (some s) = nt s from rfl, (show tL _ 3318 0 = 600 from hL 3318 rfl), gd_nt _ (by omega) (by omega), nt_cl (by omega), oel_s]
  · refine ⟨nt (cntP (pS t p) nS), by rw [(hS.2.2.2.2.2 p hp).2.2], ?_⟩
    rw [spansOf_eq hL hS.2.2.1 hS.1, ob_s]
  · refine ⟨oel (own t nS p (nt d)) (-1) (fun s => tA t 3320 0 s), ?_, ?_⟩
    · cases hw : own t nS p (nt d) with
      | none => rfl
      | some s =>
        obtain ⟨w1, w2⟩ := hO s hw
        obtain ⟨-, -, -, -, b5, b6, -⟩ := hS.2.2.2.1 s w1
        rw [oc_s, b5, oel_s]
    · cases hw : own t nS p (nt d) with
      | none => rfl
      | some s =>
        obtain ⟨w1, w2⟩ := hO s hw
        rw [w2, isS_s, gw0, if_pos rfl, show enc (some s) = nt s from rfl, (show tL _ 3320 0 = 600 from hL 3320 rfl), gd_nt _ (by omega) (by omega), nt_cl (by omega), oel_s]
  · refine ⟨oel (own t nS p (nt d)) 0 (fun s => tA t 3323 0 s), ?_, ?_⟩
    · cases hw : own t nS p (nt d) with
      | none => rfl
      | some s =>
        obtain ⟨w1, w2⟩ := hO s hw
        obtain ⟨-, -, -, -, b5, b6, -⟩ := hS.2.2.2.1 s w1
        rw [oc_s, b6, oel_s]
    · cases hw : own t nS p (nt d) with
      | none => rfl
      | some s =>
        obtain ⟨w1, w2⟩ := hO s hw
        rw [w2, isS_s, gw0, if_pos rfl, show enc (some s) = nt s from rfl, (show tL _ 3323 0 = 600 from hL 3323 rfl), gd_nt _ (by omega) (by omega), nt_cl (by omega), oel_s]
  · obtain ⟨a1, a2⟩ := hK.1 p hp
    unfold F_X12_bit
    rw [a1, (show tL _ 3315 0 = 150 from hL 3315 rfl), gd_nt _ (by omega) (by omega), nt_cl (by omega)]
    rcases a2 with e | e <;> rw [e] <;> exact ⟨_, rfl, rfl⟩
end
