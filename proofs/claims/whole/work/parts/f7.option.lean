/-! PART f7: option. -/
section
variable {t : TS} {nB nS nM nR : Nat}
def optT (t25 : TS) (x1 p : Int32) : Option (Int32 × TS) := (gd x1 (tL t25 3330 0) (gd x1 (tL t25 3339 0) (ob2 (F_X13_sale t25 p (tA t25 3330 0 x1.toNatClampNeg) (tA t25 3339 0 x1.toNatClampNeg) 0 0 1) (fun x27 t28 => (some (x27, t28))))))
theorem m_option (x1 : Int32) (hL : Ilen t) (hT : Itime t) (hG : Ileag t) (hR : Iterm t) (hA : Iall nB nS nM t) (hb : Icb nB nM t) (hH : Irh nR t) (hU : Irule nR t) : Eqm (F_X12_option t x1) (fun t => F_X13_option t x1) (fun t2 => (∃ nS' nM', Iall nB nS' nM' t2 ∧ Icb nB nM' t2) ∧ frm kMk t t2) := by
  have hT0 := hT
  have hA0 := hA
  obtain ⟨hB, hC, hI, hMt, hLk, hS, hM⟩ := hA
  obtain ⟨d, mi, hd, hmi, e1, e2, e3, e4⟩ := hT
  have h150 := hB.1
  have h600 := hS.1
  have h200 := hM.1
  have hbad : ∀ r, F_X12_option t x1 = some (r, t) → F_X13_option t x1 = some (r, t) → Eqm (F_X12_option t x1) (fun t => F_X13_option t x1) (fun t2 => (∃ nS' nM', Iall nB nS' nM' t2 ∧ Icb nB nM' t2) ∧ frm kMk t t2) := fun r h1 h2 => ⟨r, t, t, h1, h2, ⟨nS, nM, hA0, hb⟩, frm_rf⟩
  have g1 : ∀ k : Option (Int32 × TS), gd (1 : Int32) 9 k = k := fun _ => rfl
  have z1 : (1 : Int32).toNatClampNeg = 1 := rfl
  have et : tA t 3208 0 1 = tA t 3349 0 1 := (hR 1 (by omega)).1
  have hin : ∀ s : TS, tI s 1327 0 = nt nM → ∀ (A : Option (Int32 × TS)) (B : Option (Int32 × TS)), Option.bind (F_X13_in s x1 0 ((tI s 1327 0) - 1)) (fun r21 => if r21 = 0 then A else B) = if (ix nM x1).isSome = true then B else A := fun s hs A B => by
    rw [in_eq, ob_s, hs, dix (by omega), gw0]
  cases hx : ix nM x1 with
  | none =>
    refine hbad (-1) ?_ ?_
    · unfold F_X12_option
      rw [moveAt_eq hL hM, ob_s, hx, oc_n]
    · unfold F_X13_option
      rw [hin t hM.2.2.1, hx, isS_n, if_neg (by decide)]
  | some m =>
  obtain ⟨hm, rfl⟩ := ix_some hx
  obtain ⟨-, -, -, ⟨p, hp, hpp, p1, p2⟩, ⟨se, hse, hsec, s1, s2⟩, ⟨c, hc, hcc, c1, c2⟩, -, ⟨l1, l2⟩, ⟨o, ho, o1, o2⟩, ⟨sp, dd, hsp, hdd, q1, q2, q3, q4⟩, ⟨u1, u2⟩, -⟩ := hM.2.2.2.1 m hm
  obtain ⟨-, -, -, -, x4, -, -, -, -, -, -, -, -, y1, y2, -⟩ := hS.2.2.2.1 sp hsp
  by_cases h7 : nt d ≤ tA t 3349 0 1
  case neg =>
    refine hbad (-1) ?_ ?_
    · unfold F_X12_option
      rw [moveAt_eq hL hM, ob_s, hx, oc_s, (show tL _ 3208 0 = 9 from hL 3208 rfl), g1, z1, et, e1, if_neg h7]
    · unfold F_X13_option
      rw [hin t hM.2.2.1, hx, isS_s, if_pos rfl, (show tL _ 3349 0 = 9 from hL 3349 rfl), g1, z1, e2, if_neg h7]
  -- the day of the end
  have cday : (nt d - 1 ≤ tA t 3320 0 sp) = ¬ (tA t 3320 0 sp + 1 < nt d) := by
    have h1 : (nt d - 1).toInt = (d : Int) - 1 := by rw [ni_sub (by rw [nt_int (by omega)]; show -2147483648 ≤ (d : Int) - 1; omega) (by rw [nt_int (by omega)]; show (d : Int) - 1 < 2147483648; omega), nt_int (by omega)]; rfl
    have h2 := ni_le.mp y1
    have h3 := ni_le.mp y2
    have h2' : (-9999 : Int) ≤ (tA t 3320 0 sp).toInt := h2
    have h3' : (tA t 3320 0 sp).toInt ≤ 2999 := h3
    have h4 : (tA t 3320 0 sp + 1).toInt = (tA t 3320 0 sp).toInt + 1 := ni_add (y := 1) (by show (-2147483648 : Int) ≤ _ + 1; omega) (by show _ + (1 : Int) < 2147483648; omega)
    rw [ni_le, ni_lt, h1, h4, nt_int (by omega)]
    exact propext ⟨fun q => by omega, fun q => by omega⟩
  -- the class
  have hcl : F_X12_option t (nt m) = if tA t 3333 0 m = 0 ∨ o = 0 ∨ ¬ tA t 3334 0 m = 0 ∨ ¬ (nt d - 1 ≤ tA t 3320 0 sp) then some (-2, t) else oc (own t nS p (nt d)) (some (-2, t)) (fun so => if tR t 1101 so = some se then (ob2 (F_X12_whyNot t (some p) (some c) (nt o) 2) (fun x34 t35 => (if x34 = 0 then (Option.bind (F_X12_movesOrSpansAreFull t35) (fun r36 => (if r36 = 0 then (nxt (tR t35 601 m) (fun o37 => (nxt (tR t35 603 m) (fun o38 => (ob2 (F_X12_makeSale t35 o37 o38 (tI t35 606 m) 2) (fun x40 t41 => (some (x40, t41)))))))) else (some ((-3), t35))))) else (Option.bind (F_X12_refusal t35 x34) (fun r42 => (some (r42, t35))))))) else some (-2, t)) := by
    have co0 : (nt o = 0) = (o = 0) := eq_nt (n := 0) (by omega) (by omega)
    unfold F_X12_option
    rw [moveAt_eq hL hM, ob_s, hx, oc_s, (show tL _ 3208 0 = 9 from hL 3208 rfl), g1, z1, et, e1, if_pos h7, l1, o1, ifP co0, u1]
    by_cases a1 : tA t 3333 0 m = 0
    · rw [if_pos a1, if_pos (Or.inl a1)]
    rw [if_neg a1]
    by_cases a2 : o = 0
    · rw [if_pos a2, if_pos (Or.inr (Or.inl a2))]
    rw [if_neg a2]
    by_cases a3 : tA t 3334 0 m = 0
    case neg => rw [if_pos a3, if_pos (Or.inr (Or.inr (Or.inl a3)))]
    rw [if_neg (fun q => q a3), nxt_e, q1, oc_s, x4]
    by_cases a4 : nt d - 1 ≤ tA t 3320 0 sp
    case neg => rw [if_neg a4, if_pos (Or.inr (Or.inr (Or.inr a4)))]
    rw [if_pos a4, if_neg (fun q => by
      rcases q with q | q | q | q
      · exact a1 q
      · exact a2 q
      · exact q a3
      · exact q a4), nxt_e, p1, oc_s, X1_owning_eq hS hp, ob_s]
    cases hw : own t nS p (nt d) with
    | none => rfl
    | some so =>
      rw [oc_s, oc_s, nxt_e, nxt_e, s1]
      by_cases a5 : tR t 1101 so = some se
      · rw [if_pos a5, if_pos a5, nxt_e, nxt_e, c1]
      · rw [if_neg a5, if_neg a5]
  have hmo : ∀ s, frm kLn t s → F_X13_option s (nt m) = if tA t 3333 0 m = 0 ∨ o = 0 ∨ ¬ tA t 3334 0 m = 0 ∨ ¬ (nt d - 1 ≤ tA t 3320 0 sp) then some (-2, s) else (if oel (own t nS p (nt d)) (-1) (fun so => tA t 3318 0 so) = nt se then (ob2 (F_X13_whyNot s (nt p) (nt c) 0 (nt o) 2 5) (fun x24 t25 => (if x24 ≤ 0 then (if (tI t25 1327 0) = 200 then (some ((-3), t25)) else (if ¬ (tI t25 1316 0) = 600 then optT t25 (nt m) (nt p) else (some ((-3), t25)))) else (some (((-20) - x24), t25))))) else some (-2, s)) := fun s hs => by
    have hLs := Ilen_f hs hL
    have e49 : tA s 3349 = tA t 3349 := (hs.1 3349 rfl).2.2.2.2.1
    have e01 : tI s 1301 0 = nt d := by rw [(hs.1 1301 rfl).2.1, e2]
    have e27 : tI s 1327 0 = nt nM := by rw [(hs.1 1327 rfl).2.1]; exact hM.2.2.1
    have co0 : (nt o = 0) = (o = 0) := eq_nt (n := 0) (by omega) (by omega)
    have e18 : (fun so => tA s 3318 0 so) = fun so => tA t 3318 0 so := by rw [(hs.1 3318 rfl).2.2.2.2.1]
    unfold F_X13_option
    rw [hin s e27, hx, isS_s, if_pos rfl, (show tL _ 3349 0 = 9 from hLs 3349 rfl), (show tL _ 3328 0 = 200 from hLs 3328 rfl), (show tL _ 3333 0 = 200 from hLs 3333 rfl), (show tL _ 3339 0 = 200 from hLs 3339 rfl), (show tL _ 3340 0 = 200 from hLs 3340 rfl), (show tL _ 3320 0 = 600 from hLs 3320 rfl), (show tL _ 3334 0 = 200 from hLs 3334 rfl), (show tL _ 3329 0 = 200 from hLs 3329 rfl), (show tL _ 3330 0 = 200 from hLs 3330 rfl), g1, z1, e49, e01, if_pos h7]
    simp (disch := omega) only [gd_nt, nt_cl, (hs.1 3328 rfl).2.2.2.2.1, (hs.1 3333 rfl).2.2.2.2.1, (hs.1 3339 rfl).2.2.2.2.1, (hs.1 3340 rfl).2.2.2.2.1, (hs.1 3320 rfl).2.2.2.2.1, (hs.1 3334 rfl).2.2.2.2.1, (hs.1 3329 rfl).2.2.2.2.1, (hs.1 3330 rfl).2.2.2.2.1, p2, o2, q2, s2, c2]
    rw [ifP co0]
    by_cases a1 : tA t 3333 0 m = 0
    · rw [if_pos a1, if_pos (Or.inl a1)]
    rw [if_neg a1]
    by_cases a2 : o = 0
    · rw [if_pos a2, if_pos (Or.inr (Or.inl a2))]
    rw [if_neg a2]
    by_cases a4 : nt d - 1 ≤ tA t 3320 0 sp
    case neg => rw [if_pos (by rw [cday] at a4; exact Decidable.of_not_not a4), if_pos (Or.inr (Or.inr (Or.inr a4)))]
    rw [if_neg (by rw [cday] at a4; exact a4)]
    by_cases a3 : tA t 3334 0 m = 0
    case neg => rw [if_pos a3, if_pos (Or.inr (Or.inr (Or.inl a3)))]
    rw [if_neg (fun q => q a3), if_neg (fun q => by
      rcases q with q | q | q | q
      · exact a1 q
      · exact a2 q
      · exact q a3
      · exact q a4), ownerOn_eqM hLs (Mspan_f hs (by decide) (IsM hS)), ob_s, own_f hs (by decide), e18]
    unfold optT
    rw [nt_cl (show m < 2147483648 by omega)]
  by_cases hbd : tA t 3333 0 m = 0 ∨ o = 0 ∨ ¬ tA t 3334 0 m = 0 ∨ ¬ (nt d - 1 ≤ tA t 3320 0 sp)
  · exact hbad (-2) (by rw [hcl, if_pos hbd]) (by rw [hmo t frm_rf, if_pos hbd])
  rw [if_neg hbd] at hcl
  cases hw0 : own t nS p (nt d) with
  | none => exact hbad (-2) (by rw [hcl, hw0, oc_n]) (by rw [hmo t frm_rf, if_neg hbd, hw0, oel_n, if_neg (fun q => by
      have h1 := nt_nn (a := se) (by omega)
      rw [← q] at h1
      exact absurd h1 (by decide))])
  | some so =>
  obtain ⟨co, hco, hcoc, hco1, hco2⟩ := sp_club h150 hS (own_lt hw0).1
  rw [hw0, oc_s, hco1] at hcl
  have hmo2 : ∀ s, frm kLn t s → F_X13_option s (nt m) = (if co = se then (ob2 (F_X13_whyNot s (nt p) (nt c) 0 (nt o) 2 5) (fun x24 t25 => (if x24 ≤ 0 then (if (tI t25 1327 0) = 200 then (some ((-3), t25)) else (if ¬ (tI t25 1316 0) = 600 then optT t25 (nt m) (nt p) else (some ((-3), t25)))) else (some (((-20) - x24), t25))))) else some (-2, s)) := fun s hs => by
    have cc : (nt co = nt se) = (co = se) := eq_nt (by omega) (by omega)
    rw [hmo s hs, if_neg hbd, hw0, oel_s, hco2, ifP cc]
  by_cases hcs : co = se
  case neg => exact hbad (-2) (by rw [hcl, if_neg (fun q => hcs (Option.some.inj q))]) (by rw [hmo2 t frm_rf, if_neg hcs])
  rw [if_pos (by rw [hcs])] at hcl
  obtain ⟨x, t1, a1, a2, ⟨k, hk, rfl⟩, a4⟩ := whyNotD (how := 2) (D := kLn) kLn_ask kLn_scr hL hT0 e1 hG hB hC hI hS hM hH hU hp hc hcc hw0 (nt o) (by omega)
  have hw : ∀ s, frm kLn t s → ∃ s2, frm scr s s2 ∧ F_X13_option s (nt m) = (if k = 0 then (if nM = 200 then (some ((-3), s2)) else (if nS = 600 then (some ((-3), s2)) else optT s2 (nt m) (nt p))) else (some (((-20) - nt k), s2))) := fun s hs => by
    obtain ⟨s2, b1_, b2⟩ := a4 s hs
    have eb : b1 (decide ((2 : Nat) = 1)) = 0 := rfl
    rw [eb, if_pos rfl, if_pos rfl] at b1_
    have e27 : tI s2 1327 0 = nt nM := by rw [(b2.1 1327 rfl).2.1, (hs.1 1327 rfl).2.1]; exact hM.2.2.1
    have e16 : tI s2 1316 0 = nt nS := by rw [(b2.1 1316 rfl).2.1, (hs.1 1316 rfl).2.1]; exact hS.2.2.1
    have q1 : (nt k ≤ 0) = (k = 0) := by
      rw [show (0 : Int32) = nt 0 from rfl, ge_nt (by omega) (by omega)]
      exact propext ⟨fun q => by omega, fun q => by omega⟩
    have q2 : (nt nM = 200) = (nM = 200) := eq_nt (n := 200) (by omega) (by omega)
    have q3 : (nt nS = 600) = (nS = 600) := n600 h600
    refine ⟨s2, b2, ?_⟩
    rw [hmo2 s hs, if_pos hcs, b1_, ob2_s, e27, e16, ifP q1, ifP q2]
    by_cases c1 : k = 0
    · rw [if_pos c1, if_pos c1]
      by_cases c2 : nM = 200
      · rw [if_pos c2, if_pos c2]
      · rw [if_neg c2, if_neg c2]
        by_cases c3 : nS = 600
        · rw [if_neg (fun q => q (q3.mpr c3)), if_pos c3]
        · rw [if_pos (fun q => c3 (q3.mp q)), if_neg c3]
    · rw [if_neg c1, if_neg c1]
  have hw1 := hw t1 (frm_sb a2 kLn_scr)
  have hA1 : Iall nB nS nM t1 := ⟨Ibody_f a2 (by decide) hB, Icoin_f a2 (by decide) hC, Iinc_f a2 (by decide) hI, Imat_f a2 (by decide) hMt, Ilack_f a2 (by decide) hLk, Ispan_f a2 (by decide) hS, Imove_f a2 (by decide) hM⟩
  have hb1 : Icb nB nM t1 := Icb_f a2 (by decide) hb
  have hk0 : (nt k = 0) = (k = 0) := eq_nt (n := 0) (by omega) (by omega)
  have a1' : F_X12_whyNot t (some p) (some c) (nt o) 2 = some (nt k, t1) := a1
  rw [hcl, a1', ob2_s, ifP hk0]
  by_cases k0 : k = 0
  case neg =>
    obtain ⟨s2, b2, b3⟩ := hw1
    rw [if_neg k0] at b3
    rw [if_neg k0, refusal_eq hk, ob_s]
    exact ⟨_, t1, s2, rfl, b3, ⟨nS, nM, ⟨Ibody_f b2 (by decide) hA1.1, Icoin_f b2 (by decide) hA1.2.1, Iinc_f b2 (by decide) hA1.2.2.1, Imat_f b2 (by decide) hA1.2.2.2.1, Ilack_f b2 (by decide) hA1.2.2.2.2.1, Ispan_f b2 (by decide) hA1.2.2.2.2.2.1, Imove_f b2 (by decide) hA1.2.2.2.2.2.2⟩, Icb_f b2 (by decide) hb1⟩, frm_sb (frm_tr a2 b2) kMk_scr⟩
  rw [if_pos k0, full_eq hA1.2.2.2.2.2.1 hA1.2.2.2.2.2.2, ob_s, gw0]
  by_cases k2_ : nM = 200 ∨ nS = 600
  · obtain ⟨s2, b2, b3⟩ := hw1
    have b4 : F_X13_option t1 (nt m) = some (-3, s2) := by
      rw [b3, if_pos k0]
      by_cases c3 : nM = 200
      · rw [if_pos c3]
      · rw [if_neg c3, if_pos (k2_.resolve_left c3)]
    have c4 : (decide (nM = 200) || decide (nS = 600)) = true := by
      rw [Bool.or_eq_true]; exact k2_.imp decide_eq_true decide_eq_true
    rw [if_pos c4]
    exact ⟨_, t1, s2, rfl, b4, ⟨nS, nM, ⟨Ibody_f b2 (by decide) hA1.1, Icoin_f b2 (by decide) hA1.2.1, Iinc_f b2 (by decide) hA1.2.2.1, Imat_f b2 (by decide) hA1.2.2.2.1, Ilack_f b2 (by decide) hA1.2.2.2.2.1, Ispan_f b2 (by decide) hA1.2.2.2.2.2.1, Imove_f b2 (by decide) hA1.2.2.2.2.2.2⟩, Icb_f b2 (by decide) hb1⟩, frm_sb (frm_tr a2 b2) kMk_scr⟩
  have k3 : ¬ nM = 200 := fun q => k2_ (Or.inl q)
  have k4 : ¬ nS = 600 := fun q => k2_ (Or.inr q)
  rw [if_neg (by rw [decide_eq_false k3, decide_eq_false k4]; decide)]
  have hL1 := Ilen_f a2 hL
  have ho1 : own t1 nS p (nt d) = some so := by rw [own_f a2 (by decide)]; exact hw0
  have hR1 := Iterm_f a2 (by decide) hR
  have e08 : tA t1 3308 = tA t 3308 := (a2.1 3308 rfl).2.2.2.2.1
  obtain ⟨W, w1, fW, w2⟩ := sale_new (c := c) (how := 2) hL1 hA1 hb1 (by omega) (by omega) hR1 (by rw [(a2.1 1200 rfl).2.1]; exact e1) (by rw [(a2.1 1301 rfl).2.1]; exact e2) hd hp (by rw [e08]; exact hpp) hc (by rw [e08]; exact hcc) ho1 hco (by rw [e08]; exact hcoc) (by rw [(a2.1 1101 rfl).2.2.1]; exact hco1) (by rw [(a2.1 3318 rfl).2.2.2.2.1]; exact hco2) (by rw [(a2.1 3349 rfl).2.2.2.2.1]; exact h7) ho (by omega)
  obtain ⟨s2, b2, b3⟩ := hw W (frm_tr (frm_sb a2 kLn_scr) fW)
  rw [if_pos k0, if_neg k3, if_neg k4] at b3
  have fts : frm kLn t s2 := frm_tr (frm_tr (frm_sb a2 kLn_scr) fW) (frm_sb b2 kLn_scr)
  obtain ⟨T, n0, n1, n2, n3⟩ := w2 s2 b2 1 (fun q => absurd q (by decide))
  rw [if_neg (by decide), if_neg (by decide)] at n0
  have hLs2 := Ilen_f fts hL
  unfold optT at b3
  rw [(show tL _ 3330 0 = 200 from hLs2 3330 rfl), (show tL _ 3339 0 = 200 from hLs2 3339 rfl), gd_nt _ (by omega) (by omega), gd_nt _ (by omega) (by omega), nt_cl (by omega), (fts.1 3330 rfl).2.2.2.2.1, (fts.1 3339 rfl).2.2.2.2.1, c2, o2, n0, ob2_s] at b3
  have w1' : F_X12_makeSale t1 (some p) (some c) (nt o) 2 = some (nt nM, W) := w1
  refine ⟨nt nM, W, T, ?_, b3, ⟨nS + 1, nM + 1, n1, n2⟩, frm_tr (frm_sb a2 kMk_scr) n3⟩
  rw [(a2.1 601 rfl).2.2.1, (a2.1 603 rfl).2.2.1, (a2.1 606 rfl).2.1, p1, c1, o1, nxt_e, nxt_e, w1']
  rfl
end
