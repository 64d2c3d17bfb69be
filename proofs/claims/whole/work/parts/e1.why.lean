/-! PART e1: why a move may not be; the model at any state that leaves what it reads alone. -/
section
variable {t : TS} {nB nS nM nR c l d p : Nat}
theorem whyNotD {D : Nat → Bool} (hD : ∀ k, k ∈ kAsk → D k = false) (hsD : ∀ k, D k = false → scr k = false) (hL : Ilen t) (hT : Itime t) (hday : tI t 1200 0 = nt d) (hG : Ileag t) (hB : Ibody nB t) (hC : Icoin nB t) (hI : Iinc nB t) (hS : Ispan nB nS nM t) (hM : Imove nB nS nM t) (hH : Irh nR t) (hU : Irule nR t) (hp : p < nB) (hc : c < nB) (hcl : isCl (tA t 3308 0 c) = true) {so : Nat} (ho : own t nS p (nt d) = some so) (fee : Int32) {how : Nat} (hhow : how < 3) : ∃ x t1, F_X12_whyNot t (some p) (some c) fee (nt how) = some (x, t1) ∧ frm scr t t1 ∧ (∃ k, k ≤ 6 ∧ x = nt k) ∧ ∀ s, frm D t s → ∃ t2, F_X13_whyNot s (nt p) (nt c) (b1 (decide (how = 1))) fee (if how = 2 then 2 else 1) (if how = 2 then 5 else 6) = some (x, t2) ∧ frm scr s t2 := by
  obtain ⟨d', mi, hd', hmi, e1, e2, e3, e4⟩ := hT
  have edd : nt d = nt d' := hday.symm.trans e1
  have h150 := hB.1
  obtain ⟨-, -, -, -, q5, -, -, -, -, ⟨l, hl, hlg⟩, -⟩ := hB.2.2.2.1 c hc
  obtain ⟨L1, L2, L3, L4, ⟨w, hw6, w1, w2, w3⟩⟩ := hG l hl
  have hL4 : tI t 503 l = tA t 3306 0 l := L4
  -- the two questions
  have hday' : tI t 1200 0 = nt d' := e1
  rw [edd] at ho hday
  obtain ⟨x4, z4, A4⟩ := ask2 (u := 0) (who := some p) hL hB hC hI hS hM hH hU hc hcl hd' e1 e2 hl hlg (fun q hq => by rw [← Option.some.inj hq]; exact hp) (by omega) false (Or.inl rfl)
  obtain ⟨x6, z6, A6⟩ := ask2 (u := 1) (who := some p) hL hB hC hI hS hM hH hU hc hcl hd' e1 e2 hl hlg (fun q hq => by rw [← Option.some.inj hq]; exact hp) (by omega) true (Or.inl rfl)
  obtain ⟨s4, c4, f4⟩ := (A4 t frm_rf).1
  obtain ⟨s6, c6, f6⟩ := (A6 s4 f4).1
  obtain ⟨sl, sc⟩ : so < nS ∧ ∃ co, co < nB ∧ tR t 1101 so = some co ∧ tA t 3318 0 so = nt co := by
    obtain ⟨co, h1, -, h2, h3⟩ := sp_club h150 hS (own_lt ho).1
    exact ⟨(own_lt ho).1, co, h1, h2, h3⟩
  obtain ⟨co, hco, hco1, hco2⟩ := sc
  obtain ⟨bo, hbo⟩ : ∃ bo, bo = opn t l w (nt d') := ⟨_, rfl⟩
  obtain ⟨bl, hbl⟩ : ∃ bl, bl = lent t nS p c d' (decide (how = 1)) := ⟨_, rfl⟩
  -- the answer
  obtain ⟨W2, hW2⟩ : ∃ W2 : Nat, W2 = if bo = true then (if nt mi ≤ tA t 3306 0 l then (if x4 < 0 then (if fee ≤ tA t 3310 0 c then (if how = 2 then 0 else if x6 < 0 then 0 else 6) else 5) else 4) else 3) else 2 := ⟨_, rfl⟩
  obtain ⟨W, hW⟩ : ∃ W : Nat, W = if how = 2 then W2 else if co = c then 1 else if bl = true then 1 else W2 := ⟨_, rfl⟩
  have hW26 : W2 ≤ 6 := by rw [hW2]; (repeat' split) <;> omega
  have hWle : W ≤ 6 := by rw [hW]; (repeat' split) <;> omega
  have h46 : ∃ t1, B_X12_whyNot_46 t p (some c) fee (nt how) = some (nt W2, t1) ∧ frm scr t t1 := by
    have c4' : F_X12_brokenLine t (lastP (rf t (10 * nt l + 0) (nt d') (nt d')) nR) (some c) (some p) none = some (x4, s4) := c4
    have r4 : F_X12_ruleToday t 0 (some c) = some (lastP (rf t (10 * nt l + 0) (nt d') (nt d')) nR) := ruleToday_eq hL hB hH hc hday' hlg 0
    have r6 : F_X12_ruleToday s4 1 (some c) = some (lastP (rf t (10 * nt l + 1) (nt d') (nt d')) nR) := by
      rw [ruleToday_eq (Ilen_f f4 hL) (Ibody_f f4 (by decide) hB) (Irh_f f4 (by decide) hH) hc (by rw [(f4.1 1200 rfl).2.1]; exact hday') (by rw [(f4.1 3309 rfl).2.2.2.2.1]; exact hlg) 1, rf_f f4 (by decide)]
    have c6' : F_X12_brokenLine s4 (lastP (rf t (10 * nt l + 1) (nt d') (nt d')) nR) (some c) none (some p) = some (x6, s6) := c6
    have e103 : tI s4 103 c = tA t 3310 0 c := by rw [(f4.1 103 rfl).2.1]; exact hC.1 c hc
    have ch2 : (nt how = 2) = (how = 2) := eq_nt (n := 2) (by omega) (by omega)
    unfold B_X12_whyNot_46
    rw [oc_s, q5, hlg, (show tL _ 3202 0 = 4 from hL 3202 rfl), gd_nt _ (by omega) (by omega), nt_cl (by omega), L1, nxt_e, oc_s, hday', X5_isOpen_eq hG hl hw6 w1, ob_s, gw1, e3, hL4, r4, ob_s, c4', ob2_s, e103, ifP ch2, r6, ob_s, c6', ob2_s, hW2, ← hbo]
    by_cases a1 : bo = true
    case neg => rw [if_neg a1, if_neg a1]; exact ⟨t, rfl, frm_rf⟩
    rw [if_pos a1, if_pos a1]
    by_cases a2 : nt mi ≤ tA t 3306 0 l
    case neg => rw [if_neg a2, if_neg a2]; exact ⟨t, rfl, frm_rf⟩
    rw [if_pos a2, if_pos a2]
    by_cases a3 : x4 < 0
    case neg => rw [if_neg a3, if_neg a3]; exact ⟨s4, rfl, f4⟩
    rw [if_pos a3, if_pos a3]
    by_cases a4 : fee ≤ tA t 3310 0 c
    case neg => rw [if_neg a4, if_neg a4]; exact ⟨s4, rfl, f4⟩
    rw [if_pos a4, if_pos a4]
    by_cases a5 : how = 2
    · rw [if_pos a5, if_pos a5]; exact ⟨s4, rfl, f4⟩
    rw [if_neg a5, if_neg a5]
    by_cases a6 : x6 < 0
    · rw [if_pos a6, if_pos a6]; exact ⟨s6, rfl, frm_tr f4 f6⟩
    · rw [if_neg a6, if_neg a6]; exact ⟨s6, rfl, frm_tr f4 f6⟩
  have hclass : ∃ t1, F_X12_whyNot t (some p) (some c) fee (nt how) = some (nt W, t1) ∧ frm scr t t1 := by
    obtain ⟨t1, g1, g2⟩ := h46
    have ch2 : (nt how = 2) = (how = 2) := eq_nt (n := 2) (by omega) (by omega)
    have ch1 : (nt how = 1) = (how = 1) := eq_nt (n := 1) (by omega) (by omega)
    have hlent : F_X12_isLentElsewhere t (some p) (some c) (nt how) = some (b1 bl) := by
      rw [lentElse_eq hB hS hp hc hday' (nt how), hbl, show decide (nt how = 1) = decide (how = 1) from decide_eq_decide.mpr (by rw [ch1])]
    unfold F_X12_whyNot
    rw [oc_s, hday', X1_owning_eq hS hp, ob_s, ho, oc_s, ifP ch2, hco1, nxt_e, hlent, ob_s, gw0, g1, hW]
    by_cases a1 : how = 2
    · rw [if_pos a1, if_pos a1]; exact ⟨t1, rfl, g2⟩
    rw [if_neg a1, if_neg a1]
    have cc : ((some co : Option Nat) = some c) = (co = c) := propext ⟨fun q => Option.some.inj q, fun q => by rw [q]⟩
    rw [ifP cc]
    by_cases a2 : co = c
    · rw [if_pos a2, if_pos a2]; exact ⟨t, rfl, frm_rf⟩
    rw [if_neg a2, if_neg a2]
    by_cases a3 : bl = true
    · rw [if_pos a3, if_pos a3]; exact ⟨t, rfl, frm_rf⟩
    · rw [if_neg a3, if_neg a3]; exact ⟨t1, rfl, g2⟩
  obtain ⟨t1, g1, g2⟩ := hclass
  have A4' : ∀ s, frm D t s → ∃ s2, F_X13_firstBroken s (oel (lastP (rf t (10 * nt l + nt 0) (nt d') (nt d')) nR) (-2) nt) (nt c) (enc (some p)) (b1 false) = some (x4, s2) ∧ frm scr s s2 := by
    obtain ⟨y, u1, y1, -, -, y4⟩ := askD hD (u := 0) (who := some p) hL hB hC hI hS hM hH hU hc hcl hd' e1 e2 hl hlg (fun q hq => by rw [← Option.some.inj hq]; exact hp) (by omega) false (Or.inl rfl)
    rw [c4] at y1
    have exy : x4 = y := congrArg (fun z : Int32 × TS => z.1) (Option.some.inj y1)
    rw [exy]
    exact y4
  have A6' : ∀ s, frm D t s → ∃ s2, F_X13_firstBroken s (oel (lastP (rf t (10 * nt l + nt 1) (nt d') (nt d')) nR) (-2) nt) (nt c) (enc (some p)) (b1 true) = some (x6, s2) ∧ frm scr s s2 := by
    obtain ⟨y, u1, y1, -, -, y4⟩ := askD hD (u := 1) (who := some p) hL hB hC hI hS hM hH hU hc hcl hd' e1 e2 hl hlg (fun q hq => by rw [← Option.some.inj hq]; exact hp) (by omega) true (Or.inl rfl)
    obtain ⟨u2, v1, -⟩ := (A6 t frm_rf).1
    rw [v1] at y1
    have exy : x6 = y := congrArg (fun z : Int32 × TS => z.1) (Option.some.inj y1)
    rw [exy]
    exact y4
  refine ⟨nt W, t1, g1, g2, ⟨W, hWle, rfl⟩, fun s hs => ?_⟩
  -- the model at s
  have hLs := Ilen_f hs hL
  have hGs := Ileag_f hs (fun k hk => hD k (kAsk_in (by decide) k hk)) hG
  have e2s : tI s 1301 0 = nt d' := by rw [(hs.1 1301 (hD 1301 (by decide))).2.1]; exact e2
  have hgen : ∀ s', frm D t s' → tI s' 1301 0 = nt d' ∧ Ilen s' ∧ Mspan nB nS s' ∧ Ileag s' := fun s' h => ⟨by rw [(h.1 1301 (hD 1301 (by decide))).2.1]; exact e2, Ilen_f h hL, Mspan_f h (fun k hk => hD k (kAsk_in (by decide) k hk)) (IsM hS), Ileag_f h (fun k hk => hD k (kAsk_in (by decide) k hk)) hG⟩
  obtain ⟨lo, hlo⟩ : ∃ lo, lo = b1 (decide (how = 1)) := ⟨_, rfl⟩
  have hsp : ∀ s', frm D t s' → F_X13_spanOn s' (nt p) (tI s' 1301 0) = some (enc (hol t nS p (nt d'))) := fun s' h => by
    obtain ⟨b1_, b2, b3, b4⟩ := hgen s' h
    rw [b1_, spanOn_eqM b2 b3, hol_f h (fun k hk => hD k (kAsk_in (by decide) k hk))]
  have T1 : ∀ (K : TS → Int32 → Int32 → Int32 → Int32 → Int32 → Int32 → Int32 → Int32 → Option (Int32 × TS)) s' U, frm D t s' → 1 ≤ U → U ≤ 6 → BB_X13_whyNot_23 K s' (nt p) (nt c) lo fee (nt U) (enc (hol t nS p (nt d'))) (nt l) (nt 1) = if co = c ∨ bl = true then some (nt 1, s') else K s' (nt p) (nt c) lo fee (nt U) (enc (hol t nS p (nt d'))) (nt l) (nt 2) := by
    intro K s' U h hU1 hU6
    obtain ⟨b1_, b2, b3, b4⟩ := hgen s' h
    have e112 : ∀ V7, B_X13_whyNot_112 K s' (nt p) (nt c) lo fee (nt U) V7 (nt l) (nt 1) = some (nt 1, s') := fun V7 => by
      unfold B_X13_whyNot_112 B_X13_whyNot_117 B_X13_whyNot_263
      rw [if_neg (by decide)]
    have e116 : ∀ V7, B_X13_whyNot_116 K s' (nt p) (nt c) lo fee (nt U) V7 (nt l) (nt 1) = K s' (nt p) (nt c) lo fee (nt U) V7 (nt l) (nt 2) := fun V7 => by
      unfold B_X13_whyNot_116 B_X13_whyNot_117 B_X13_whyNot_263
      rw [if_pos rfl, nt_succ]
    have eow : F_X13_ownerOn s' (nt p) (tI s' 1301 0) = some (nt co) := by
      rw [b1_, ownerOn_eqM b2 b3, own_f h (fun k hk => hD k (kAsk_in (by decide) k hk)), ho, oel_s, (h.1 3318 (hD 3318 (by decide))).2.2.2.2.1, hco2]
    have cco : (nt co = nt c) = (co = c) := eq_nt (by omega) (by omega)
    unfold BB_X13_whyNot_23
    rw [ilT (by omega) (by omega), if_neg (by omega), show (nt 1 : Int32) = nt (0 + 1) from rfl, swi1 _ 0 (by omega) (Nat.le_of_ble_eq_true rfl), List.getD_cons_zero, eow, ob_s, ifP cco]
    show (if co = c then B_X13_whyNot_112 K s' (nt p) (nt c) lo fee (nt U) (enc (hol t nS p (nt d'))) (nt l) (nt 1) else _) = _
    rw [e112]
    by_cases a1 : co = c
    · rw [if_pos a1, if_pos (Or.inl a1)]
    rw [if_neg a1]
    have hblv : bl = oel (hol t nS p (nt d')) false (fun s => decide (tA t 3321 0 s = 2) && (decide (how = 1) || decide (¬ tA t 3318 0 s = nt c))) := hbl
    have e116' : B_X13_whyNot_116 K s' (nt p) (nt c) lo fee (nt U) (enc (hol t nS p (nt d'))) (nt l) (nt (0 + 1)) = K s' (nt p) (nt c) lo fee (nt U) (enc (hol t nS p (nt d'))) (nt l) (nt 2) := e116 _
    rw [e116', show (nt (0 + 1) : Int32) = nt 1 from rfl]
    cases hh : hol t nS p (nt d') with
    | none =>
      have hb : bl = false := by rw [hblv, hh]; rfl
      rw [if_pos (show enc none < 0 by decide), if_neg (fun q => q.elim a1 (fun q2 => by rw [hb] at q2; cases q2))]
    | some z =>
      have hz := hol_lt hh
      have h600 := hS.1
      have hb : bl = (decide (tA t 3321 0 z = 2) && (decide (how = 1) || decide (¬ tA t 3318 0 z = nt c))) := by rw [hblv, hh, oel_s]
      rw [show enc (some z) = nt z from rfl, if_neg (nt_neg (by omega)), (show tL _ 3318 0 = 600 from b2 3318 rfl), (show tL _ 3321 0 = 600 from b2 3321 rfl), gd_nt _ (by omega) (by omega), gd_nt _ (by omega) (by omega), nt_cl (by omega), (h.1 3321 (hD 3321 (by decide))).2.2.2.2.1, (h.1 3318 (hD 3318 (by decide))).2.2.2.2.1]
      by_cases a2 : tA t 3321 0 z = 2
      case neg =>
        have hb0 : bl = false := by rw [hb, decide_eq_false a2, Bool.false_and]
        rw [if_pos a2, if_neg (fun q => q.elim a1 (fun q2 => by rw [hb0] at q2; cases q2))]
      rw [if_neg (fun q => q a2)]
      rw [decide_eq_true a2, Bool.true_and] at hb
      by_cases a3 : how = 1
      · have hb0 : bl = true := by rw [hb, decide_eq_true a3, Bool.true_or]
        rw [if_pos (show ¬ lo = 0 by rw [hlo, decide_eq_true a3]; decide), if_pos (Or.inr hb0)]
      · have hlo0 : lo = 0 := by rw [hlo, decide_eq_false a3]; rfl
        rw [if_neg (fun q => q hlo0)]
        rw [decide_eq_false a3, Bool.false_or] at hb
        by_cases a4 : tA t 3318 0 z = nt c
        · have hb0 : bl = false := by rw [hb]; exact decide_eq_false (fun q => q a4)
          rw [if_pos a4, if_neg (fun q => q.elim a1 (fun q2 => by rw [hb0] at q2; cases q2))]
        · have hb0 : bl = true := by rw [hb]; exact decide_eq_true (p := ¬ tA t 3318 0 z = nt c) a4
          rw [if_neg a4, if_pos (Or.inr hb0)]
  have T2 : ∀ (K : TS → Int32 → Int32 → Int32 → Int32 → Int32 → Int32 → Int32 → Int32 → Option (Int32 × TS)) s' U V7, frm D t s' → 2 ≤ U → U ≤ 6 → BB_X13_whyNot_23 K s' (nt p) (nt c) lo fee (nt U) V7 (nt l) (nt 2) = if bo = true then K s' (nt p) (nt c) lo fee (nt U) V7 (nt l) (nt 3) else some (nt 2, s') := by
    intro K s' U V7 h hU1 hU6
    obtain ⟨b1_, b2, b3, b4⟩ := hgen s' h
    have hopn : opn s' l w (nt d') = bo := by
      rw [hbo]
      unfold opn
      rw [(h.1 2500 (hD 2500 (by decide))).2.2.2.2.1, (h.1 2501 (hD 2501 (by decide))).2.2.2.2.1]
    have eop : F_X13_isOpen s' (nt l) (tI s' 1301 0) = some (b1 bo) := by
      rw [b1_, X13_isOpen_eq b2 b4 hl hw6 (by rw [(h.1 3303 (hD 3303 (by decide))).2.2.2.2.1]; exact w2) (fun k hk => by
        rw [(h.1 2500 (hD 2500 (by decide))).2.2.2.2.1, (h.1 2501 (hD 2501 (by decide))).2.2.2.2.1, (h.1 3304 (hD 3304 (by decide))).2.2.2.2.1, (h.1 3305 (hD 3305 (by decide))).2.2.2.2.1]; exact w3 k hk), hopn]
    unfold BB_X13_whyNot_23
    rw [ilT (by omega) (by omega), if_neg (by omega), show (nt 2 : Int32) = nt (1 + 1) from rfl, swi1 _ 1 (by omega) (Nat.le_of_ble_eq_true rfl), List.getD_cons_succ, List.getD_cons_zero, eop, ob_s, gw1]
    unfold B_X13_whyNot_140 B_X13_whyNot_263
    rw [if_pos (show (0 : Int32) = 0 from rfl), if_neg (show ¬ (1 : Int32) = 0 by decide), nt_succ]
  have T3 : ∀ (K : TS → Int32 → Int32 → Int32 → Int32 → Int32 → Int32 → Int32 → Int32 → Option (Int32 × TS)) s' U V7, frm D t s' → 3 ≤ U → U ≤ 6 → BB_X13_whyNot_23 K s' (nt p) (nt c) lo fee (nt U) V7 (nt l) (nt 3) = if nt mi ≤ tA t 3306 0 l then K s' (nt p) (nt c) lo fee (nt U) V7 (nt l) (nt 4) else some (nt 3, s') := by
    intro K s' U V7 h hU1 hU6
    obtain ⟨b1_, b2, b3, b4⟩ := hgen s' h
    have e1302 : tI s' 1302 0 = nt mi := by rw [(h.1 1302 (hD 1302 (by decide))).2.1]; exact e4
    have e06 : tA s' 3306 0 = tA t 3306 0 := by rw [(h.1 3306 (hD 3306 (by decide))).2.2.2.2.1]
    unfold BB_X13_whyNot_23
    rw [ilT (by omega) (by omega), if_neg (by omega), show (nt 3 : Int32) = nt (2 + 1) from rfl, swi1 _ 2 (by omega) (Nat.le_of_ble_eq_true rfl), List.getD_cons_succ, List.getD_cons_succ, List.getD_cons_zero, (show tL _ 3306 0 = 4 from b2 3306 rfl), gd_nt _ (by omega) (by omega), nt_cl (by omega), e1302, e06]
    unfold B_X13_whyNot_164 B_X13_whyNot_263
    rw [if_pos (show (0 : Int32) = 0 from rfl), if_neg (show ¬ (1 : Int32) = 0 by decide), nt_succ]
  have T5 : ∀ (K : TS → Int32 → Int32 → Int32 → Int32 → Int32 → Int32 → Int32 → Int32 → Option (Int32 × TS)) s' U V7, frm D t s' → 5 ≤ U → U ≤ 6 → BB_X13_whyNot_23 K s' (nt p) (nt c) lo fee (nt U) V7 (nt l) (nt 5) = if fee ≤ tA t 3310 0 c then K s' (nt p) (nt c) lo fee (nt U) V7 (nt l) (nt 6) else some (nt 5, s') := by
    intro K s' U V7 h hU1 hU6
    obtain ⟨b1_, b2, b3, b4⟩ := hgen s' h
    have e10 : tA s' 3310 0 = tA t 3310 0 := by rw [(h.1 3310 (hD 3310 (by decide))).2.2.2.2.1]
    unfold BB_X13_whyNot_23
    rw [ilT (by omega) (by omega), if_neg (by omega), show (nt 5 : Int32) = nt (4 + 1) from rfl, swi1 _ 4 (by omega) (Nat.le_of_ble_eq_true rfl), List.getD_cons_succ, List.getD_cons_succ, List.getD_cons_succ, List.getD_cons_succ, List.getD_cons_zero, (show tL _ 3310 0 = 150 from b2 3310 rfl), gd_nt _ (by omega) (by omega), nt_cl (by omega), e10]
    unfold B_X13_whyNot_222 B_X13_whyNot_263
    rw [if_pos (show (0 : Int32) = 0 from rfl), if_neg (show ¬ (1 : Int32) = 0 by decide), nt_succ]
  have hforce : ∀ s' v, frm D t s' → F_X13_forceOf s' v (tI s' 1301 0) (tI s' 1301 0) = some (oel (lastP (rf t v (nt d') (nt d')) nR) (-2) nt) := fun s' v h => by
    obtain ⟨b1_, b2, -⟩ := hgen s' h
    have hMr : Mrh nR s' := ⟨hH.1, by rw [(h.1 1355 (hD 1355 (by decide))).2.1]; exact hH.2.2.1⟩
    rw [b1_, forceOf_eqM b2 hMr, rf_f h (fun k hk => hD k (kAsk_in (by decide) k hk))]
  have T4 : ∀ (K : TS → Int32 → Int32 → Int32 → Int32 → Int32 → Int32 → Int32 → Int32 → Option (Int32 × TS)) s' U V7, frm D t s' → 4 ≤ U → U ≤ 6 → ∃ s2, frm scr s' s2 ∧ BB_X13_whyNot_23 K s' (nt p) (nt c) lo fee (nt U) V7 (nt l) (nt 4) = if x4 < 0 then K s2 (nt p) (nt c) lo fee (nt U) V7 (nt l) (nt 5) else some (nt 4, s2) := by
    intro K s' U V7 h hU1 hU6
    obtain ⟨s2, k1, k2⟩ := A4' s' h
    have k1' : F_X13_firstBroken s' (oel (lastP (rf t (10 * nt l + 0) (nt d') (nt d')) nR) (-2) nt) (nt c) (nt p) 0 = some (x4, s2) := k1
    refine ⟨s2, k2, ?_⟩
    unfold BB_X13_whyNot_23
    rw [ilT (by omega) (by omega), if_neg (by omega), show (nt 4 : Int32) = nt (3 + 1) from rfl, swi1 _ 3 (by omega) (Nat.le_of_ble_eq_true rfl), List.getD_cons_succ, List.getD_cons_succ, List.getD_cons_succ, List.getD_cons_zero, hforce s' _ h, ob_s, show (10 : Int32) * nt l = 10 * nt l + 0 from (Int32.add_zero _).symm, k1', ob2_s]
    unfold B_X13_whyNot_201 B_X13_whyNot_263
    rw [if_pos (show (0 : Int32) = 0 from rfl), if_neg (show ¬ (1 : Int32) = 0 by decide), nt_succ]
  have T6 : ∀ (K : TS → Int32 → Int32 → Int32 → Int32 → Int32 → Int32 → Int32 → Int32 → Option (Int32 × TS)) s' V7, frm D t s' → ∃ s2, frm scr s' s2 ∧ BB_X13_whyNot_23 K s' (nt p) (nt c) lo fee (nt 6) V7 (nt l) (nt 6) = if x6 < 0 then K s2 (nt p) (nt c) lo fee (nt 6) V7 (nt l) (nt 7) else some (nt 6, s2) := by
    intro K s' V7 h
    obtain ⟨s2, k1, k2⟩ := A6' s' h
    have k1' : F_X13_firstBroken s' (oel (lastP (rf t (10 * nt l + 1) (nt d') (nt d')) nR) (-2) nt) (nt c) (nt p) 1 = some (x6, s2) := k1
    refine ⟨s2, k2, ?_⟩
    unfold BB_X13_whyNot_23
    rw [ilT (by omega) (by omega), if_neg (by omega), show (nt 6 : Int32) = nt (5 + 1) from rfl, swi1 _ 5 (by omega) (Nat.le_of_ble_eq_true rfl), List.getD_cons_succ, List.getD_cons_succ, List.getD_cons_succ, List.getD_cons_succ, List.getD_cons_succ, List.getD_nil, hforce s' _ h, ob_s, k1', ob2_s]
    unfold B_X13_whyNot_261 B_X13_whyNot_263
    rw [if_pos (show (0 : Int32) = 0 from rfl), if_neg (show ¬ (1 : Int32) = 0 by decide), nt_succ]
  have T7 : ∀ (K : TS → Int32 → Int32 → Int32 → Int32 → Int32 → Int32 → Int32 → Int32 → Option (Int32 × TS)) s' U V7, U ≤ 6 → BB_X13_whyNot_23 K s' (nt p) (nt c) lo fee (nt U) V7 (nt l) (nt (U + 1)) = some (nt 0, s') := by
    intro K s' U V7 hU6
    unfold BB_X13_whyNot_23
    rw [ilT (by omega) (by omega), if_pos (by omega)]
    rfl
  -- from 2 on
  have from2 : ∀ N V7 s', frm D t s' → ∃ t2, B_X13_whyNot_23 (N + 6) s' (nt p) (nt c) lo fee (nt (if how = 2 then 5 else 6)) V7 (nt l) (nt 2) = some (nt W2, t2) ∧ frm scr s' t2 := by
    intro N V7 s' h
    have hU : 5 ≤ (if how = 2 then 5 else 6) ∧ (if how = 2 then 5 else 6) ≤ 6 := by split <;> omega
    rw [hW2]
    show ∃ t2, BB_X13_whyNot_23 (B_X13_whyNot_23 (N + 5)) s' _ _ _ _ _ _ _ _ = _ ∧ _
    rw [T2 _ s' _ V7 h (by omega) hU.2]
    by_cases a1 : bo = true
    case neg => rw [if_neg a1, if_neg a1]; exact ⟨s', rfl, frm_rf⟩
    rw [if_pos a1, if_pos a1]
    show ∃ t2, BB_X13_whyNot_23 (B_X13_whyNot_23 (N + 4)) s' _ _ _ _ _ _ _ _ = _ ∧ _
    rw [T3 _ s' _ V7 h (by omega) hU.2]
    by_cases a2 : nt mi ≤ tA t 3306 0 l
    case neg => rw [if_neg a2, if_neg a2]; exact ⟨s', rfl, frm_rf⟩
    rw [if_pos a2, if_pos a2]
    show ∃ t2, BB_X13_whyNot_23 (B_X13_whyNot_23 (N + 3)) s' _ _ _ _ _ _ _ _ = _ ∧ _
    obtain ⟨s2, k1, k2⟩ := T4 (B_X13_whyNot_23 (N + 3)) s' (if how = 2 then 5 else 6) V7 h (by omega) hU.2
    rw [k2]
    by_cases a3 : x4 < 0
    case neg => rw [if_neg a3, if_neg a3]; exact ⟨s2, rfl, k1⟩
    rw [if_pos a3, if_pos a3]
    have h2 := frm_tr h (frm_sb k1 hsD)
    show ∃ t2, BB_X13_whyNot_23 (B_X13_whyNot_23 (N + 2)) s2 _ _ _ _ _ _ _ _ = _ ∧ _
    rw [T5 _ s2 _ V7 h2 (by omega) hU.2]
    by_cases a4 : fee ≤ tA t 3310 0 c
    case neg => rw [if_neg a4, if_neg a4]; exact ⟨s2, rfl, k1⟩
    rw [if_pos a4, if_pos a4]
    by_cases a5 : how = 2
    · rw [if_pos a5, if_pos a5]
      exact ⟨s2, T7 (B_X13_whyNot_23 (N + 1)) s2 5 V7 (by omega), k1⟩
    rw [if_neg a5, if_neg a5]
    show ∃ t2, BB_X13_whyNot_23 (B_X13_whyNot_23 (N + 1)) s2 _ _ _ _ _ _ _ _ = _ ∧ _
    obtain ⟨s3, j1, j2⟩ := T6 (B_X13_whyNot_23 (N + 1)) s2 V7 h2
    rw [j2]
    by_cases a6 : x6 < 0
    · rw [if_pos a6, if_pos a6]
      exact ⟨s3, T7 (B_X13_whyNot_23 N) s3 6 V7 (by omega), frm_tr k1 j1⟩
    · rw [if_neg a6, if_neg a6]
      exact ⟨s3, rfl, frm_tr k1 j1⟩
  have e09 : tA s 3309 0 c = nt l := by rw [(hs.1 3309 (hD 3309 (by decide))).2.2.2.2.1]; exact hlg
  obtain ⟨N, hN⟩ : ∃ N : Nat, 10000 = N + 7 := ⟨9993, rfl⟩
  unfold F_X13_whyNot
  rw [hsp s hs, ob_s, (show tL _ 3309 0 = 150 from hLs 3309 rfl), gd_nt _ (by omega) (by omega), nt_cl (by omega), e09, hN, ← hlo]
  have eup : (if how = 2 then (5 : Int32) else 6) = nt (if how = 2 then 5 else 6) := by split <;> rfl
  rw [eup]
  have hUb : 1 ≤ (if how = 2 then 5 else 6) ∧ (if how = 2 then 5 else 6) ≤ 6 := by split <;> omega
  generalize hUU : (if how = 2 then 5 else 6) = U at hUb from2 ⊢
  by_cases a1 : how = 2
  · have eW : W = W2 := by rw [hW, if_pos a1]
    rw [if_pos a1, eW]
    exact from2 (N + 1) _ s hs
  have eW : W = if co = c then 1 else if bl = true then 1 else W2 := by rw [hW, if_neg a1]
  rw [if_neg a1, eW]
  show ∃ t2, BB_X13_whyNot_23 (B_X13_whyNot_23 (N + 6)) s _ _ _ _ _ _ _ (nt 1) = _ ∧ _
  rw [T1 _ s U hs hUb.1 hUb.2]
  by_cases a2 : co = c
  · rw [if_pos (Or.inl a2), if_pos a2]; exact ⟨s, rfl, frm_rf⟩
  rw [if_neg a2]
  by_cases a3 : bl = true
  · rw [if_pos (Or.inr a3), if_pos a3]; exact ⟨s, rfl, frm_rf⟩
  · rw [if_neg (fun q => q.elim a2 a3), if_neg a3]
    exact from2 N _ s hs
end
