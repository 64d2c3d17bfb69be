/-! PART d2: the model asks a rule about a club. -/
section
variable {t : TS} {nB nS nM c l d r : Nat} {who more : Option Nat}
theorem wr8 {β : Type} {u : TS} (hu : Ilen u) {i : Nat} (hi : i < 12) (x : Int32) (k : TS → Option β) : gd (nt i) (tL u 3368 0) (nxt (uA u 3368 0 (nt i).toNatClampNeg x) k) = k (uA u 3368 0 i x) := by
  rw [hu 3368 rfl, show ln 3368 = 12 from rfl, gd_nt _ (by omega) (by omega), nxt_e, nt_cl (by omega)]
def fw (u : TS) (g : Nat → Int32) : Nat → Nat → TS
  | _, 0 => u
  | i, n + 1 => fw (uA u 3368 0 i (g i)) g (i + 1) n
theorem fw_f {g : Nat → Int32} : ∀ n (u : TS) i, frm (ks [3368]) u (fw u g i n)
  | 0, _, _ => frm_rf
  | n + 1, u, i => frm_tr (frm_uA rfl) (fw_f n (uA u 3368 0 i (g i)) (i + 1))
theorem fw_v {g : Nat → Int32} : ∀ n (u : TS) i k, tA (fw u g i n) 3368 0 k = if i ≤ k ∧ k < i + n then g k else tA u 3368 0 k
  | 0, u, i, k => by
    rw [if_neg (by omega)]
    rfl
  | n + 1, u, i, k => by
    show tA (fw (uA u 3368 0 i (g i)) g (i + 1) n) 3368 0 k = _
    rw [fw_v n _ (i + 1) k, A_uA, m1_s]
    by_cases e : k = i
    · subst e
      rw [if_neg (by omega), m1_s, if_pos (by omega)]
    · rw [m1_n e]
      by_cases e2 : i + 1 ≤ k ∧ k < i + 1 + n
      · rw [if_pos e2, if_pos (by omega)]
      · rw [if_neg e2, if_neg (by omega)]
theorem firstBroken_m (hL : Ilen t) (hB : Mbody nB t) (hS : Mspan nB nS t) (hM : Mmove nB nS nM t) (hc : c < nB) (hd : d ≤ 2999) (hday : tI t 1301 0 = nt d) (hl : l < 4) (hlg : tA t 3309 0 c = nt l) (hw : ∀ q, who = some q → q < nB) (hr : r < 16) {ls : List (List (Int32 × Int32))} (hst : rSt t r ls) (hwf : ∀ c, c ∈ ls → wfc c) (h90 : ls.length ≤ 90) (h200 : ls.flatten.length ≤ 200) (joins : Bool) : ∃ t2, F_X13_firstBroken t (nt r) (nt c) (enc who) (b1 joins) = some (oel (fz (fun w => figv t nB nS nM c l d (if irm (tA t 3356 0 r) 10 = 0 then who else none) (if joins then who else none) w.toNatClampNeg) ls) (-1) nt, t2) ∧ frm scr t t2 := by
  have h150 : nB ≤ 150 := hB.1
  obtain ⟨wh, hwh⟩ : ∃ wh, wh = if irm (tA t 3356 0 r) 10 = 0 then who else none := ⟨_, rfl⟩
  obtain ⟨mo, hmo⟩ : ∃ mo, mo = if joins then who else none := ⟨_, rfl⟩
  rw [← hwh, ← hmo]
  have hmoB : ∀ q, mo = some q → q < nB := fun q hq => by
    rw [hmo] at hq
    cases joins with
    | true => exact hw q hq
    | false => cases hq
  have hwhB : ∀ q, wh = some q → q < nB := fun q hq => by
    rw [hwh] at hq
    by_cases e : irm (tA t 3356 0 r) 10 = 0
    · rw [if_pos e] at hq; exact hw q hq
    · rw [if_neg e] at hq; cases hq
  obtain ⟨s, s1, s2, s3, s4, s5⟩ := X13_findSquad_eqM (more := mo) hL hB hS hc hd hday hl hlg hmoB
  have fs : frm scr t s := frm_scr s2 rfl
  obtain ⟨his, hhis⟩ : ∃ his : Int32, his = if wh.isSome then 1 else 0 := ⟨_, rfl⟩
  -- the shape of the question
  have hneg : (enc who < 0) = (who = none) := by
    cases hq : who with
    | none => exact propext ⟨fun _ => rfl, fun _ => by decide⟩
    | some q =>
      have := hw q hq
      exact propext ⟨fun z => absurd z (nt_neg (by omega)), fun z => by cases z⟩
  have h41 : F_X13_firstBroken t (nt r) (nt c) (enc who) (b1 joins) = B_X13_firstBroken_41 t (nt r) (nt c) (enc who) his (enc mo) (nt c) := by
    have h27 : ∀ z, B_X13_firstBroken_27 t (nt r) (nt c) (enc who) (b1 joins) z = B_X13_firstBroken_41 t (nt r) (nt c) (enc who) z (enc mo) (nt c) := by
      intro z
      unfold B_X13_firstBroken_27
      rw [gw0, hmo]
      cases joins with
      | true => rfl
      | false => rfl
    unfold F_X13_firstBroken B_X13_firstBroken_26
    rw [if_pos (nt_nn (by omega)), (show tL _ 3356 0 = 16 from hL 3356 rfl), gd_nt _ (by omega) (by omega), nt_cl (by omega), h27, h27, hhis, hwh]
    by_cases e : irm (tA t 3356 0 r) 10 = 0
    · rw [if_neg (show ¬ ¬ irm (tA t 3356 0 r) 10 = 0 from fun q => q e), ifP hneg, if_pos e]
      cases who with
      | none => rfl
      | some q => rfl
    · rw [if_pos (show ¬ irm (tA t 3356 0 r) 10 = 0 from e), if_neg e]
      rfl
  rw [h41]
  unfold B_X13_firstBroken_41
  rw [s1, ob_s]
  obtain ⟨g, hg⟩ : ∃ g : Nat → Int32, g = fun k => figv t nB nS nM c l d wh mo k := ⟨_, rfl⟩
  have hLs := Ilen_f fs hL
  have gk : ∀ k, g k = figv t nB nS nM c l d wh mo k := fun k => by rw [hg]
  -- everything asked in a state that differs by scratch alone
  have fr : ∀ u, frm (ks [3368]) s u → frm scr t u := fun u h => frm_tr fs (frm_scr h rfl)
  have q5 : ∀ u, frm (ks [3368]) s u → F_X13_wagesOf u (nt c) = some (g 5) := fun u h => by
    have h' := fr u h
    rw [X13_wages_eqM (Ilen_f h' hL) (Mbody_f h' (by decide) hB) (Mspan_f h' (by decide) hS) hc, (h'.1 1301 rfl).2.1, hday, gk]
    have := figv_f (nB := nB) (nS := nS) (nM := nM) (c := c) (l := l) (d := d) (who := wh) (more := mo) (i := 5) h' (by decide)
    exact congrArg some this
  have q6 : ∀ u, frm (ks [3368]) s u → F_X13_capOf u (nt c) (tI u 1301 0 / 300) = some (g 6) := fun u h => by
    have h' := fr u h
    have hday' : tI u 1301 0 = nt d := by rw [(h'.1 1301 rfl).2.1, hday]
    rw [hday', year_eq hd, X13_capOf_eqM (Ilen_f h' hL) (Mbody_f h' (by decide) hB) (Mmove_f h' (by decide) hM) (Mspan_f h' (by decide) hS) hc (by omega), hday', gk]
    have := figv_f (nB := nB) (nS := nS) (nM := nM) (c := c) (l := l) (d := d) (who := wh) (more := mo) (i := 6) h' (by decide)
    exact congrArg some this
  have q7 : ∀ u, frm (ks [3368]) s u → F_X13_threeYears u (nt c) 1 = some (g 7) := fun u h => by
    have h' := fr u h
    have hday' : tI u 1301 0 = nt d := by rw [(h'.1 1301 rfl).2.1, hday]
    have e := X13_three_eqM (Ilen_f h' hL) (Mbody_f h' (by decide) hB) (Mspan_f h' (by decide) hS) (Mmove_f h' (by decide) hM) hc hd hday' true
    have e' : F_X13_threeYears u (nt c) 1 = _ := e
    rw [e', gk]
    have := figv_f (nB := nB) (nS := nS) (nM := nM) (c := c) (l := l) (d := d) (who := wh) (more := mo) (i := 7) h' (by decide)
    exact congrArg some this
  have q8 : ∀ u, frm (ks [3368]) s u → F_X13_threeYears u (nt c) 0 = some (g 8) := fun u h => by
    have h' := fr u h
    have hday' : tI u 1301 0 = nt d := by rw [(h'.1 1301 rfl).2.1, hday]
    have e := X13_three_eqM (Ilen_f h' hL) (Mbody_f h' (by decide) hB) (Mspan_f h' (by decide) hS) (Mmove_f h' (by decide) hM) hc hd hday' false
    have e' : F_X13_threeYears u (nt c) 0 = _ := e
    rw [e', gk]
    have := figv_f (nB := nB) (nS := nS) (nM := nM) (c := c) (l := l) (d := d) (who := wh) (more := mo) (i := 8) h' (by decide)
    exact congrArg some this
  have qi : ∀ u, frm (ks [3368]) s u → tI u 1351 0 = g 2 ∧ tI u 1350 0 = g 3 ∧ tI u 1352 0 = g 4 ∧ tA u 3309 0 c = g 9 ∧ tI u 1301 0 / 300 = g 10 ∧ tA u 3310 0 c = g 11 := fun u h => by
    have h' := fr u h
    rw [gk, gk, gk, gk, gk, gk, (h.1 1351 rfl).2.1, (h.1 1350 rfl).2.1, (h.1 1352 rfl).2.1, (h'.1 3309 rfl).2.2.2.2.1, (h'.1 1301 rfl).2.1, (h'.1 3310 rfl).2.2.2.2.1, hday, year_eq hd]
    exact ⟨s4, s3, s5, hlg, rfl, rfl⟩
  have h88 : ∀ u x, frm (ks [3368]) s u → x = g 1 → B_X13_firstBroken_88 u (nt r) (nt c) x 1 = B_X13_firstBroken_223 10000 (fw u g 1 11) (nt r) 0 0 := by
    intro u x h hx
    unfold B_X13_firstBroken_88
    have st : ∀ u' i y, frm (ks [3368]) s u' → frm (ks [3368]) s (uA u' 3368 0 i y) := fun u' i y h' => frm_tr h' (frm_uA rfl)
    have ln' : ∀ u', frm (ks [3368]) s u' → Ilen u' := fun u' h' => Ilen_f h' hLs
    have h1 := st u 1 (g 1) h
    have h2 := st _ 2 (g 2) h1
    have h3 := st _ 3 (g 3) h2
    have h4 := st _ 4 (g 4) h3
    have h5 := st _ 5 (g 5) h4
    have h6 := st _ 6 (g 6) h5
    have h7 := st _ 7 (g 7) h6
    have h8 := st _ 8 (g 8) h7
    have h9 := st _ 9 (g 9) h8
    have h10 := st _ 10 (g 10) h9
    subst hx
    refine (wr8 (i := 1) (ln' _ h) (by omega) _ _).trans ?_
    rw [(qi _ h1).1]
    refine (wr8 (i := 2) (ln' _ h1) (by omega) _ _).trans ?_
    rw [(qi _ h2).2.1]
    refine (wr8 (i := 3) (ln' _ h2) (by omega) _ _).trans ?_
    rw [(qi _ h3).2.2.1]
    refine (wr8 (i := 4) (ln' _ h3) (by omega) _ _).trans ?_
    rw [q5 _ h4, ob_s]
    refine (wr8 (i := 5) (ln' _ h4) (by omega) _ _).trans ?_
    rw [q6 _ h5, ob_s]
    refine (wr8 (i := 6) (ln' _ h5) (by omega) _ _).trans ?_
    rw [q7 _ h6, ob_s]
    refine (wr8 (i := 7) (ln' _ h6) (by omega) _ _).trans ?_
    rw [q8 _ h7, ob_s]
    refine (wr8 (i := 8) (ln' _ h7) (by omega) _ _).trans ?_
    rw [show tL (uA (uA (uA (uA (uA (uA (uA (uA u 3368 0 1 (g 1)) 3368 0 2 (g 2)) 3368 0 3 (g 3)) 3368 0 4 (g 4)) 3368 0 5 (g 5)) 3368 0 6 (g 6)) 3368 0 7 (g 7)) 3368 0 8 (g 8)) 3309 0 = 150 from ln' _ h8 3309 rfl, gd_nt _ (by omega) (by omega), nt_cl (by omega), (qi _ h8).2.2.2.1]
    refine (wr8 (i := 9) (ln' _ h8) (by omega) _ _).trans ?_
    rw [(qi _ h9).2.2.2.2.1]
    refine (wr8 (i := 10) (ln' _ h9) (by omega) _ _).trans ?_
    rw [show tL (uA (uA (uA (uA (uA (uA (uA (uA (uA (uA u 3368 0 1 (g 1)) 3368 0 2 (g 2)) 3368 0 3 (g 3)) 3368 0 4 (g 4)) 3368 0 5 (g 5)) 3368 0 6 (g 6)) 3368 0 7 (g 7)) 3368 0 8 (g 8)) 3368 0 9 (g 9)) 3368 0 10 (g 10)) 3310 0 = 150 from ln' _ h10 3310 rfl, gd_nt _ (by omega) (by omega), (qi _ h10).2.2.2.2.2]
    exact wr8 (i := 11) (ln' _ h10) (by omega) _ _
  -- the two first facts
  have h67 : ∃ u, (if his = 0 then B_X13_firstBroken_67 s (nt r) (nt c) (enc who) his 0 0 else Option.bind (F_X13_ageOn s (enc who) (tI s 1301 0)) (fun r22 => B_X13_firstBroken_67 s (nt r) (nt c) (enc who) his r22 0)) = B_X13_firstBroken_223 10000 (fw u g 1 11) (nt r) 0 0 ∧ u = uA s 3368 0 0 (g 0) := by
    have f0 : frm (ks [3368]) s (uA s 3368 0 0 (g 0)) := frm_uA rfl
    refine ⟨uA s 3368 0 0 (g 0), ?_, rfl⟩
    have n10 : ¬ (1 : Int32) = 0 := by decide
    cases hq : wh with
    | none =>
      have e0 : his = 0 := by rw [hhis, hq]; rfl
      have g0 : (0 : Int32) = g 0 := by rw [gk, hq]; rfl
      have g1 : (0 : Int32) = g 1 := by rw [gk, hq]; rfl
      rw [e0, if_pos rfl]
      unfold B_X13_firstBroken_67
      refine (wr8 (i := 0) hLs (by omega) (0 : Int32) _).trans ?_
      rw [if_pos (show (0 : Int32) = 0 from rfl), show uA s 3368 0 0 (0 : Int32) = uA s 3368 0 0 (g 0) from congrArg (fun z => uA s 3368 0 0 z) g0]
      exact h88 _ 0 f0 g1
    | some p =>
      have hpB := hwhB p hq
      have e0 : his = 1 := by rw [hhis, hq]; rfl
      have ewho : who = some p := by
        rw [hwh] at hq
        by_cases e : irm (tA t 3356 0 r) 10 = 0
        · rw [if_pos e] at hq; exact hq
        · rw [if_neg e] at hq; cases hq
      have eenc : enc who = nt p := by rw [ewho]; rfl
      have g0 : (nt d - tA s 3312 0 p) / 300 = g 0 := by rw [gk, hq, (fs.1 3312 rfl).2.2.2.2.1]; rfl
      have g1 : tA (uA s 3368 0 0 (g 0)) 3308 0 p = g 1 := by
        rw [A_uA_n (by decide), gk, hq, (fs.1 3308 rfl).2.2.2.2.1]; rfl
      have hage : F_X13_ageOn s (nt p) (tI s 1301 0) = some (g 0) := by
        unfold F_X13_ageOn
        rw [(show tL _ 3312 0 = 150 from hLs 3312 rfl), gd_nt _ (by omega) (by omega), nt_cl (by omega), (fs.1 1301 rfl).2.1, hday, g0]
      rw [e0, if_neg n10, eenc, hage, ob_s]
      unfold B_X13_firstBroken_67
      refine (wr8 (i := 0) hLs (by omega) (g 0) _).trans ?_
      rw [if_neg n10, show tL (uA s 3368 0 0 (g 0)) 3308 0 = 150 from hLs 3308 rfl, gd_nt _ (by omega) (by omega), nt_cl (by omega)]
      exact h88 _ _ f0 g1
  obtain ⟨u, u1, u2⟩ := h67
  rw [u1]
  have fu : frm (ks [3368]) s (fw u g 1 11) := frm_tr (by rw [u2]; exact frm_uA rfl) (fw_f 11 u 1)
  have hLw := Ilen_f fu hLs
  have hst' : rSt (fw u g 1 11) r ls := by
    have h' := fr _ fu
    unfold rSt at hst ⊢
    rw [(h'.1 3359 rfl).2.2.2.2.1, (h'.1 3360 rfl).2.2.2.2.1, (h'.1 3361 rfl).2.2.2.2.1, (h'.1 3362 rfl).2.2.2.2.1]
    exact hst
  obtain ⟨N, hN⟩ : ∃ N : Nat, N = 10000 := ⟨_, rfl⟩
  obtain ⟨w, w1, w2⟩ := broken_m (F := tA (fw u g 1 11) 3368 0) (show r < 17 by omega) ls hwf h90 h200 ls [] (fw u g 1 11) N rfl hLw rfl hst' (by omega)
  have w1' : B_X13_firstBroken_223 N (fw u g 1 11) (nt r) 0 0 = _ := w1
  have hval : ∀ k, k < 12 → tA (fw u g 1 11) 3368 0 k = g k := fun k hk => by
    rw [fw_v 11 u 1 k]
    by_cases e : k = 0
    · subst e
      rw [if_neg (by omega), u2, A_uA, m1_s, m1_s]
    · rw [if_pos (by omega)]
  have hcong : fz (VV (tA (fw u g 1 11) 3368 0)) ls = fz (fun w => figv t nB nS nM c l d wh mo w.toNatClampNeg) ls := fz_cong ls (fun cc hcc z hz h2 => by
    obtain ⟨k, hk, hk2⟩ := wfc_nm (hwf cc hcc) z hz h2
    show tA (fw u g 1 11) 3368 0 z.2.toNatClampNeg = figv t nB nS nM c l d wh mo z.2.toNatClampNeg
    rw [hk2, nt_cl (by omega), hval k hk, gk])
  refine ⟨w, ?_, frm_tr fs (frm_tr (frm_scr fu rfl) (frm_scr w2 rfl))⟩
  rw [← hN, w1', hcong]
  cases fz (fun w => figv t nB nS nM c l d wh mo w.toNatClampNeg) ls with
  | none => rfl
  | some i =>
    rw [oel_s, oel_s]
    exact congrArg (fun z => some (nt z, w)) (by show 0 + i = i; omega)
end
