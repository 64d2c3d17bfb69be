/-! PART 52: figures; what of players and clubs is read. -/
theorem swi_nt {α : Type} {df : Option α} : ∀ (bs : List (Option α)) (l i : Nat), l + i < 2147483648 → l + bs.length < 2147483648 → swi (nt (l + i)) l bs df = bs.getD i df
  | [], _, _, _, _ => rfl
  | b :: r, l, i, h1, h2 => by
    unfold swi
    have e1 : Int32.ofInt (l : Int) = nt l := it_nt l
    rw [e1]
    simp only [List.length_cons] at h2
    cases i with
    | zero => rw [Nat.add_zero, if_pos rfl]; rfl
    | succ j =>
      rw [ieQ (by omega) (by omega), if_neg (by omega)]
      have ih := swi_nt (df := df) r (l + 1) j (by omega) (by omega)
      rw [show l + (j + 1) = l + 1 + j by omega]
      exact ih
theorem swi0 {α : Type} {df : Option α} (bs : List (Option α)) (i : Nat) (h1 : i < 2147483648) (h2 : bs.length < 2147483648) : swi (nt i) 0 bs df = bs.getD i df := by
  have h := swi_nt (df := df) bs 0 i (by omega) (by omega)
  rw [Nat.zero_add] at h
  exact h
theorem swi1 {α : Type} {df : Option α} (bs : List (Option α)) (i : Nat) (h1 : i + 1 < 2147483648) (h2 : bs.length + 1 < 2147483648) : swi (nt (i + 1)) 1 bs df = bs.getD i df := by
  have h := swi_nt (df := df) bs 1 i (by omega) (by omega)
  rw [Nat.add_comm 1 i] at h
  exact h
/-- no branch: below or above -/
theorem swi_no {α : Type} {df : Option α} {x : Int32} : ∀ (bs : List (Option α)) (l : Nat), l + bs.length < 2147483648 → (∀ i, i < bs.length → ¬ x = nt (l + i)) → swi x l bs df = df
  | [], _, _, _ => rfl
  | b :: r, l, h2, h => by
    unfold swi
    have e1 : Int32.ofInt (l : Int) = nt l := it_nt l
    rw [e1]
    simp only [List.length_cons] at h2 h
    have h0 := h 0 (by omega)
    rw [Nat.add_zero] at h0
    rw [if_neg h0]
    have ih := swi_no (df := df) (x := x) r (l + 1) (by omega) (fun i hi => by rw [show l + 1 + i = l + (i + 1) by omega]; exact h (i + 1) (by omega))
    exact ih
def scr : Nat → Bool := ks [3209, 3210, 3325, 3326, 1350, 1351, 1352, 3368, 3369, 2702, 703, 704, 705, 706, 707, 2401, 2804, 2305, 3377, 1380, 3396]
theorem ks_sb {L : List Nat} {D : Nat → Bool} (h : L.all D = true) : ∀ k, D k = false → ks L k = false := by
  intro k hk
  cases e : ks L k with
  | false => rfl
  | true =>
    have h1 : k ∈ L := List.contains_iff_mem.mp e
    have h2 := List.all_eq_true.mp h k h1
    rw [h2] at hk; cases hk
theorem frm_scr {L : List Nat} {t t' : TS} (h : frm (ks L) t t') (hL : L.all scr = true) : frm scr t t' := frm_sb h (ks_sb hL)
def figv (t : TS) (nB nS nM c l d : Nat) (who more : Option Nat) (i : Nat) : Int32 := match i with
  | 0 => oel who 0 (fun p => (nt d - tA t 3312 0 p) / 300)
  | 1 => oel who 0 (fun p => tA t 3308 0 p)
  | 2 => nt (cntP (sqw t nS c l more d 2) nB)
  | 3 => nt (cntP (sqw t nS c l more d 3) nB)
  | 4 => nt (cntP (sqw t nS c l more d 4) nB)
  | 5 => wg t nB nS c (nt d)
  | 6 => wg t nB nS c (nt d) + sumI (capf t c (d / 300)) nM
  | 7 => sumI (cap3 t nB nS nM c d) (d / 300 + 1 - (d / 300 - 2))
  | 8 => sumI (inc3 t c d) (d / 300 + 1 - (d / 300 - 2))
  | 9 => nt l
  | 10 => nt (d / 300)
  | _ => tA t 3310 0 c
section
variable {t : TS} {nB nS nM c l d p : Nat} {who more : Option Nat}
theorem X12_figure_eq (hL : Ilen t) (hB : Ibody nB t) (hC : Icoin nB t) (hI : Iinc nB t) (hS : Ispan nB nS nM t) (hM : Imove nB nS nM t) (hc : c < nB) (hcl : isCl (tA t 3308 0 c) = true) (hd : d ≤ 2999) (hday : tI t 1200 0 = nt d) (hl : l < 4) (hlg : tA t 3309 0 c = nt l) (hw : ∀ q, who = some q → q < nB) {i : Nat} (hi : i < 12) :
    ∃ t2, F_X12_figure t (nt i) (some c) who more = some (figv t nB nS nM c l d who more i, t2) ∧ frm (ks [3209, 3210]) t t2 := by
  obtain ⟨-, -, -, -, q5, q6, -⟩ := hB.2.2.2.1 c hc
  unfold F_X12_figure
  rw [swi0 _ _ (by omega) (Nat.le_of_ble_eq_true rfl)]
  have hi' : i = 0 ∨ i = 1 ∨ i = 2 ∨ i = 3 ∨ i = 4 ∨ i = 5 ∨ i = 6 ∨ i = 7 ∨ i = 8 ∨ i = 9 ∨ i = 10 ∨ i = 11 := by omega
  rcases hi' with rfl | rfl | rfl | rfl | rfl | rfl | rfl | rfl | rfl | rfl | rfl | rfl
  · refine ⟨t, ?_, frm_rf⟩
    show oc who (some (0, t)) (fun j22 => Option.bind (F_X1_ageOn t j22 (tI t 1200 0)) (fun r23 => some (r23, t))) = _
    cases hq : who with
    | none => rfl
    | some q =>
      obtain ⟨-, -, -, -, -, e6, -⟩ := hB.2.2.2.1 q (hw q hq)
      rw [oc_s]
      unfold F_X1_ageOn
      rw [ob_s, e6, hday]
      rfl
  · refine ⟨t, ?_, frm_rf⟩
    show oc who (some (0, t)) (fun j24 => some (tI t 101 j24, t)) = _
    cases hq : who with
    | none => rfl
    | some q =>
      obtain ⟨-, -, -, e4, -⟩ := hB.2.2.2.1 q (hw q hq)
      rw [oc_s, e4]
      rfl
  · obtain ⟨t2, h1, h2⟩ := X12_countHeld_eq (more := more) hL hB hS hc hd hday hl hlg (w := 2) (by omega)
    exact ⟨t2, by simp only [List.getD_cons_succ, List.getD_cons_zero]; rw [show (2 : Int32) = nt 2 from rfl, h1, ob2_s]; rfl, h2⟩
  · obtain ⟨t2, h1, h2⟩ := X12_countHeld_eq (more := more) hL hB hS hc hd hday hl hlg (w := 3) (by omega)
    exact ⟨t2, by simp only [List.getD_cons_succ, List.getD_cons_zero]; rw [show (3 : Int32) = nt 3 from rfl, h1, ob2_s]; rfl, h2⟩
  · obtain ⟨t2, h1, h2⟩ := X12_countHeld_eq (more := more) hL hB hS hc hd hday hl hlg (w := 4) (by omega)
    exact ⟨t2, by simp only [List.getD_cons_succ, List.getD_cons_zero]; rw [show (4 : Int32) = nt 4 from rfl, h1, ob2_s]; rfl, h2⟩
  · refine ⟨t, ?_, frm_rf⟩
    show Option.bind (F_X12_wages t (some c)) _ = _
    rw [X12_wages_eq hL hB hS hc, ob_s, hday]
    rfl
  · refine ⟨t, ?_, frm_rf⟩
    show Option.bind (F_X12_wages t (some c)) _ = _
    rw [X12_wages_eq hL hB hS hc, ob_s, X12_year_eq hd hday, ob_s, X12_spreadTo_eq hL hB.1 hM hS hc (by omega), ob_s, hday]
    rfl
  · refine ⟨t, ?_, frm_rf⟩
    show Option.bind (F_X12_threeYearsCaps t (some c)) _ = _
    rw [X12_caps_eq hL hB hS hM hc hd hday, ob_s]
    rfl
  · refine ⟨t, ?_, frm_rf⟩
    show Option.bind (F_X12_threeYearsIncome t (some c)) _ = _
    rw [X12_incs_eq hL hB hI hc hcl hd hday, ob_s]
    rfl
  · refine ⟨t, ?_, frm_rf⟩
    show some (tI t 102 c, t) = _
    rw [q5, hlg]
    rfl
  · refine ⟨t, ?_, frm_rf⟩
    simp only [List.getD_cons_succ, List.getD_cons_zero]
    rw [X12_year_eq hd hday, ob_s]
    rfl
  · refine ⟨t, ?_, frm_rf⟩
    show some (tI t 103 c, t) = _
    rw [hC.1 c hc]
    rfl
/-- a span's club by number -/
theorem clubNo (hB : Ibody nB t) (hS : Ispan nB nS nM t) {o : Option Nat} (ho : ∀ s, o = some s → s < nS) (v : Int32) : oc o (some v) (fun j => nxt (tR t 1101 j) (fun q => oc q none (fun c => some (tI t 100 c)))) = some (oel o v (fun s => tA t 3318 0 s)) := by
  cases h : o with
  | none => rfl
  | some s =>
    obtain ⟨c, hc, -, h1, h2⟩ := sp_club hB.1 hS (ho s h)
    rw [oc_s, nxt_e, h1, oc_s, (hB.2.2.2.1 c hc).2.2.1, oel_s, h2]
theorem neg_cl (hB : Ibody nB t) (hS : Ispan nB nS nM t) {o : Option Nat} (ho : ∀ s, o = some s → s < nS) : (0 ≤ oel o (-1) (fun s => tA t 3318 0 s)) = (o.isSome = true) := by
  have h150 := hB.1
  cases h : o with
  | none =>
    rw [oel_n]
    exact propext ⟨fun q => absurd q (by decide), fun q => by cases q⟩
  | some s =>
    obtain ⟨c, hc, -, h1, h2⟩ := sp_club hB.1 hS (ho s h)
    rw [oel_s, h2]
    exact propext ⟨fun _ => rfl, fun _ => nt_nn (by omega)⟩
theorem m_at (x1 x2 x3 : Int32) (hL : Ilen t) (hB : Ibody nB t) (hS : Ispan nB nS nM t) : ∃ r, F_X12_at t x1 x2 x3 = some r ∧ F_X13_at t x1 x2 x3 = some r := by
  cases hx : six isPl t nB x1 with
  | none => exact ⟨-1, by simp only [F_X12_at, playerAt_eq hL hB, hx, nxt_e, oc_s, oc_n, ob_s, ob2_s, gb_b1, gb_0, gb_1, gw0, gw1], by simp only [F_X13_at, isPlayer_eq hL hB, hx, isS_n, nxt_e, oc_s, oc_n, ob_s, ob2_s, gb_b1, gb_0, gb_1, gw0, gw1, Bool.false_eq_true, Bool.true_eq_false, if_true, if_false, not_true_eq_false, not_false_eq_true]⟩
  | some p =>
  obtain ⟨hp, rfl, hpp⟩ := six_some hx
  by_cases h2 : -9999 ≤ x2 ∧ x2 ≤ 2999
  case neg => exact ⟨-1, by simp only [F_X12_at, playerAt_eq hL hB, hx, win_eq, decide_eq_false h2, nxt_e, oc_s, oc_n, ob_s, ob2_s, gb_b1, gb_0, gb_1, gw0, gw1, Bool.false_eq_true, Bool.true_eq_false, if_true, if_false, not_true_eq_false, not_false_eq_true], by simp only [F_X13_at, isPlayer_eq hL hB, hx, isS_s, in_eq, decide_eq_false h2, nxt_e, oc_s, oc_n, ob_s, ob2_s, gb_b1, gb_0, gb_1, gw0, gw1, Bool.false_eq_true, Bool.true_eq_false, if_true, if_false, not_true_eq_false, not_false_eq_true]⟩
  by_cases h3 : 0 ≤ x3 ∧ x3 ≤ 1
  case neg => exact ⟨-1, by simp only [F_X12_at, playerAt_eq hL hB, hx, win_eq, decide_eq_true h2, decide_eq_false h3, nxt_e, oc_s, oc_n, ob_s, ob2_s, gb_b1, gb_0, gb_1, gw0, gw1, Bool.false_eq_true, Bool.true_eq_false, if_true, if_false, not_true_eq_false, not_false_eq_true], by simp only [F_X13_at, isPlayer_eq hL hB, hx, isS_s, in_eq, decide_eq_true h2, decide_eq_false h3, nxt_e, oc_s, oc_n, ob_s, ob2_s, gb_b1, gb_0, gb_1, gw0, gw1, Bool.false_eq_true, Bool.true_eq_false, if_true, if_false, not_true_eq_false, not_false_eq_true]⟩
  have key : ∀ o : Option Nat, (∀ s, o = some s → s < nS) → B_X12_at_55 t o = some (oel o (-2) (fun s => tA t 3318 0 s)) ∧ B_X13_at_51 t (oel o (-1) (fun s => tA t 3318 0 s)) = some (oel o (-2) (fun s => tA t 3318 0 s)) := by
    intro o ho
    refine ⟨clubNo hB hS ho (-2), ?_⟩
    unfold B_X13_at_51
    simp only [neg_cl hB hS ho]
    cases o <;> rfl
  by_cases h4 : x3 = 0
  · obtain ⟨k1, k2⟩ := key (hol t nS p x2) (fun s hs => hol_lt hs)
    subst h4
    refine ⟨oel (hol t nS p x2) (-2) (fun s => tA t 3318 0 s), ?_, ?_⟩
    · simp only [F_X12_at, playerAt_eq hL hB, hx, win_eq, decide_eq_true h2, decide_eq_true h3, nxt_e, oc_s, oc_n, ob_s, ob2_s, gb_b1, gb_0, gb_1, gw0, gw1, Bool.false_eq_true, Bool.true_eq_false, if_true, if_false, not_true_eq_false, not_false_eq_true, X1_holding_eq hS hp, k1]
    · simp only [F_X13_at, isPlayer_eq hL hB, hx, isS_s, in_eq, decide_eq_true h2, decide_eq_true h3, nxt_e, oc_s, oc_n, ob_s, ob2_s, gb_b1, gb_0, gb_1, gw0, gw1, Bool.false_eq_true, Bool.true_eq_false, if_true, if_false, not_true_eq_false, not_false_eq_true, holderOn_eq hL hS, k2]
  · obtain ⟨k1, k2⟩ := key (own t nS p x2) (fun s hs => (own_lt hs).1)
    refine ⟨oel (own t nS p x2) (-2) (fun s => tA t 3318 0 s), ?_, ?_⟩
    · simp only [F_X12_at, playerAt_eq hL hB, hx, win_eq, decide_eq_true h2, decide_eq_true h3, nxt_e, oc_s, oc_n, ob_s, ob2_s, gb_b1, gb_0, gb_1, gw0, gw1, Bool.false_eq_true, Bool.true_eq_false, if_true, if_false, not_true_eq_false, not_false_eq_true, h4, X1_owning_eq hS hp, k1]
    · simp only [F_X13_at, isPlayer_eq hL hB, hx, isS_s, in_eq, decide_eq_true h2, decide_eq_true h3, nxt_e, oc_s, oc_n, ob_s, ob2_s, gb_b1, gb_0, gb_1, gw0, gw1, Bool.false_eq_true, Bool.true_eq_false, if_true, if_false, not_true_eq_false, not_false_eq_true, h4, ownerOn_eq hL hS, k2]
theorem m_taught (x1 x2 : Int32) (hL : Ilen t) (hT : Itime t) (hB : Ibody nB t) (hS : Ispan nB nS nM t) : Eqm (F_X12_taught t x1 x2) (fun t => F_X13_taught t x1 x2) (fun t2 => frm scr t t2) := by
  obtain ⟨d, m, hd, hm, e1, e2, e3, e4⟩ := hT
  have h150 := hB.1
  cases hx : six isPl t nB x1 with
  | none => exact ⟨-1, t, t, by simp only [F_X12_taught, playerAt_eq hL hB, clubAt_eq hL hB, hx, nxt_e, oc_s, oc_n, ob_s, ob2_s, gb_b1, gb_0, gb_1, gw0, gw1], by simp only [F_X13_taught, isPlayer_eq hL hB, hx, isS_n, nxt_e, oc_s, oc_n, ob_s, ob2_s, gb_b1, gb_0, gb_1, gw0, gw1, Bool.false_eq_true, Bool.true_eq_false, if_true, if_false, not_true_eq_false, not_false_eq_true], frm_rf⟩
  | some p =>
  obtain ⟨hp, rfl, hpp⟩ := six_some hx
  cases hy : six isCl t nB x2 with
  | none => exact ⟨-1, t, t, by simp only [F_X12_taught, playerAt_eq hL hB, clubAt_eq hL hB, hx, hy, nxt_e, oc_s, oc_n, ob_s, ob2_s, gb_b1, gb_0, gb_1, gw0, gw1], by simp only [F_X13_taught, isPlayer_eq hL hB, isClub_eq hL hB, hx, hy, isS_n, isS_s, nxt_e, oc_s, oc_n, ob_s, ob2_s, gb_b1, gb_0, gb_1, gw0, gw1, Bool.false_eq_true, Bool.true_eq_false, if_true, if_false, not_true_eq_false, not_false_eq_true], frm_rf⟩
  | some c =>
  obtain ⟨hc, rfl, hcc⟩ := six_some hy
  obtain ⟨t1, g1, g2, g3, g4⟩ := ct_eq hL hB hS hp hd e1
  have hL1 := Ilen_f g2 hL
  have hB1 := Ibody_f g2 (by decide) hB
  have hS1 := Ispan_f g2 (by decide) hS
  obtain ⟨t2, k1, k2, k3⟩ := ft_eq hL1 hB1 hS1 hp hd (show tI t1 1301 0 = nt d by rw [(g2.1 1301 rfl).2.1, e2])
  have hL2 := Ilen_f k2 hL1
  have htc : tch t1 nS p d c = tch t nS p d c := by
    unfold tch NN lastZ D0
    simp only [(g2.1 3312 rfl).2.2.2.2.1]
    congr 1
    funext z
    exact cz_f g2 (by decide)
  refine ⟨nt (tch t nS p d c), t1, t2, ?_, ?_, frm_tr (frm_scr g2 rfl) (frm_scr k2 rfl)⟩
  · simp (disch := omega) only [F_X12_taught, playerAt_eq hL hB, clubAt_eq hL hB, hx, hy, nxt_e, oc_s, oc_n, ob_s, ob2_s, gb_b1, gb_0, gb_1, gw0, gw1, g1, (hB1.2.2.2.1 c hc).2.2.1, (show tL _ 3209 0 = 150 from hL1 3209 rfl), gd_nt, nt_cl, g3 c hc]
  · have hx1 : six isPl t1 nB (nt p) = some p := by
      unfold six
      rw [(g2.1 3308 rfl).2.2.2.2.1]
      exact hx
    have hy1 : six isCl t1 nB (nt c) = some c := by
      unfold six
      rw [(g2.1 3308 rfl).2.2.2.2.1]
      exact hy
    simp (disch := omega) only [F_X13_taught, isPlayer_eq hL1 hB1, isClub_eq hL1 hB1, hx1, hy1, isS_s, nxt_e, oc_s, oc_n, ob_s, ob2_s, gb_b1, gb_0, gb_1, gw0, gw1, Bool.false_eq_true, Bool.true_eq_false, if_true, if_false, not_true_eq_false, not_false_eq_true, k1, (show tL _ 3325 0 = 150 from hL2 3325 rfl), gd_nt, nt_cl, k3 c hc, htc]
end
