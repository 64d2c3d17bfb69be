/-! PART d1: the class asks a rule about a club. -/
section
variable {t : TS} {nB nS nM nR c l d r : Nat} {who more : Option Nat}
theorem brokenLine_c (hL : Ilen t) (hB : Ibody nB t) (hC : Icoin nB t) (hI : Iinc nB t) (hS : Ispan nB nS nM t) (hM : Imove nB nS nM t) (hc : c < nB) (hcl : isCl (tA t 3308 0 c) = true) (hd : d ≤ 2999) (hday : tI t 1200 0 = nt d) (hl : l < 4) (hlg : tA t 3309 0 c = nt l) (hw : ∀ q, who = some q → q < nB) (hU : Irule1 t r) : ∃ ls t1, rSt t r ls ∧ (∀ c, c ∈ ls → wfc c) ∧ ls.length ≤ 90 ∧ ls.flatten.length ≤ 200 ∧ F_X12_brokenLine t (some r) (some c) who more = some (oel (fz (fun w => figv t nB nS nM c l d who more w.toNatClampNeg) ls) (-1) nt, t1) ∧ frm scr t t1 := by
  obtain ⟨T, L, hn, hb, hlen, hr3, hok, hst, hnm⟩ := hU
  obtain ⟨ls, hls⟩ : ∃ ls, ls = (pRu (chA T L) 200 0 []).2.2 := ⟨_, rfl⟩
  obtain ⟨bd1, bd2⟩ := rule_bd T L hn hok (fun i hi => (hb i hi).2)
  have hwf := pRu_wf (ch := chA T L) (fun p => chA_le (fun i hi => (hb i hi).2) p) 200 0 [] (fun c hc => absurd hc List.not_mem_nil) hok
  rw [← hls] at bd1 bd2 hwf hst hnm
  have hnames : ∀ s, s ∈ ls.flatten → s.1 = 2 → ∃ k, k < 12 ∧ s.2 = nt k := fun s hs h2 => by
    rw [List.mem_flatten] at hs
    obtain ⟨cc, q1, q2⟩ := hs
    exact wfc_nm (hwf cc q1) s q2 h2
  obtain ⟨M, hM0⟩ : ∃ M, M = nmN 0 ls.flatten := ⟨_, rfl⟩
  obtain ⟨m1, m2⟩ := nmk_N ls.flatten 0 (by omega) hnames
  rw [← hM0] at m1 m2
  have hmask : tI t 904 r = nt M := by rw [hnm]; exact m1
  refine ⟨ls, ?_⟩
  have hloop : ∃ u, F_X12_brokenLine t (some r) (some c) who more = B_X12_brokenLine_58 u r ∧ frm (ks [2702, 3209, 3210]) t u ∧ ∀ k, k < 12 → M.testBit k = true → tA u 2702 0 k = figv t nB nS nM c l d who more k := by
    unfold F_X12_brokenLine
    rw [oc_s]
    obtain ⟨N, hN⟩ : ∃ N : Nat, N = 10000 := ⟨_, rfl⟩
    rw [← hN]
    refine loop_wh (B := fun fu (x : Nat × TS) => B_X12_brokenLine_9 fu x.2 r (some c) who more (nt x.1)) (mu := fun x => 12 - x.1) (G := fun o => ∃ u, o = B_X12_brokenLine_58 u r ∧ frm (ks [2702, 3209, 3210]) t u ∧ ∀ k, k < 12 → M.testBit k = true → tA u 2702 0 k = figv t nB nS nM c l d who more k) (P := fun x => x.1 ≤ 12 ∧ frm (ks [2702, 3209, 3210]) t x.2 ∧ ∀ k, k < x.1 → M.testBit k = true → tA x.2 2702 0 k = figv t nB nS nM c l d who more k) ?_ N (0, t) ⟨Nat.zero_le _, frm_rf, fun k hk => absurd hk (Nat.not_lt_zero k)⟩ (by show 12 - 0 < N; omega)
    intro fu x hx
    obtain ⟨i, u⟩ := x
    have hi : i ≤ 12 := hx.1
    have h : frm (ks [2702, 3209, 3210]) t u := hx.2.1
    have hz : ∀ k, k < i → M.testBit k = true → tA u 2702 0 k = figv t nB nS nM c l d who more k := hx.2.2
    show (∃ u', BB_X12_brokenLine_9 (B_X12_brokenLine_9 fu) u r (some c) who more (nt i) = _ ∧ _) ∨ ∃ a', BB_X12_brokenLine_9 (B_X12_brokenLine_9 fu) u r (some c) who more (nt i) = _ ∧ _
    have hLu := Ilen_f h hL
    have e904 : tI u 904 r = nt M := by rw [(h.1 904 rfl).2.1]; exact hmask
    have elen : F_J0_length_8abf5 u = some (nt 12) := rfl
    unfold BB_X12_brokenLine_9 B_X12_brokenLine_52
    rw [elen, ob_s, igE (by omega) (by omega), e904]
    by_cases e : i = 12
    · left
      rw [if_pos (by omega)]
      rw [e] at hz
      exact ⟨u, rfl, h, hz⟩
    right
    have hb12 : (nt M >>> (nt i &&& 31)) &&& 1 = b1 (M.testBit i) := bit12 M m2 i (by omega)
    rw [if_neg (by omega), hb12, gw0, nt_succ]
    by_cases cb : M.testBit i = true
    case neg =>
      rw [if_neg cb]
      refine ⟨(i + 1, u), rfl, ⟨by show i + 1 ≤ 12; omega, h, fun k hk hbt => ?_⟩, by show 12 - (i + 1) < 12 - i; omega⟩
      by_cases e2 : k = i
      · rw [e2] at hbt; exact absurd hbt cb
      · have : k < i + 1 := hk
        exact hz k (by omega) hbt
    rw [if_pos cb]
    obtain ⟨v, g1, g2⟩ := X12_figure_eq (who := who) (more := more) hLu (Ibody_f h (by decide) hB) (Icoin_f h (by decide) hC) (Iinc_f h (by decide) hI) (Ispan_f h (by decide) hS) (Imove_f h (by decide) hM) hc (by rw [(h.1 3308 rfl).2.2.2.2.1]; exact hcl) hd (by rw [(h.1 1200 rfl).2.1]; exact hday) hl (by rw [(h.1 3309 rfl).2.2.2.2.1]; exact hlg) hw (show i < 12 by omega)
    have hLv := Ilen_f g2 hLu
    have hfig : figv u nB nS nM c l d who more i = figv t nB nS nM c l d who more i := figv_f h (by decide)
    rw [g1, ob2_s, (show tL _ 2702 0 = 12 from hLv 2702 rfl), gd_nt _ (by omega) (by omega), nxt_e, nt_cl (by omega), hfig]
    refine ⟨(i + 1, uA v 2702 0 i (figv t nB nS nM c l d who more i)), rfl, ⟨by show i + 1 ≤ 12; omega, frm_tr h (frm_tr (frm_sb g2 (ks_sb rfl)) (frm_uA rfl)), fun k hk hbt => ?_⟩, by show 12 - (i + 1) < 12 - i; omega⟩
    show tA (uA v 2702 0 i (figv t nB nS nM c l d who more i)) 2702 0 k = _
    rw [A_uA, m1_s]
    by_cases e2 : k = i
    · subst e2; rw [m1_s]
    · have : k < i + 1 := hk
      rw [m1_n e2, (g2.1 2702 rfl).2.2.2.2.1]
      exact hz k (by omega) hbt
  obtain ⟨u, u1, u2, u3⟩ := hloop
  have hLu := Ilen_f u2 hL
  obtain ⟨w, w1, w2⟩ := broken_c (T := T) (L := L) (V := tA u 2702 0) (j := r + 1) hLu hn (by rw [(u2.1 2700 rfl).2.2.2.1]; exact hlen) (fun i hi => by rw [(u2.1 2700 rfl).2.2.2.2.1]; exact hb i hi) rfl hok
  have hcong : fz (VV (tA u 2702 0)) ls = fz (fun w => figv t nB nS nM c l d who more w.toNatClampNeg) ls := fz_cong ls (fun cc hcc s hs h2 => by
    have hmem : s ∈ ls.flatten := List.mem_flatten.mpr ⟨cc, hcc, hs⟩
    obtain ⟨k, hk, hk2⟩ := hnames s hmem h2
    have hbt := nmN_in ls.flatten 0 hmem h2
    rw [← hM0, hk2, nt_cl (by omega)] at hbt
    show tA u 2702 0 s.2.toNatClampNeg = figv t nB nS nM c l d who more s.2.toNatClampNeg
    rw [hk2, nt_cl (by omega)]
    exact u3 k hk hbt)
  refine ⟨w, hst, hwf, bd1, bd2, ?_, frm_tr (frm_scr u2 rfl) (frm_scr w2 rfl)⟩
  rw [u1]
  unfold B_X12_brokenLine_58
  rw [(u2.1 903 rfl).2.2.1, hr3, nxt_e, w1, ob2_s, ← hls, hcong]
end
