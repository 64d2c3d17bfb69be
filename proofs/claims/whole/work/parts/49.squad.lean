/-! PART 49: squads in the model. -/
section
variable {t : TS} {nB nS nM c l d : Nat} {more : Option Nat}
theorem tlg_f {D : Nat → Bool} {t t' : TS} {nS p d l : Nat} (h : frm D t t') (hd : ∀ k, k ∈ kHol → D k = false) (hd2 : D 3309 = false) (hd3 : D 3312 = false) : tlg t' nS p d l = tlg t nS p d l := by
  unfold tlg lz NN lastZ D0
  simp only [cz_f h hd, (h.1 3309 hd2).2.2.2.2.1, (h.1 3312 hd3).2.2.2.2.1]
theorem X13_findSquad_eqM (hL : Ilen t) (hB : Mbody nB t) (hS : Mspan nB nS t) (hc : c < nB) (hd : d ≤ 2999) (hday : tI t 1301 0 = nt d) (hl : l < 4) (hcl : tA t 3309 0 c = nt l) (hm : ∀ q, more = some q → q < nB) :
    ∃ t2, F_X13_findSquad t (nt c) (enc more) = some t2 ∧ frm (ks [1350, 1351, 1352, 3325, 3326]) t t2 ∧ tI t2 1350 0 = nt (cntP (sqw t nS c l more d 3) nB) ∧ tI t2 1351 0 = nt (cntP (sqw t nS c l more d 2) nB) ∧ tI t2 1352 0 = nt (cntP (sqw t nS c l more d 4) nB) := by
  have hnB := hB.1
  unfold F_X13_findSquad
  obtain ⟨N, hN⟩ : ∃ N : Nat, N = 10000 := ⟨_, rfl⟩
  rw [← hN]
  refine loop_wh (B := fun fu (a : TS × Nat) => B_X13_findSquad_17 fu a.1 (nt c) (enc more) (nt a.2)) (mu := fun a => nB - a.2) (G := fun o => ∃ t2, o = some t2 ∧ frm (ks [1350, 1351, 1352, 3325, 3326]) t t2 ∧ tI t2 1350 0 = nt (cntP (sqw t nS c l more d 3) nB) ∧ tI t2 1351 0 = nt (cntP (sqw t nS c l more d 2) nB) ∧ tI t2 1352 0 = nt (cntP (sqw t nS c l more d 4) nB))
    (P := fun a => a.2 ≤ nB ∧ frm (ks [1350, 1351, 1352, 3325, 3326]) t a.1 ∧ tI a.1 1350 0 = nt (cntP (sqw t nS c l more d 3) a.2) ∧ tI a.1 1351 0 = nt (cntP (sqw t nS c l more d 2) a.2) ∧ tI a.1 1352 0 = nt (cntP (sqw t nS c l more d 4) a.2)) ?_ N (uI (uI (uI t 1350 0 0) 1351 0 0) 1352 0 0, 0) ⟨Nat.zero_le _, frm_tr (frm_uI rfl) (frm_tr (frm_uI rfl) (frm_uI rfl)), rfl, rfl, rfl⟩ (by show nB - 0 < N; omega)
  rintro fu ⟨t1, k⟩ ⟨hk, hf, c1, c2, c3⟩
  dsimp only at hk hf c1 c2 c3
  have hL1 : Ilen t1 := Ilen_f hf hL
  have hB1 := Mbody_f hf (by decide) hB
  have hS1 := Mspan_f hf (by decide) hS
  have hday1 : tI t1 1301 0 = nt d := by rw [(hf.1 1301 rfl).2.1, hday]
  show (∃ t2, BB_X13_findSquad_17 (B_X13_findSquad_17 fu) t1 _ _ _ = _ ∧ _) ∨ ∃ a', BB_X13_findSquad_17 (B_X13_findSquad_17 fu) t1 _ _ _ = _ ∧ _
  unfold BB_X13_findSquad_17
  rw [hB1.2.1, igE (by omega) (by omega)]
  by_cases e : k = nB
  · left
    subst e
    exact ⟨t1, by rw [if_pos (Nat.le_refl _)], hf, c1, c2, c3⟩
  · right
    have hkd : tA t1 3308 0 k = tA t 3308 0 k := by rw [(hf.1 3308 rfl).2.2.2.2.1]
    have hx : ∀ w, cntP (sqw t nS c l more d w) (k + 1) = cntP (sqw t nS c l more d w) k + (if sqw t nS c l more d w k then 1 else 0) := fun w => rfl
    have h54 : sq t nS c more d k = true → ∃ t2, B_X13_findSquad_54 (B_X13_findSquad_17 fu) t1 (nt c) (enc more) (nt k) = B_X13_findSquad_17 fu t2 (nt c) (enc more) (nt (k + 1)) ∧ frm (ks [1350, 1351, 1352, 3325, 3326]) t t2 ∧ tI t2 1350 0 = nt (cntP (sqw t nS c l more d 3) (k + 1)) ∧ tI t2 1351 0 = nt (cntP (sqw t nS c l more d 2) (k + 1)) ∧ tI t2 1352 0 = nt (cntP (sqw t nS c l more d 4) (k + 1)) := by
      intro hsq
      have f1 : frm (ks [1350, 1351, 1352, 3325, 3326]) t (uI t1 1350 0 (tI t1 1350 0 + 1)) := frm_tr hf (frm_uI rfl)
      have hL2 : Ilen (uI t1 1350 0 (tI t1 1350 0 + 1)) := Ilen_f f1 hL
      have hB2 := Mbody_f f1 (by decide) hB
      have hS2 := Mspan_f f1 (by decide) hS
      obtain ⟨t2, g1, g2⟩ := hg_eqM (p := k) (l := l) hL2 hB2 hS2 (by omega) hd (show tI (uI t1 1350 0 (tI t1 1350 0 + 1)) 1301 0 = nt d from hday1) hl
      rw [tlg_f f1 (by decide) rfl rfl] at g1
      have i1 : tI t2 1350 0 = nt (cntP (sqw t nS c l more d 3) (k + 1)) := by
        rw [(g2.1 1350 rfl).2.1, I_uI, m1_s, c1, nt_succ, hx]
        unfold sqw
        rw [hsq]
        rfl
      have i2 : tI (uI t1 1350 0 (tI t1 1350 0 + 1)) 1351 0 = nt (cntP (sqw t nS c l more d 2) k) := c2
      have i3 : tI t2 1352 0 = nt (cntP (sqw t nS c l more d 4) k) := by rw [(g2.1 1352 rfl).2.1]; exact c3
      have hc9 : tA (uI t1 1350 0 (tI t1 1350 0 + 1)) 3309 0 c = nt l := by
        show tA t1 3309 0 c = nt l
        rw [(hf.1 3309 rfl).2.2.2.2.1, hcl]
      have hk9 : tA t2 3308 0 k = tA t 3308 0 k := by rw [(g2.1 3308 rfl).2.2.2.2.1]; exact hkd
      have e2 : cntP (sqw t nS c l more d 2) (k + 1) = cntP (sqw t nS c l more d 2) k + (if 900 ≤ tlg t nS k d l then 1 else 0) := by
        rw [hx]; unfold sqw; rw [hsq]; simp
      have e3 : cntP (sqw t nS c l more d 4) (k + 1) = cntP (sqw t nS c l more d 4) k + (if tA t 3308 0 k = 4 then 1 else 0) := by
        rw [hx]; unfold sqw; rw [hsq]; simp
      refine ⟨uI (uI t2 1351 0 (nt (cntP (sqw t nS c l more d 2) (k + 1)))) 1352 0 (nt (cntP (sqw t nS c l more d 4) (k + 1))), ?_, frm_tr (frm_tr f1 (frm_sb g2 (fun q hq => ?_))) (frm_tr (frm_uI rfl) (frm_uI rfl)), i1, rfl, rfl⟩
      · have hL3 : Ilen t2 := Ilen_f g2 hL2
        unfold B_X13_findSquad_54
        rw [nxt_e, (show tL _ 3309 0 = 150 from hL2 3309 rfl), gd_nt _ (by omega) (by omega), nt_cl (by omega), hc9, g1, ob2_s, gw0, i2]
        have h88 : ∀ v, nt (cntP (sqw t nS c l more d 2) k) + v = nt (cntP (sqw t nS c l more d 2) (k + 1)) → B_X13_findSquad_88 (B_X13_findSquad_17 fu) t2 (nt c) (enc more) (nt k) v (nt (cntP (sqw t nS c l more d 2) k)) = B_X13_findSquad_17 fu (uI (uI t2 1351 0 (nt (cntP (sqw t nS c l more d 2) (k + 1)))) 1352 0 (nt (cntP (sqw t nS c l more d 4) (k + 1)))) (nt c) (enc more) (nt (k + 1)) := by
          intro v hv
          unfold B_X13_findSquad_88 B_X13_findSquad_112 B_X13_findSquad_116
          rw [hv, nxt_e, L_uI, (show tL _ 3308 0 = 150 from hL3 3308 rfl), gd_nt _ (by omega) (by omega), nt_cl (by omega), A_uI, hk9, I_uI_n (by decide), i3, nt_succ, e3, nxt_e, nxt_e]
          by_cases g : tA t 3308 0 k = 4
          · rw [if_neg (fun q => q g), if_pos g, nt_succ]
          · rw [if_pos g, if_neg g]
            congr 2
            exact nt_add _ 0
        by_cases g : 900 ≤ tlg t nS k d l
        · rw [decide_eq_true g, tr_b]
          exact h88 1 (by rw [e2, if_pos g, nt_succ])
        · rw [decide_eq_false g, fa_b]
          exact h88 0 (by rw [e2, if_neg g]; exact nt_add _ 0)
      · unfold ks at hq ⊢
        simp only [List.contains_cons, List.contains_nil, Bool.or_eq_false_iff] at hq ⊢
        exact ⟨hq.2.2.2.1, hq.2.2.2.2.1, trivial⟩
    have h116 : sq t nS c more d k = false → ∃ t2, B_X13_findSquad_116 (B_X13_findSquad_17 fu) t1 (nt c) (enc more) (nt k) = B_X13_findSquad_17 fu t2 (nt c) (enc more) (nt (k + 1)) ∧ frm (ks [1350, 1351, 1352, 3325, 3326]) t t2 ∧ tI t2 1350 0 = nt (cntP (sqw t nS c l more d 3) (k + 1)) ∧ tI t2 1351 0 = nt (cntP (sqw t nS c l more d 2) (k + 1)) ∧ tI t2 1352 0 = nt (cntP (sqw t nS c l more d 4) (k + 1)) := by
      intro hsq
      refine ⟨t1, by unfold B_X13_findSquad_116; rw [nt_succ], hf, ?_, ?_, ?_⟩
      · rw [c1, hx]; unfold sqw; rw [hsq]; rfl
      · rw [c2, hx]; unfold sqw; rw [hsq]; rfl
      · rw [c3, hx]; unfold sqw; rw [hsq]; rfl
    have hsq0 : sq t nS c more d k = (isPl (tA t 3308 0 k) && (decide (more = some k) || decide (oel (hol t nS k (nt d)) (-1) (fun s => tA t 3318 0 s) = nt c))) := rfl
    have hen : (nt k = enc more) = (more = some k) := by
      cases hmm : more with
      | none => exact propext ⟨fun q => absurd (show nt k < 0 by rw [q]; decide) (nt_neg (by omega)), fun q => by cases q⟩
      | some q0 =>
        have := hm q0 hmm
        rw [show enc (some q0) = nt q0 from rfl, eq_nt (by omega) (by omega)]
        exact propext ⟨fun q => by rw [q], fun q => (Option.some.inj q).symm⟩
    have key : ∃ t2, (Option.bind (F_X13_isPlayer t1 (nt k)) (fun r21 => if r21 = 0 then B_X13_findSquad_116 (B_X13_findSquad_17 fu) t1 (nt c) (enc more) (nt k) else if nt k = enc more then B_X13_findSquad_54 (B_X13_findSquad_17 fu) t1 (nt c) (enc more) (nt k) else Option.bind (F_X13_holderOn t1 (nt k) (tI t1 1301 0)) (fun r22 => if r22 = nt c then B_X13_findSquad_54 (B_X13_findSquad_17 fu) t1 (nt c) (enc more) (nt k) else B_X13_findSquad_116 (B_X13_findSquad_17 fu) t1 (nt c) (enc more) (nt k)))) = B_X13_findSquad_17 fu t2 (nt c) (enc more) (nt (k + 1)) ∧ frm (ks [1350, 1351, 1352, 3325, 3326]) t t2 ∧ tI t2 1350 0 = nt (cntP (sqw t nS c l more d 3) (k + 1)) ∧ tI t2 1351 0 = nt (cntP (sqw t nS c l more d 2) (k + 1)) ∧ tI t2 1352 0 = nt (cntP (sqw t nS c l more d 4) (k + 1)) := by
      rw [isPlayer_eqM hL1 hB1, ob_s, gw0, hday1, holderOn_eqM hL1 hS1, ob_s, hol_f hf (by decide)]
      simp only [hen]
      unfold six
      rw [ix_nt (by omega) (by omega), oel_s, hkd, (hf.1 3318 rfl).2.2.2.2.1]
      cases hp : isPl (tA t 3308 0 k)
      · exact h116 (by rw [hsq0, hp]; rfl)
      · simp only [if_true, isS_s]
        by_cases g : more = some k
        · rw [if_pos g]
          exact h54 (by rw [hsq0, hp, decide_eq_true g]; rfl)
        · rw [if_neg g]
          by_cases g2 : oel (hol t nS k (nt d)) (-1) (fun s => tA t 3318 0 s) = nt c
          · rw [if_pos g2]
            exact h54 (by rw [hsq0, hp, decide_eq_false g, decide_eq_true g2]; rfl)
          · rw [if_neg g2]
            exact h116 (by rw [hsq0, hp, decide_eq_false g, decide_eq_false g2]; rfl)
    obtain ⟨t2, k1, k2, k3, k4, k5⟩ := key
    exact ⟨(t2, k + 1), by rw [if_neg (by omega)]; exact k1, ⟨by show k + 1 ≤ nB; omega, k2, k3, k4, k5⟩, by show nB - (k + 1) < nB - k; omega⟩
theorem X13_findSquad_eq (hL : Ilen t) (hB : Ibody nB t) (hS : Ispan nB nS nM t) (hc : c < nB) (hd : d ≤ 2999) (hday : tI t 1301 0 = nt d) (hl : l < 4) (hcl : tA t 3309 0 c = nt l) (hm : ∀ q, more = some q → q < nB) :
    ∃ t2, F_X13_findSquad t (nt c) (enc more) = some t2 ∧ frm (ks [1350, 1351, 1352, 3325, 3326]) t t2 ∧ tI t2 1350 0 = nt (cntP (sqw t nS c l more d 3) nB) ∧ tI t2 1351 0 = nt (cntP (sqw t nS c l more d 2) nB) ∧ tI t2 1352 0 = nt (cntP (sqw t nS c l more d 4) nB) := X13_findSquad_eqM hL (IbM hB) (IsM hS) hc hd hday hl hcl hm
end
