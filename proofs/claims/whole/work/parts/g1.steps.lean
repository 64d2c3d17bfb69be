/-! PART g1: the whole invariant; a step a method. -/
def kClm0 : List Nat := [302, 1386, 2300, 2301, 3387, 3388, 304, 1390, 2303, 3389]
theorem Iclm_f2 {D : Nat → Bool} {t t' : TS} (h : frm D t t') (hd : ∀ k, k ∈ kClm0 → D k = false) (hI : Iclm t) : Iclm t' := by
  unfold Iclm at hI ⊢
  simp only [(h.1 302 (hd 302 (by decide))).2.1, (h.1 1386 (hd 1386 (by decide))).2.1, (h.1 2300 (hd 2300 (by decide))).2.2.2.2.1, (h.1 2301 (hd 2301 (by decide))).2.2.2.2.1, (h.1 3387 (hd 3387 (by decide))).2.2.2.2.1, (h.1 3388 (hd 3388 (by decide))).2.2.2.2.1, (h.1 304 (hd 304 (by decide))).2.1, (h.1 1390 (hd 1390 (by decide))).2.1, (h.1 2303 (hd 2303 (by decide))).2.2.2.2.1, (h.1 3389 (hd 3389 (by decide))).2.2.2.2.1]
  exact hI
theorem Iact_new {t t' : TS} (h : frm kNew t t') (h1 : tI t' 1 = tI t 1) (hI : Iact t) : Iact t' := by
  unfold Iact at hI ⊢
  rw [h1, (h.1 1391 rfl).2.1, (h.1 2000 rfl).2.2.2.2.1, (h.1 3392 rfl).2.2.2.2.1]
  exact hI
theorem Ideal_new {t t' : TS} {nB nB' : Nat} (h : frm kNew t t') (hn : nB ≤ nB') (h8 : ∀ i, i < nB → tA t' 3308 0 i = tA t 3308 0 i) (hI : Ideal nB t) : Ideal nB' t' := by
  obtain ⟨n, h1, h2, h3, h4⟩ := hI
  refine ⟨n, h1, by rw [(h.1 405 rfl).2.1]; exact h2, by rw [(h.1 1370 rfl).2.1]; exact h3, fun i hi => ?_⟩
  obtain ⟨⟨p, p1, p2, p3, p4⟩, ⟨c, c1, c2, c3, c4⟩, d⟩ := h4 i hi
  unfold Ideal1
  rw [(h.1 2400 rfl).2.2.2.2.2.2, (h.1 2402 rfl).2.2.2.2.2.2, (h.1 2403 rfl).2.2.2.2.1, (h.1 2404 rfl).2.2.2.2.1, (h.1 3371 rfl).2.2.2.2.1, (h.1 3372 rfl).2.2.2.2.1, (h.1 3373 rfl).2.2.2.2.1, (h.1 3374 rfl).2.2.2.2.1]
  exact ⟨⟨p, by omega, by rw [h8 p p1]; exact p2, p3, p4⟩, ⟨c, by omega, by rw [h8 c c1]; exact c2, c3, c4⟩, d⟩
def Inv (t : TS) : Prop := ∃ nB nS nM nR, Ilen t ∧ Itime t ∧ Ileag t ∧ Iterm t ∧ Iall nB nS nM t ∧ Icb nB nM t ∧ Ibuy t ∧ Iclm t ∧ Iring t ∧ Iact t ∧ Itape t ∧ Ibyt t ∧ Ishelf nB t ∧ Ideal nB t ∧ Irh nR t ∧ Irule nR t
section
variable {t : TS}
theorem s_days (h : Inv t) (x1 : Int32) : Eqm (F_X12_days t x1) (fun t => F_X13_days t x1) Inv := by
  obtain ⟨nB, nS, nM, nR, hL, hT, hG, hR, hA, hcb, hbuy, hclm, hring, hact, htape, hbyt, hsh, hdl, hrh, hru⟩ := h
  obtain ⟨hA0, hA1, hA2, hA3, hA4, hA5, hA6⟩ := id hA
  obtain ⟨r, t1, t2, c1, c2, f, n1⟩ := m_days x1 hT
  exact ⟨r, t1, t2, c1, c2, ⟨nB, nS, nM, nR, Ilen_f f hL, n1, Ileag_f f (by decide) hG, Iterm_f f (by decide) hR, ⟨Ibody_f f (by decide) hA0, Icoin_f f (by decide) hA1, Iinc_f f (by decide) hA2, Imat_f f (by decide) hA3, Ilack_f f (by decide) hA4, Ispan_f f (by decide) hA5, Imove_f f (by decide) hA6⟩, Icb_f f (by decide) hcb, Ibuy_f f (by decide) hbuy, Iclm_f2 f (by decide) hclm, Iring_f f (by decide) hring, Iact_f f (by decide) hact, Itape_f f (by decide) htape, Ibyt_f f (by decide) hbyt, Ishelf_f f (by decide) hsh, Ideal_f f (by decide) hdl, Irh_f f (by decide) hrh, Irule_f f (by decide) hru⟩⟩
theorem s_minute (h : Inv t) (x1 : Int32) : Eqm (F_X12_minute t x1) (fun t => F_X13_minute t x1) Inv := by
  obtain ⟨nB, nS, nM, nR, hL, hT, hG, hR, hA, hcb, hbuy, hclm, hring, hact, htape, hbyt, hsh, hdl, hrh, hru⟩ := h
  obtain ⟨hA0, hA1, hA2, hA3, hA4, hA5, hA6⟩ := id hA
  obtain ⟨r, t1, t2, c1, c2, f, n1⟩ := m_minute x1 hT
  exact ⟨r, t1, t2, c1, c2, ⟨nB, nS, nM, nR, Ilen_f f hL, n1, Ileag_f f (by decide) hG, Iterm_f f (by decide) hR, ⟨Ibody_f f (by decide) hA0, Icoin_f f (by decide) hA1, Iinc_f f (by decide) hA2, Imat_f f (by decide) hA3, Ilack_f f (by decide) hA4, Ispan_f f (by decide) hA5, Imove_f f (by decide) hA6⟩, Icb_f f (by decide) hcb, Ibuy_f f (by decide) hbuy, Iclm_f2 f (by decide) hclm, Iring_f f (by decide) hring, Iact_f f (by decide) hact, Itape_f f (by decide) htape, Ibyt_f f (by decide) hbyt, Ishelf_f f (by decide) hsh, Ideal_f f (by decide) hdl, Irh_f f (by decide) hrh, Irule_f f (by decide) hru⟩⟩
theorem s_window (h : Inv t) (x1 : Int32) (x2 : Int32) (x3 : Int32) : Eqm (F_X12_window t x1 x2 x3) (fun t => F_X13_window t x1 x2 x3) Inv := by
  obtain ⟨nB, nS, nM, nR, hL, hT, hG, hR, hA, hcb, hbuy, hclm, hring, hact, htape, hbyt, hsh, hdl, hrh, hru⟩ := h
  obtain ⟨hA0, hA1, hA2, hA3, hA4, hA5, hA6⟩ := id hA
  obtain ⟨r, t1, t2, c1, c2, f, n1⟩ := m_window x1 x2 x3 hL hG
  exact ⟨r, t1, t2, c1, c2, ⟨nB, nS, nM, nR, Ilen_f f hL, Itime_f f (by decide) hT, n1, Iterm_f f (by decide) hR, ⟨Ibody_f f (by decide) hA0, Icoin_f f (by decide) hA1, Iinc_f f (by decide) hA2, Imat_f f (by decide) hA3, Ilack_f f (by decide) hA4, Ispan_f f (by decide) hA5, Imove_f f (by decide) hA6⟩, Icb_f f (by decide) hcb, Ibuy_f f (by decide) hbuy, Iclm_f2 f (by decide) hclm, Iring_f f (by decide) hring, Iact_f f (by decide) hact, Itape_f f (by decide) htape, Ibyt_f f (by decide) hbyt, Ishelf_f f (by decide) hsh, Ideal_f f (by decide) hdl, Irh_f f (by decide) hrh, Irule_f f (by decide) hru⟩⟩
theorem s_open (h : Inv t) (x1 : Int32) (x2 : Int32) : ∃ r, F_X12_open t x1 x2 = some r ∧ F_X13_open t x1 x2 = some r := by
  obtain ⟨nB, nS, nM, nR, hL, hT, hG, hR, hA, hcb, hbuy, hclm, hring, hact, htape, hbyt, hsh, hdl, hrh, hru⟩ := h
  obtain ⟨hA0, hA1, hA2, hA3, hA4, hA5, hA6⟩ := id hA
  exact m_open x1 x2 hL hG
theorem s_papers (h : Inv t) (x1 : Int32) (x2 : Int32) : Eqm (F_X12_papers t x1 x2) (fun t => F_X13_papers t x1 x2) Inv := by
  obtain ⟨nB, nS, nM, nR, hL, hT, hG, hR, hA, hcb, hbuy, hclm, hring, hact, htape, hbyt, hsh, hdl, hrh, hru⟩ := h
  obtain ⟨hA0, hA1, hA2, hA3, hA4, hA5, hA6⟩ := id hA
  obtain ⟨r, t1, t2, c1, c2, f, n1⟩ := m_papers x1 x2 hL hG
  exact ⟨r, t1, t2, c1, c2, ⟨nB, nS, nM, nR, Ilen_f f hL, Itime_f f (by decide) hT, n1, Iterm_f f (by decide) hR, ⟨Ibody_f f (by decide) hA0, Icoin_f f (by decide) hA1, Iinc_f f (by decide) hA2, Imat_f f (by decide) hA3, Ilack_f f (by decide) hA4, Ispan_f f (by decide) hA5, Imove_f f (by decide) hA6⟩, Icb_f f (by decide) hcb, Ibuy_f f (by decide) hbuy, Iclm_f2 f (by decide) hclm, Iring_f f (by decide) hring, Iact_f f (by decide) hact, Itape_f f (by decide) htape, Ibyt_f f (by decide) hbyt, Ishelf_f f (by decide) hsh, Ideal_f f (by decide) hdl, Irh_f f (by decide) hrh, Irule_f f (by decide) hru⟩⟩
theorem s_body (h : Inv t) (x1 : Int32) : Eqm (F_X12_body t x1) (fun t => F_X13_body t x1) Inv := by
  obtain ⟨nB, nS, nM, nR, hL, hT, hG, hR, hA, hcb, hbuy, hclm, hring, hact, htape, hbyt, hsh, hdl, hrh, hru⟩ := h
  obtain ⟨hA0, hA1, hA2, hA3, hA4, hA5, hA6⟩ := id hA
  obtain ⟨r, t1, t2, c1, c2, nB', n1, n2, f, n3, n4, n5⟩ := m_body2 x1 hL hA hcb
  exact ⟨r, t1, t2, c1, c2, ⟨nB', nS, nM, nR, Ilen_f f hL, Itime_f f (by decide) hT, Ileag_f f (by decide) hG, Iterm_f f (by decide) hR, n1, n3, Ibuy_f f (by decide) hbuy, Iclm_f2 f (by decide) hclm, Iring_f f (by decide) hring, Iact_new f n5 hact, Itape_f f (by decide) htape, Ibyt_f f (by decide) hbyt, Ishelf_up n2 (Ishelf_f f (by decide) hsh), Ideal_new f n2 n4 hdl, Irh_f f (by decide) hrh, Irule_f f (by decide) hru⟩⟩
theorem s_club (h : Inv t) (x1 : Int32) (x2 : Int32) (x3 : Int32) : Eqm (F_X12_club t x1 x2 x3) (fun t => F_X13_club t x1 x2 x3) Inv := by
  obtain ⟨nB, nS, nM, nR, hL, hT, hG, hR, hA, hcb, hbuy, hclm, hring, hact, htape, hbyt, hsh, hdl, hrh, hru⟩ := h
  obtain ⟨hA0, hA1, hA2, hA3, hA4, hA5, hA6⟩ := id hA
  obtain ⟨r, t1, t2, c1, c2, nB', n1, n2, f, n3, n4, n5⟩ := m_club2 x1 x2 x3 hL hG hA hcb
  exact ⟨r, t1, t2, c1, c2, ⟨nB', nS, nM, nR, Ilen_f f hL, Itime_f f (by decide) hT, Ileag_f f (by decide) hG, Iterm_f f (by decide) hR, n1, n3, Ibuy_f f (by decide) hbuy, Iclm_f2 f (by decide) hclm, Iring_f f (by decide) hring, Iact_new f n5 hact, Itape_f f (by decide) htape, Ibyt_f f (by decide) hbyt, Ishelf_up n2 (Ishelf_f f (by decide) hsh), Ideal_new f n2 n4 hdl, Irh_f f (by decide) hrh, Irule_f f (by decide) hru⟩⟩
theorem s_player (h : Inv t) (x1 : Int32) (x2 : Int32) (x3 : Int32) (x4 : Int32) : Eqm (F_X12_player t x1 x2 x3 x4) (fun t => F_X13_player t x1 x2 x3 x4) Inv := by
  obtain ⟨nB, nS, nM, nR, hL, hT, hG, hR, hA, hcb, hbuy, hclm, hring, hact, htape, hbyt, hsh, hdl, hrh, hru⟩ := h
  obtain ⟨hA0, hA1, hA2, hA3, hA4, hA5, hA6⟩ := id hA
  obtain ⟨r, t1, t2, c1, c2, nB', n1, n2, f, n3, n4, n5⟩ := m_player2 x1 x2 x3 x4 hL hA hcb
  exact ⟨r, t1, t2, c1, c2, ⟨nB', nS, nM, nR, Ilen_f f hL, Itime_f f (by decide) hT, Ileag_f f (by decide) hG, Iterm_f f (by decide) hR, n1, n3, Ibuy_f f (by decide) hbuy, Iclm_f2 f (by decide) hclm, Iring_f f (by decide) hring, Iact_new f n5 hact, Itape_f f (by decide) htape, Ibyt_f f (by decide) hbyt, Ishelf_up n2 (Ishelf_f f (by decide) hsh), Ideal_new f n2 n4 hdl, Irh_f f (by decide) hrh, Irule_f f (by decide) hru⟩⟩
theorem s_income (h : Inv t) (x1 : Int32) (x2 : Int32) (x3 : Int32) : Eqm (F_X12_income t x1 x2 x3) (fun t => F_X13_income t x1 x2 x3) Inv := by
  obtain ⟨nB, nS, nM, nR, hL, hT, hG, hR, hA, hcb, hbuy, hclm, hring, hact, htape, hbyt, hsh, hdl, hrh, hru⟩ := h
  obtain ⟨hA0, hA1, hA2, hA3, hA4, hA5, hA6⟩ := id hA
  obtain ⟨r, t1, t2, c1, c2, n1, f⟩ := m_income x1 x2 x3 hL hA0 hA2
  exact ⟨r, t1, t2, c1, c2, ⟨nB, nS, nM, nR, Ilen_f f hL, Itime_f f (by decide) hT, Ileag_f f (by decide) hG, Iterm_f f (by decide) hR, ⟨Ibody_f f (by decide) hA0, Icoin_f f (by decide) hA1, n1, Imat_f f (by decide) hA3, Ilack_f f (by decide) hA4, Ispan_f f (by decide) hA5, Imove_f f (by decide) hA6⟩, Icb_f f (by decide) hcb, Ibuy_f f (by decide) hbuy, Iclm_f2 f (by decide) hclm, Iring_f f (by decide) hring, Iact_f f (by decide) hact, Itape_f f (by decide) htape, Ibyt_f f (by decide) hbyt, Ishelf_f f (by decide) hsh, Ideal_f f (by decide) hdl, Irh_f f (by decide) hrh, Irule_f f (by decide) hru⟩⟩
theorem s_ofBody (h : Inv t) (x1 : Int32) (x2 : Int32) : ∃ r, F_X12_ofBody t x1 x2 = some r ∧ F_X13_ofBody t x1 x2 = some r := by
  obtain ⟨nB, nS, nM, nR, hL, hT, hG, hR, hA, hcb, hbuy, hclm, hring, hact, htape, hbyt, hsh, hdl, hrh, hru⟩ := h
  obtain ⟨hA0, hA1, hA2, hA3, hA4, hA5, hA6⟩ := id hA
  exact m_ofBody x1 x2 hL hT hA0 hA1 hA4 hA5
theorem s_past (h : Inv t) (x1 : Int32) (x2 : Int32) (x3 : Int32) (x4 : Int32) : Eqm (F_X12_past t x1 x2 x3 x4) (fun t => F_X13_past t x1 x2 x3 x4) Inv := by
  obtain ⟨nB, nS, nM, nR, hL, hT, hG, hR, hA, hcb, hbuy, hclm, hring, hact, htape, hbyt, hsh, hdl, hrh, hru⟩ := h
  obtain ⟨hA0, hA1, hA2, hA3, hA4, hA5, hA6⟩ := id hA
  obtain ⟨r, t1, t2, c1, c2, nS', n1, f⟩ := m_past x1 x2 x3 x4 hL hA
  exact ⟨r, t1, t2, c1, c2, ⟨nB, nS', nM, nR, Ilen_f f hL, Itime_f f (by decide) hT, Ileag_f f (by decide) hG, Iterm_f f (by decide) hR, n1, Icb_f f (by decide) hcb, Ibuy_f f (by decide) hbuy, Iclm_f2 f (by decide) hclm, Iring_f f (by decide) hring, Iact_f f (by decide) hact, Itape_f f (by decide) htape, Ibyt_f f (by decide) hbyt, Ishelf_f f (by decide) hsh, Ideal_f f (by decide) hdl, Irh_f f (by decide) hrh, Irule_f f (by decide) hru⟩⟩
theorem s_spans (h : Inv t) (x1 : Int32) (x2 : Int32) (x3 : Int32) (x4 : Int32) : Eqm (F_X12_spans t x1 x2 x3 x4) (fun t => F_X13_spans t x1 x2 x3 x4) Inv := by
  obtain ⟨nB, nS, nM, nR, hL, hT, hG, hR, hA, hcb, hbuy, hclm, hring, hact, htape, hbyt, hsh, hdl, hrh, hru⟩ := h
  obtain ⟨hA0, hA1, hA2, hA3, hA4, hA5, hA6⟩ := id hA
  obtain ⟨r, t1, t2, c1, c2, ⟨nS', n1⟩, f⟩ := m_spans x1 x2 x3 x4 hL hA hsh
  exact ⟨r, t1, t2, c1, c2, ⟨nB, nS', nM, nR, Ilen_f f hL, Itime_f f (by decide) hT, Ileag_f f (by decide) hG, Iterm_f f (by decide) hR, n1, Icb_f f (by decide) hcb, Ibuy_f f (by decide) hbuy, Iclm_f2 f (by decide) hclm, Iring_f f (by decide) hring, Iact_f f (by decide) hact, Itape_f f (by decide) htape, Ibyt_f f (by decide) hbyt, Ishelf_f f (by decide) hsh, Ideal_f f (by decide) hdl, Irh_f f (by decide) hrh, Irule_f f (by decide) hru⟩⟩
theorem s_sign (h : Inv t) (x1 : Int32) (x2 : Int32) (x3 : Int32) (x4 : Int32) : Eqm (F_X12_sign t x1 x2 x3 x4) (fun t => F_X13_sign t x1 x2 x3 x4) Inv := by
  obtain ⟨nB, nS, nM, nR, hL, hT, hG, hR, hA, hcb, hbuy, hclm, hring, hact, htape, hbyt, hsh, hdl, hrh, hru⟩ := h
  obtain ⟨hA0, hA1, hA2, hA3, hA4, hA5, hA6⟩ := id hA
  obtain ⟨r, t1, t2, c1, c2, nS', n1, f⟩ := m_sign x1 x2 x3 x4 hL hT hA
  exact ⟨r, t1, t2, c1, c2, ⟨nB, nS', nM, nR, Ilen_f f hL, Itime_f f (by decide) hT, Ileag_f f (by decide) hG, Iterm_f f (by decide) hR, n1, Icb_f f (by decide) hcb, Ibuy_f f (by decide) hbuy, Iclm_f2 f (by decide) hclm, Iring_f f (by decide) hring, Iact_f f (by decide) hact, Itape_f f (by decide) htape, Ibyt_f f (by decide) hbyt, Ishelf_f f (by decide) hsh, Ideal_f f (by decide) hdl, Irh_f f (by decide) hrh, Irule_f f (by decide) hru⟩⟩
theorem s_at (h : Inv t) (x1 : Int32) (x2 : Int32) (x3 : Int32) : ∃ r, F_X12_at t x1 x2 x3 = some r ∧ F_X13_at t x1 x2 x3 = some r := by
  obtain ⟨nB, nS, nM, nR, hL, hT, hG, hR, hA, hcb, hbuy, hclm, hring, hact, htape, hbyt, hsh, hdl, hrh, hru⟩ := h
  obtain ⟨hA0, hA1, hA2, hA3, hA4, hA5, hA6⟩ := id hA
  exact m_at x1 x2 x3 hL hA0 hA5
theorem s_taught (h : Inv t) (x1 : Int32) (x2 : Int32) : Eqm (F_X12_taught t x1 x2) (fun t => F_X13_taught t x1 x2) Inv := by
  obtain ⟨nB, nS, nM, nR, hL, hT, hG, hR, hA, hcb, hbuy, hclm, hring, hact, htape, hbyt, hsh, hdl, hrh, hru⟩ := h
  obtain ⟨hA0, hA1, hA2, hA3, hA4, hA5, hA6⟩ := id hA
  obtain ⟨r, t1, t2, c1, c2, f⟩ := m_taught x1 x2 hL hT hA0 hA5
  exact ⟨r, t1, t2, c1, c2, ⟨nB, nS, nM, nR, Ilen_f f hL, Itime_f f (by decide) hT, Ileag_f f (by decide) hG, Iterm_f f (by decide) hR, ⟨Ibody_f f (by decide) hA0, Icoin_f f (by decide) hA1, Iinc_f f (by decide) hA2, Imat_f f (by decide) hA3, Ilack_f f (by decide) hA4, Ispan_f f (by decide) hA5, Imove_f f (by decide) hA6⟩, Icb_f f (by decide) hcb, Ibuy_f f (by decide) hbuy, Iclm_f2 f (by decide) hclm, Iring_f f (by decide) hring, Iact_f f (by decide) hact, Itape_f f (by decide) htape, Ibyt_f f (by decide) hbyt, Ishelf_f f (by decide) hsh, Ideal_f f (by decide) hdl, Irh_f f (by decide) hrh, Irule_f f (by decide) hru⟩⟩
theorem s_term (h : Inv t) (x1 : Int32) (x2 : Int32) : Eqm (F_X12_term t x1 x2) (fun t => F_X13_term t x1 x2) Inv := by
  obtain ⟨nB, nS, nM, nR, hL, hT, hG, hR, hA, hcb, hbuy, hclm, hring, hact, htape, hbyt, hsh, hdl, hrh, hru⟩ := h
  obtain ⟨hA0, hA1, hA2, hA3, hA4, hA5, hA6⟩ := id hA
  obtain ⟨r, t1, t2, c1, c2, n1, f⟩ := m_term x1 x2 hL hR
  exact ⟨r, t1, t2, c1, c2, ⟨nB, nS, nM, nR, Ilen_f f hL, Itime_f f (by decide) hT, Ileag_f f (by decide) hG, n1, ⟨Ibody_f f (by decide) hA0, Icoin_f f (by decide) hA1, Iinc_f f (by decide) hA2, Imat_f f (by decide) hA3, Ilack_f f (by decide) hA4, Ispan_f f (by decide) hA5, Imove_f f (by decide) hA6⟩, Icb_f f (by decide) hcb, Ibuy_f f (by decide) hbuy, Iclm_f2 f (by decide) hclm, Iring_f f (by decide) hring, Iact_f f (by decide) hact, Itape_f f (by decide) htape, Ibyt_f f (by decide) hbyt, Ishelf_f f (by decide) hsh, Ideal_f f (by decide) hdl, Irh_f f (by decide) hrh, Irule_f f (by decide) hru⟩⟩
theorem s_why (h : Inv t) (x1 : Int32) (x2 : Int32) (x3 : Int32) : Eqm (F_X12_why t x1 x2 x3) (fun t => F_X13_why t x1 x2 x3) Inv := by
  obtain ⟨nB, nS, nM, nR, hL, hT, hG, hR, hA, hcb, hbuy, hclm, hring, hact, htape, hbyt, hsh, hdl, hrh, hru⟩ := h
  obtain ⟨hA0, hA1, hA2, hA3, hA4, hA5, hA6⟩ := id hA
  obtain ⟨r, t1, t2, c1, c2, f⟩ := m_why x1 x2 x3 hL hT hG hR hA0 hA1 hA2 hA5 hA6 hrh hru
  exact ⟨r, t1, t2, c1, c2, ⟨nB, nS, nM, nR, Ilen_f f hL, Itime_f f (by decide) hT, Ileag_f f (by decide) hG, Iterm_f f (by decide) hR, ⟨Ibody_f f (by decide) hA0, Icoin_f f (by decide) hA1, Iinc_f f (by decide) hA2, Imat_f f (by decide) hA3, Ilack_f f (by decide) hA4, Ispan_f f (by decide) hA5, Imove_f f (by decide) hA6⟩, Icb_f f (by decide) hcb, Ibuy_f f (by decide) hbuy, Iclm_f2 f (by decide) hclm, Iring_f f (by decide) hring, Iact_f f (by decide) hact, Itape_f f (by decide) htape, Ibyt_f f (by decide) hbyt, Ishelf_f f (by decide) hsh, Ideal_f f (by decide) hdl, Irh_f f (by decide) hrh, Irule_f f (by decide) hru⟩⟩
theorem s_sell (h : Inv t) (x1 : Int32) (x2 : Int32) : Eqm (F_X12_sell t x1 x2) (fun t => F_X13_sell t x1 x2) Inv := by
  obtain ⟨nB, nS, nM, nR, hL, hT, hG, hR, hA, hcb, hbuy, hclm, hring, hact, htape, hbyt, hsh, hdl, hrh, hru⟩ := h
  obtain ⟨hA0, hA1, hA2, hA3, hA4, hA5, hA6⟩ := id hA
  obtain ⟨r, t1, t2, c1, c2, ⟨nS', nM', n1, n2⟩, f⟩ := m_sell x1 x2 hL hT hG hR hA hcb hrh hru
  exact ⟨r, t1, t2, c1, c2, ⟨nB, nS', nM', nR, Ilen_f f hL, Itime_f f (by decide) hT, Ileag_f f (by decide) hG, Iterm_f f (by decide) hR, n1, n2, Ibuy_f f (by decide) hbuy, Iclm_f2 f (by decide) hclm, Iring_f f (by decide) hring, Iact_f f (by decide) hact, Itape_f f (by decide) htape, Ibyt_f f (by decide) hbyt, Ishelf_f f (by decide) hsh, Ideal_f f (by decide) hdl, Irh_f f (by decide) hrh, Irule_f f (by decide) hru⟩⟩
theorem s_lend (h : Inv t) (x1 : Int32) (x2 : Int32) : Eqm (F_X12_lend t x1 x2) (fun t => F_X13_lend t x1 x2) Inv := by
  obtain ⟨nB, nS, nM, nR, hL, hT, hG, hR, hA, hcb, hbuy, hclm, hring, hact, htape, hbyt, hsh, hdl, hrh, hru⟩ := h
  obtain ⟨hA0, hA1, hA2, hA3, hA4, hA5, hA6⟩ := id hA
  obtain ⟨r, t1, t2, c1, c2, ⟨nS', nM', n1, n2⟩, f⟩ := m_lend x1 x2 hL hT hG hR hA hcb hrh hru
  exact ⟨r, t1, t2, c1, c2, ⟨nB, nS', nM', nR, Ilen_f f hL, Itime_f f (by decide) hT, Ileag_f f (by decide) hG, Iterm_f f (by decide) hR, n1, n2, Ibuy_f f (by decide) hbuy, Iclm_f2 f (by decide) hclm, Iring_f f (by decide) hring, Iact_f f (by decide) hact, Itape_f f (by decide) htape, Ibyt_f f (by decide) hbyt, Ishelf_f f (by decide) hsh, Ideal_f f (by decide) hdl, Irh_f f (by decide) hrh, Irule_f f (by decide) hru⟩⟩
theorem s_option (h : Inv t) (x1 : Int32) : Eqm (F_X12_option t x1) (fun t => F_X13_option t x1) Inv := by
  obtain ⟨nB, nS, nM, nR, hL, hT, hG, hR, hA, hcb, hbuy, hclm, hring, hact, htape, hbyt, hsh, hdl, hrh, hru⟩ := h
  obtain ⟨hA0, hA1, hA2, hA3, hA4, hA5, hA6⟩ := id hA
  obtain ⟨r, t1, t2, c1, c2, ⟨nS', nM', n1, n2⟩, f⟩ := m_option x1 hL hT hG hR hA hcb hrh hru
  exact ⟨r, t1, t2, c1, c2, ⟨nB, nS', nM', nR, Ilen_f f hL, Itime_f f (by decide) hT, Ileag_f f (by decide) hG, Iterm_f f (by decide) hR, n1, n2, Ibuy_f f (by decide) hbuy, Iclm_f2 f (by decide) hclm, Iring_f f (by decide) hring, Iact_f f (by decide) hact, Itape_f f (by decide) htape, Ibyt_f f (by decide) hbyt, Ishelf_f f (by decide) hsh, Ideal_f f (by decide) hdl, Irh_f f (by decide) hrh, Irule_f f (by decide) hru⟩⟩
theorem s_ofMove (h : Inv t) (x1 : Int32) (x2 : Int32) : ∃ r, F_X12_ofMove t x1 x2 = some r ∧ F_X13_ofMove t x1 x2 = some r := by
  obtain ⟨nB, nS, nM, nR, hL, hT, hG, hR, hA, hcb, hbuy, hclm, hring, hact, htape, hbyt, hsh, hdl, hrh, hru⟩ := h
  obtain ⟨hA0, hA1, hA2, hA3, hA4, hA5, hA6⟩ := id hA
  exact m_ofMove x1 x2 hL hA0 hA5 hA6
theorem s_share (h : Inv t) (x1 : Int32) (x2 : Int32) : ∃ r, F_X12_share t x1 x2 = some r ∧ F_X13_share t x1 x2 = some r := by
  obtain ⟨nB, nS, nM, nR, hL, hT, hG, hR, hA, hcb, hbuy, hclm, hring, hact, htape, hbyt, hsh, hdl, hrh, hru⟩ := h
  obtain ⟨hA0, hA1, hA2, hA3, hA4, hA5, hA6⟩ := id hA
  exact m_share x1 x2 hL hA0 hA6
theorem s_play (h : Inv t) (x1 : Int32) (x2 : Int32) : Eqm (F_X12_play t x1 x2) (fun t => F_X13_play t x1 x2) Inv := by
  obtain ⟨nB, nS, nM, nR, hL, hT, hG, hR, hA, hcb, hbuy, hclm, hring, hact, htape, hbyt, hsh, hdl, hrh, hru⟩ := h
  obtain ⟨hA0, hA1, hA2, hA3, hA4, hA5, hA6⟩ := id hA
  obtain ⟨r, t1, t2, c1, c2, n1, n2, n3, f, n4⟩ := m_play2 x1 x2 hL hT hA0 hA1 hA3 hA5 hA6 hcb
  exact ⟨r, t1, t2, c1, c2, ⟨nB, nS, nM, nR, Ilen_f f hL, Itime_f f (by decide) hT, Ileag_f f (by decide) hG, Iterm_f f (by decide) hR, ⟨Ibody_f f (by decide) hA0, n1, Iinc_f f (by decide) hA2, n2, Ilack_f f (by decide) hA4, Ispan_f f (by decide) hA5, n3⟩, n4, Ibuy_f f (by decide) hbuy, Iclm_f2 f (by decide) hclm, Iring_f f (by decide) hring, Iact_f f (by decide) hact, Itape_f f (by decide) htape, Ibyt_f f (by decide) hbyt, Ishelf_f f (by decide) hsh, Ideal_f f (by decide) hdl, Irh_f f (by decide) hrh, Irule_f f (by decide) hru⟩⟩
theorem s_undo (h : Inv t) (x1 : Int32) : Eqm (F_X12_undo t x1) (fun t => F_X13_undo t x1) Inv := by
  obtain ⟨nB, nS, nM, nR, hL, hT, hG, hR, hA, hcb, hbuy, hclm, hring, hact, htape, hbyt, hsh, hdl, hrh, hru⟩ := h
  obtain ⟨hA0, hA1, hA2, hA3, hA4, hA5, hA6⟩ := id hA
  obtain ⟨r, t1, t2, c1, c2, n1, n2, n3, f, n4⟩ := m_undo2 x1 hL hT hA0 hA1 hA5 hA6 hcb
  exact ⟨r, t1, t2, c1, c2, ⟨nB, nS, nM, nR, Ilen_f f hL, Itime_f f (by decide) hT, Ileag_f f (by decide) hG, Iterm_f f (by decide) hR, ⟨Ibody_f f (by decide) hA0, n1, Iinc_f f (by decide) hA2, Imat_f f (by decide) hA3, Ilack_f f (by decide) hA4, n2, n3⟩, n4, Ibuy_f f (by decide) hbuy, Iclm_f2 f (by decide) hclm, Iring_f f (by decide) hring, Iact_f f (by decide) hact, Itape_f f (by decide) htape, Ibyt_f f (by decide) hbyt, Ishelf_f f (by decide) hsh, Ideal_f f (by decide) hdl, Irh_f f (by decide) hrh, Irule_f f (by decide) hru⟩⟩
theorem s_squad (h : Inv t) (x1 : Int32) (x2 : Int32) : Eqm (F_X12_squad t x1 x2) (fun t => F_X13_squad t x1 x2) Inv := by
  obtain ⟨nB, nS, nM, nR, hL, hT, hG, hR, hA, hcb, hbuy, hclm, hring, hact, htape, hbyt, hsh, hdl, hrh, hru⟩ := h
  obtain ⟨hA0, hA1, hA2, hA3, hA4, hA5, hA6⟩ := id hA
  obtain ⟨r, t1, t2, c1, c2, f⟩ := m_squad x1 x2 hL hT hA0 hA1 hA2 hA5 hA6
  exact ⟨r, t1, t2, c1, c2, ⟨nB, nS, nM, nR, Ilen_f f hL, Itime_f f (by decide) hT, Ileag_f f (by decide) hG, Iterm_f f (by decide) hR, ⟨Ibody_f f (by decide) hA0, Icoin_f f (by decide) hA1, Iinc_f f (by decide) hA2, Imat_f f (by decide) hA3, Ilack_f f (by decide) hA4, Ispan_f f (by decide) hA5, Imove_f f (by decide) hA6⟩, Icb_f f (by decide) hcb, Ibuy_f f (by decide) hbuy, Iclm_f2 f (by decide) hclm, Iring_f f (by decide) hring, Iact_f f (by decide) hact, Itape_f f (by decide) htape, Ibyt_f f (by decide) hbyt, Ishelf_f f (by decide) hsh, Ideal_f f (by decide) hdl, Irh_f f (by decide) hrh, Irule_f f (by decide) hru⟩⟩
theorem s_feed (h : Inv t) (x1 : Int32) (x2 : Int32) : Eqm (F_X12_feed t x1 x2) (fun t => F_X13_feed t x1 x2) Inv := by
  obtain ⟨nB, nS, nM, nR, hL, hT, hG, hR, hA, hcb, hbuy, hclm, hring, hact, htape, hbyt, hsh, hdl, hrh, hru⟩ := h
  obtain ⟨hA0, hA1, hA2, hA3, hA4, hA5, hA6⟩ := id hA
  obtain ⟨r, t1, t2, c1, c2, n1, n2, f, n3⟩ := m_feed2 x1 x2 hL htape hbyt
  exact ⟨r, t1, t2, c1, c2, ⟨nB, nS, nM, nR, Ilen_f f hL, Itime_f f (by decide) hT, Ileag_f f (by decide) hG, Iterm_f f (by decide) hR, ⟨Ibody_f f (by decide) hA0, Icoin_f f (by decide) hA1, Iinc_f f (by decide) hA2, Imat_f f (by decide) hA3, Ilack_f f (by decide) hA4, Ispan_f f (by decide) hA5, Imove_f f (by decide) hA6⟩, Icb_f f (by decide) hcb, Ibuy_f f (by decide) hbuy, Iclm_f2 f (by decide) hclm, Iring_f f (by decide) hring, Iact_f f (by decide) hact, n1, n3, Ishelf_f f (by decide) hsh, Ideal_f f (by decide) hdl, Irh_f f (by decide) hrh, Irule_txt f n2 hru⟩⟩
theorem s_rule (h : Inv t) (x1 : Int32) (x2 : Int32) : Eqm (F_X12_rule t x1 x2) (fun t => F_X13_rule t x1 x2) Inv := by
  obtain ⟨nB, nS, nM, nR, hL, hT, hG, hR, hA, hcb, hbuy, hclm, hring, hact, htape, hbyt, hsh, hdl, hrh, hru⟩ := h
  obtain ⟨hA0, hA1, hA2, hA3, hA4, hA5, hA6⟩ := id hA
  obtain ⟨r, t1, t2, c1, c2, nR', n1, n2, n3, f⟩ := m_rule x1 x2 hL hT htape hbyt hrh hru
  exact ⟨r, t1, t2, c1, c2, ⟨nB, nS, nM, nR', Ilen_f f hL, Itime_f f (by decide) hT, Ileag_f f (by decide) hG, Iterm_f f (by decide) hR, ⟨Ibody_f f (by decide) hA0, Icoin_f f (by decide) hA1, Iinc_f f (by decide) hA2, Imat_f f (by decide) hA3, Ilack_f f (by decide) hA4, Ispan_f f (by decide) hA5, Imove_f f (by decide) hA6⟩, Icb_f f (by decide) hcb, Ibuy_f f (by decide) hbuy, Iclm_f2 f (by decide) hclm, Iring_f f (by decide) hring, Iact_f f (by decide) hact, n3, Ibyt_f f (by decide) hbyt, Ishelf_f f (by decide) hsh, Ideal_f f (by decide) hdl, n1, n2⟩⟩
theorem s_inForce (h : Inv t) (x1 : Int32) (x2 : Int32) (x3 : Int32) : ∃ r, F_X12_inForce t x1 x2 x3 = some r ∧ F_X13_inForce t x1 x2 x3 = some r := by
  obtain ⟨nB, nS, nM, nR, hL, hT, hG, hR, hA, hcb, hbuy, hclm, hring, hact, htape, hbyt, hsh, hdl, hrh, hru⟩ := h
  obtain ⟨hA0, hA1, hA2, hA3, hA4, hA5, hA6⟩ := id hA
  exact m_inForce x1 x2 x3 hL hrh
theorem s_holds (h : Inv t) (x1 : Int32) (x2 : Int32) (x3 : Int32) : Eqm (F_X12_holds t x1 x2 x3) (fun t => F_X13_holds t x1 x2 x3) Inv := by
  obtain ⟨nB, nS, nM, nR, hL, hT, hG, hR, hA, hcb, hbuy, hclm, hring, hact, htape, hbyt, hsh, hdl, hrh, hru⟩ := h
  obtain ⟨hA0, hA1, hA2, hA3, hA4, hA5, hA6⟩ := id hA
  obtain ⟨r, t1, t2, c1, c2, f⟩ := m_holds x1 x2 x3 hL hT hA0 hA1 hA2 hA5 hA6 hrh hru
  exact ⟨r, t1, t2, c1, c2, ⟨nB, nS, nM, nR, Ilen_f f hL, Itime_f f (by decide) hT, Ileag_f f (by decide) hG, Iterm_f f (by decide) hR, ⟨Ibody_f f (by decide) hA0, Icoin_f f (by decide) hA1, Iinc_f f (by decide) hA2, Imat_f f (by decide) hA3, Ilack_f f (by decide) hA4, Ispan_f f (by decide) hA5, Imove_f f (by decide) hA6⟩, Icb_f f (by decide) hcb, Ibuy_f f (by decide) hbuy, Iclm_f2 f (by decide) hclm, Iring_f f (by decide) hring, Iact_f f (by decide) hact, Itape_f f (by decide) htape, Ibyt_f f (by decide) hbyt, Ishelf_f f (by decide) hsh, Ideal_f f (by decide) hdl, Irh_f f (by decide) hrh, Irule_f f (by decide) hru⟩⟩
theorem s_tryCap (h : Inv t) (x1 : Int32) (x2 : Int32) : Eqm (F_X12_tryCap t x1 x2) (fun t => F_X13_tryCap t x1 x2) Inv := by
  obtain ⟨nB, nS, nM, nR, hL, hT, hG, hR, hA, hcb, hbuy, hclm, hring, hact, htape, hbyt, hsh, hdl, hrh, hru⟩ := h
  obtain ⟨hA0, hA1, hA2, hA3, hA4, hA5, hA6⟩ := id hA
  obtain ⟨r, t1, t2, c1, c2, f⟩ := m_tryCap x1 x2 hL hT hG hA0 hA1 hA2 hA5 hA6 hrh hru
  exact ⟨r, t1, t2, c1, c2, ⟨nB, nS, nM, nR, Ilen_f f hL, Itime_f f (by decide) hT, Ileag_f f (by decide) hG, Iterm_f f (by decide) hR, ⟨Ibody_f f (by decide) hA0, Icoin_f f (by decide) hA1, Iinc_f f (by decide) hA2, Imat_f f (by decide) hA3, Ilack_f f (by decide) hA4, Ispan_f f (by decide) hA5, Imove_f f (by decide) hA6⟩, Icb_f f (by decide) hcb, Ibuy_f f (by decide) hbuy, Iclm_f2 f (by decide) hclm, Iring_f f (by decide) hring, Iact_f f (by decide) hact, Itape_f f (by decide) htape, Ibyt_f f (by decide) hbyt, Ishelf_f f (by decide) hsh, Ideal_f f (by decide) hdl, Irh_f f (by decide) hrh, Irule_f f (by decide) hru⟩⟩
theorem s_deal (h : Inv t) (x1 : Int32) (x2 : Int32) (x3 : Int32) (x4 : Int32) : Eqm (F_X12_deal t x1 x2 x3 x4) (fun t => F_X13_deal t x1 x2 x3 x4) Inv := by
  obtain ⟨nB, nS, nM, nR, hL, hT, hG, hR, hA, hcb, hbuy, hclm, hring, hact, htape, hbyt, hsh, hdl, hrh, hru⟩ := h
  obtain ⟨hA0, hA1, hA2, hA3, hA4, hA5, hA6⟩ := id hA
  obtain ⟨r, t1, t2, c1, c2, n1, f⟩ := m_deal x1 x2 x3 x4 hL hT hA0 hA5 hdl
  exact ⟨r, t1, t2, c1, c2, ⟨nB, nS, nM, nR, Ilen_f f hL, Itime_f f (by decide) hT, Ileag_f f (by decide) hG, Iterm_f f (by decide) hR, ⟨Ibody_f f (by decide) hA0, Icoin_f f (by decide) hA1, Iinc_f f (by decide) hA2, Imat_f f (by decide) hA3, Ilack_f f (by decide) hA4, Ispan_f f (by decide) hA5, Imove_f f (by decide) hA6⟩, Icb_f f (by decide) hcb, Ibuy_f f (by decide) hbuy, Iclm_f2 f (by decide) hclm, Iring_f f (by decide) hring, Iact_f f (by decide) hact, Itape_f f (by decide) htape, Ibyt_f f (by decide) hbyt, Ishelf_f f (by decide) hsh, n1, Irh_f f (by decide) hrh, Irule_f f (by decide) hru⟩⟩
theorem s_chain (h : Inv t)  : Eqm (F_X12_chain t) (fun t => F_X13_chain t) Inv := by
  obtain ⟨nB, nS, nM, nR, hL, hT, hG, hR, hA, hcb, hbuy, hclm, hring, hact, htape, hbyt, hsh, hdl, hrh, hru⟩ := h
  obtain ⟨hA0, hA1, hA2, hA3, hA4, hA5, hA6⟩ := id hA
  have hbd : ∀ c, c < nB → -2000000000 ≤ (tA t 3310 0 c).toInt ∧ (tA t 3310 0 c).toInt ≤ 2000000000 := fun c hc => by
    have h1 := hcb c hc
    have h2 := sW_b hA6
    omega
  obtain ⟨r, t1, t2, c1, c2, n1, f⟩ := m_chain hL hT hA hdl hbd
  exact ⟨r, t1, t2, c1, c2, ⟨nB, nS, nM, nR, Ilen_f f hL, Itime_f f (by decide) hT, Ileag_f f (by decide) hG, Iterm_f f (by decide) hR, ⟨Ibody_f f (by decide) hA0, Icoin_f f (by decide) hA1, Iinc_f f (by decide) hA2, Imat_f f (by decide) hA3, Ilack_f f (by decide) hA4, Ispan_f f (by decide) hA5, Imove_f f (by decide) hA6⟩, Icb_f f (by decide) hcb, Ibuy_f f (by decide) hbuy, Iclm_f2 f (by decide) hclm, Iring_f f (by decide) hring, Iact_f f (by decide) hact, Itape_f f (by decide) htape, Ibyt_f f (by decide) hbyt, Ishelf_f f (by decide) hsh, n1, Irh_f f (by decide) hrh, Irule_f f (by decide) hru⟩⟩
theorem s_wish (h : Inv t) (x1 : Int32) : Eqm (F_X12_wish t x1) (fun t => F_X13_wish t x1) Inv := by
  obtain ⟨nB, nS, nM, nR, hL, hT, hG, hR, hA, hcb, hbuy, hclm, hring, hact, htape, hbyt, hsh, hdl, hrh, hru⟩ := h
  obtain ⟨hA0, hA1, hA2, hA3, hA4, hA5, hA6⟩ := id hA
  obtain ⟨r, t1, t2, c1, c2, n1, f⟩ := m_wish x1 hL hring
  exact ⟨r, t1, t2, c1, c2, ⟨nB, nS, nM, nR, Ilen_f f hL, Itime_f f (by decide) hT, Ileag_f f (by decide) hG, Iterm_f f (by decide) hR, ⟨Ibody_f f (by decide) hA0, Icoin_f f (by decide) hA1, Iinc_f f (by decide) hA2, Imat_f f (by decide) hA3, Ilack_f f (by decide) hA4, Ispan_f f (by decide) hA5, Imove_f f (by decide) hA6⟩, Icb_f f (by decide) hcb, Ibuy_f f (by decide) hbuy, Iclm_f2 f (by decide) hclm, n1, Iact_f f (by decide) hact, Itape_f f (by decide) htape, Ibyt_f f (by decide) hbyt, Ishelf_f f (by decide) hsh, Ideal_f f (by decide) hdl, Irh_f f (by decide) hrh, Irule_f f (by decide) hru⟩⟩
theorem s_rings (h : Inv t)  : Eqm (F_X12_rings t) (fun t => F_X13_rings t) Inv := by
  obtain ⟨nB, nS, nM, nR, hL, hT, hG, hR, hA, hcb, hbuy, hclm, hring, hact, htape, hbyt, hsh, hdl, hrh, hru⟩ := h
  obtain ⟨hA0, hA1, hA2, hA3, hA4, hA5, hA6⟩ := id hA
  obtain ⟨r, t1, t2, c1, c2, n1, f⟩ := m_rings hL hring
  exact ⟨r, t1, t2, c1, c2, ⟨nB, nS, nM, nR, Ilen_f f hL, Itime_f f (by decide) hT, Ileag_f f (by decide) hG, Iterm_f f (by decide) hR, ⟨Ibody_f f (by decide) hA0, Icoin_f f (by decide) hA1, Iinc_f f (by decide) hA2, Imat_f f (by decide) hA3, Ilack_f f (by decide) hA4, Ispan_f f (by decide) hA5, Imove_f f (by decide) hA6⟩, Icb_f f (by decide) hcb, Ibuy_f f (by decide) hbuy, Iclm_f2 f (by decide) hclm, n1, Iact_f f (by decide) hact, Itape_f f (by decide) htape, Ibyt_f f (by decide) hbyt, Ishelf_f f (by decide) hsh, Ideal_f f (by decide) hdl, Irh_f f (by decide) hrh, Irule_f f (by decide) hru⟩⟩
theorem s_gets (h : Inv t) (x1 : Int32) : ∃ r, F_X12_gets t x1 = some r ∧ F_X13_gets t x1 = some r := by
  obtain ⟨nB, nS, nM, nR, hL, hT, hG, hR, hA, hcb, hbuy, hclm, hring, hact, htape, hbyt, hsh, hdl, hrh, hru⟩ := h
  obtain ⟨hA0, hA1, hA2, hA3, hA4, hA5, hA6⟩ := id hA
  exact m_gets x1 hL hring
theorem s_candidate (h : Inv t) (x1 : Int32) (x2 : Int32) : Eqm (F_X12_candidate t x1 x2) (fun t => F_X13_candidate t x1 x2) Inv := by
  obtain ⟨nB, nS, nM, nR, hL, hT, hG, hR, hA, hcb, hbuy, hclm, hring, hact, htape, hbyt, hsh, hdl, hrh, hru⟩ := h
  obtain ⟨hA0, hA1, hA2, hA3, hA4, hA5, hA6⟩ := id hA
  obtain ⟨r, t1, t2, c1, c2, n1, f⟩ := m_candidate x1 x2 hL hbuy
  exact ⟨r, t1, t2, c1, c2, ⟨nB, nS, nM, nR, Ilen_f f hL, Itime_f f (by decide) hT, Ileag_f f (by decide) hG, Iterm_f f (by decide) hR, ⟨Ibody_f f (by decide) hA0, Icoin_f f (by decide) hA1, Iinc_f f (by decide) hA2, Imat_f f (by decide) hA3, Ilack_f f (by decide) hA4, Ispan_f f (by decide) hA5, Imove_f f (by decide) hA6⟩, Icb_f f (by decide) hcb, n1, Iclm_f2 f (by decide) hclm, Iring_f f (by decide) hring, Iact_f f (by decide) hact, Itape_f f (by decide) htape, Ibyt_f f (by decide) hbyt, Ishelf_f f (by decide) hsh, Ideal_f f (by decide) hdl, Irh_f f (by decide) hrh, Irule_f f (by decide) hru⟩⟩
theorem s_buys (h : Inv t) (x1 : Int32) (x2 : Int32) (x3 : Int32) : Eqm (F_X12_buys t x1 x2 x3) (fun t => F_X13_buys t x1 x2 x3) Inv := by
  obtain ⟨nB, nS, nM, nR, hL, hT, hG, hR, hA, hcb, hbuy, hclm, hring, hact, htape, hbyt, hsh, hdl, hrh, hru⟩ := h
  obtain ⟨hA0, hA1, hA2, hA3, hA4, hA5, hA6⟩ := id hA
  obtain ⟨r, t1, t2, c1, c2, n1, f⟩ := m_buys x1 x2 x3 hL hbuy
  exact ⟨r, t1, t2, c1, c2, ⟨nB, nS, nM, nR, Ilen_f f hL, Itime_f f (by decide) hT, Ileag_f f (by decide) hG, Iterm_f f (by decide) hR, ⟨Ibody_f f (by decide) hA0, Icoin_f f (by decide) hA1, Iinc_f f (by decide) hA2, Imat_f f (by decide) hA3, Ilack_f f (by decide) hA4, Ispan_f f (by decide) hA5, Imove_f f (by decide) hA6⟩, Icb_f f (by decide) hcb, n1, Iclm_f2 f (by decide) hclm, Iring_f f (by decide) hring, Iact_f f (by decide) hact, Itape_f f (by decide) htape, Ibyt_f f (by decide) hbyt, Ishelf_f f (by decide) hsh, Ideal_f f (by decide) hdl, Irh_f f (by decide) hrh, Irule_f f (by decide) hru⟩⟩
theorem s_claim (h : Inv t) (x1 : Int32) (x2 : Int32) : Eqm (F_X12_claim t x1 x2) (fun t => F_X13_claim t x1 x2) Inv := by
  obtain ⟨nB, nS, nM, nR, hL, hT, hG, hR, hA, hcb, hbuy, hclm, hring, hact, htape, hbyt, hsh, hdl, hrh, hru⟩ := h
  obtain ⟨hA0, hA1, hA2, hA3, hA4, hA5, hA6⟩ := id hA
  obtain ⟨r, t1, t2, c1, c2, f, n1⟩ := m_claim x1 x2 hL hclm
  exact ⟨r, t1, t2, c1, c2, ⟨nB, nS, nM, nR, Ilen_f f hL, Itime_f f (by decide) hT, Ileag_f f (by decide) hG, Iterm_f f (by decide) hR, ⟨Ibody_f f (by decide) hA0, Icoin_f f (by decide) hA1, Iinc_f f (by decide) hA2, Imat_f f (by decide) hA3, Ilack_f f (by decide) hA4, Ispan_f f (by decide) hA5, Imove_f f (by decide) hA6⟩, Icb_f f (by decide) hcb, Ibuy_f f (by decide) hbuy, n1, Iring_f f (by decide) hring, Iact_f f (by decide) hact, Itape_f f (by decide) htape, Ibyt_f f (by decide) hbyt, Ishelf_f f (by decide) hsh, Ideal_f f (by decide) hdl, Irh_f f (by decide) hrh, Irule_f f (by decide) hru⟩⟩
theorem s_part (h : Inv t) (x1 : Int32) : Eqm (F_X12_part t x1) (fun t => F_X13_part t x1) Inv := by
  obtain ⟨nB, nS, nM, nR, hL, hT, hG, hR, hA, hcb, hbuy, hclm, hring, hact, htape, hbyt, hsh, hdl, hrh, hru⟩ := h
  obtain ⟨hA0, hA1, hA2, hA3, hA4, hA5, hA6⟩ := id hA
  obtain ⟨r, t1, t2, c1, c2, n1, f⟩ := m_part x1 hL hclm
  exact ⟨r, t1, t2, c1, c2, ⟨nB, nS, nM, nR, Ilen_f f hL, Itime_f f (by decide) hT, Ileag_f f (by decide) hG, Iterm_f f (by decide) hR, ⟨Ibody_f f (by decide) hA0, Icoin_f f (by decide) hA1, Iinc_f f (by decide) hA2, Imat_f f (by decide) hA3, Ilack_f f (by decide) hA4, Ispan_f f (by decide) hA5, Imove_f f (by decide) hA6⟩, Icb_f f (by decide) hcb, Ibuy_f f (by decide) hbuy, n1, Iring_f f (by decide) hring, Iact_f f (by decide) hact, Itape_f f (by decide) htape, Ibyt_f f (by decide) hbyt, Ishelf_f f (by decide) hsh, Ideal_f f (by decide) hdl, Irh_f f (by decide) hrh, Irule_f f (by decide) hru⟩⟩
theorem s_got (h : Inv t) (x1 : Int32) : ∃ r, F_X12_got t x1 = some r ∧ F_X13_got t x1 = some r := by
  obtain ⟨nB, nS, nM, nR, hL, hT, hG, hR, hA, hcb, hbuy, hclm, hring, hact, htape, hbyt, hsh, hdl, hrh, hru⟩ := h
  obtain ⟨hA0, hA1, hA2, hA3, hA4, hA5, hA6⟩ := id hA
  exact m_got x1 hL hclm
theorem s_act (h : Inv t) (x1 : Int32) (x2 : Int32) (x3 : Int32) : Eqm (F_X12_act t x1 x2 x3) (fun t => F_X13_act t x1 x2 x3) Inv := by
  obtain ⟨nB, nS, nM, nR, hL, hT, hG, hR, hA, hcb, hbuy, hclm, hring, hact, htape, hbyt, hsh, hdl, hrh, hru⟩ := h
  obtain ⟨hA0, hA1, hA2, hA3, hA4, hA5, hA6⟩ := id hA
  obtain ⟨r, t1, t2, c1, c2, n1, n2, f⟩ := m_act x1 x2 x3 hL hA0
  exact ⟨r, t1, t2, c1, c2, ⟨nB, nS, nM, nR, Ilen_f f hL, Itime_f f (by decide) hT, Ileag_f f (by decide) hG, Iterm_f f (by decide) hR, ⟨Ibody_f1 f (by decide) n2 hA0, Icoin_f f (by decide) hA1, Iinc_f f (by decide) hA2, Imat_f f (by decide) hA3, Ilack_f f (by decide) hA4, Ispan_f f (by decide) hA5, Imove_f f (by decide) hA6⟩, Icb_f f (by decide) hcb, Ibuy_f f (by decide) hbuy, Iclm_f2 f (by decide) hclm, Iring_f f (by decide) hring, n1, Itape_f f (by decide) htape, Ibyt_f f (by decide) hbyt, Ishelf_f f (by decide) hsh, Ideal_f f (by decide) hdl, Irh_f f (by decide) hrh, Irule_f f (by decide) hru⟩⟩
theorem s_trace (h : Inv t) (x1 : Int32) : ∃ r, F_X12_trace t x1 = some r ∧ F_X13_trace t x1 = some r := by
  obtain ⟨nB, nS, nM, nR, hL, hT, hG, hR, hA, hcb, hbuy, hclm, hring, hact, htape, hbyt, hsh, hdl, hrh, hru⟩ := h
  obtain ⟨hA0, hA1, hA2, hA3, hA4, hA5, hA6⟩ := id hA
  exact m_trace x1 hL hact
theorem s_keep (h : Inv t) (x1 : Int32) (x2 : Int32) : Eqm (F_X12_keep t x1 x2) (fun t => F_X13_keep t x1 x2) Inv := by
  obtain ⟨nB, nS, nM, nR, hL, hT, hG, hR, hA, hcb, hbuy, hclm, hring, hact, htape, hbyt, hsh, hdl, hrh, hru⟩ := h
  obtain ⟨hA0, hA1, hA2, hA3, hA4, hA5, hA6⟩ := id hA
  obtain ⟨r, t1, t2, c1, c2, n1, f⟩ := m_keep x1 x2 hL hA0 hsh
  exact ⟨r, t1, t2, c1, c2, ⟨nB, nS, nM, nR, Ilen_f f hL, Itime_f f (by decide) hT, Ileag_f f (by decide) hG, Iterm_f f (by decide) hR, ⟨Ibody_f f (by decide) hA0, Icoin_f f (by decide) hA1, Iinc_f f (by decide) hA2, Imat_f f (by decide) hA3, Ilack_f f (by decide) hA4, Ispan_f f (by decide) hA5, Imove_f f (by decide) hA6⟩, Icb_f f (by decide) hcb, Ibuy_f f (by decide) hbuy, Iclm_f2 f (by decide) hclm, Iring_f f (by decide) hring, Iact_f f (by decide) hact, Itape_f f (by decide) htape, Ibyt_f f (by decide) hbyt, n1, Ideal_f f (by decide) hdl, Irh_f f (by decide) hrh, Irule_f f (by decide) hru⟩⟩
theorem s_row (h : Inv t) (x1 : Int32) (x2 : Int32) (x3 : Int32) : Eqm (F_X12_row t x1 x2 x3) (fun t => F_X13_row t x1 x2 x3) Inv := by
  obtain ⟨nB, nS, nM, nR, hL, hT, hG, hR, hA, hcb, hbuy, hclm, hring, hact, htape, hbyt, hsh, hdl, hrh, hru⟩ := h
  obtain ⟨hA0, hA1, hA2, hA3, hA4, hA5, hA6⟩ := id hA
  obtain ⟨r, t1, t2, c1, c2, n1, f⟩ := m_row x1 x2 x3 hL hsh
  exact ⟨r, t1, t2, c1, c2, ⟨nB, nS, nM, nR, Ilen_f f hL, Itime_f f (by decide) hT, Ileag_f f (by decide) hG, Iterm_f f (by decide) hR, ⟨Ibody_f f (by decide) hA0, Icoin_f f (by decide) hA1, Iinc_f f (by decide) hA2, Imat_f f (by decide) hA3, Ilack_f f (by decide) hA4, Ispan_f f (by decide) hA5, Imove_f f (by decide) hA6⟩, Icb_f f (by decide) hcb, Ibuy_f f (by decide) hbuy, Iclm_f2 f (by decide) hclm, Iring_f f (by decide) hring, Iact_f f (by decide) hact, Itape_f f (by decide) htape, Ibyt_f f (by decide) hbyt, n1, Ideal_f f (by decide) hdl, Irh_f f (by decide) hrh, Irule_f f (by decide) hru⟩⟩
theorem s_put (h : Inv t) (x1 : Int32) (x2 : Int32) (x3 : Int64) : Eqm (F_X12_put t x1 x2 x3) (fun t => F_X13_put t x1 x2 x3) Inv := by
  obtain ⟨nB, nS, nM, nR, hL, hT, hG, hR, hA, hcb, hbuy, hclm, hring, hact, htape, hbyt, hsh, hdl, hrh, hru⟩ := h
  obtain ⟨hA0, hA1, hA2, hA3, hA4, hA5, hA6⟩ := id hA
  obtain ⟨r, t1, t2, c1, c2, n1, f⟩ := m_put x1 x2 x3 hL hA0.1 hsh
  exact ⟨r, t1, t2, c1, c2, ⟨nB, nS, nM, nR, Ilen_f f hL, Itime_f f (by decide) hT, Ileag_f f (by decide) hG, Iterm_f f (by decide) hR, ⟨Ibody_f f (by decide) hA0, Icoin_f f (by decide) hA1, Iinc_f f (by decide) hA2, Imat_f f (by decide) hA3, Ilack_f f (by decide) hA4, Ispan_f f (by decide) hA5, Imove_f f (by decide) hA6⟩, Icb_f f (by decide) hcb, Ibuy_f f (by decide) hbuy, Iclm_f2 f (by decide) hclm, Iring_f f (by decide) hring, Iact_f f (by decide) hact, Itape_f f (by decide) htape, Ibyt_f f (by decide) hbyt, n1, Ideal_f f (by decide) hdl, Irh_f f (by decide) hrh, Irule_f f (by decide) hru⟩⟩
theorem s_element (h : Inv t) (x1 : Int32) (x2 : Int32) : ∃ r, F_X12_element t x1 x2 = some r ∧ F_X13_element t x1 x2 = some r := by
  obtain ⟨nB, nS, nM, nR, hL, hT, hG, hR, hA, hcb, hbuy, hclm, hring, hact, htape, hbyt, hsh, hdl, hrh, hru⟩ := h
  obtain ⟨hA0, hA1, hA2, hA3, hA4, hA5, hA6⟩ := id hA
  exact m_element x1 x2 hL hA0.1 hsh
theorem s_shift (h : Inv t) (x1 : Int32) (x2 : Int32) (x3 : Int32) (x4 : Int32) (x5 : Int32) : Eqm (F_X12_shift t x1 x2 x3 x4 x5) (fun t => F_X13_shift t x1 x2 x3 x4 x5) Inv := by
  obtain ⟨nB, nS, nM, nR, hL, hT, hG, hR, hA, hcb, hbuy, hclm, hring, hact, htape, hbyt, hsh, hdl, hrh, hru⟩ := h
  obtain ⟨hA0, hA1, hA2, hA3, hA4, hA5, hA6⟩ := id hA
  obtain ⟨r, t1, t2, c1, c2, n1, f⟩ := m_shift x1 x2 x3 x4 x5 hL hA0.1 hsh
  exact ⟨r, t1, t2, c1, c2, ⟨nB, nS, nM, nR, Ilen_f f hL, Itime_f f (by decide) hT, Ileag_f f (by decide) hG, Iterm_f f (by decide) hR, ⟨Ibody_f f (by decide) hA0, Icoin_f f (by decide) hA1, Iinc_f f (by decide) hA2, Imat_f f (by decide) hA3, Ilack_f f (by decide) hA4, Ispan_f f (by decide) hA5, Imove_f f (by decide) hA6⟩, Icb_f f (by decide) hcb, Ibuy_f f (by decide) hbuy, Iclm_f2 f (by decide) hclm, Iring_f f (by decide) hring, Iact_f f (by decide) hact, Itape_f f (by decide) htape, Ibyt_f f (by decide) hbyt, n1, Ideal_f f (by decide) hdl, Irh_f f (by decide) hrh, Irule_f f (by decide) hru⟩⟩
theorem s_taken (h : Inv t) (x1 : Int32) (x2 : Int32) : ∃ r, F_X12_taken t x1 x2 = some r ∧ F_X13_taken t x1 x2 = some r := by
  obtain ⟨nB, nS, nM, nR, hL, hT, hG, hR, hA, hcb, hbuy, hclm, hring, hact, htape, hbyt, hsh, hdl, hrh, hru⟩ := h
  obtain ⟨hA0, hA1, hA2, hA3, hA4, hA5, hA6⟩ := id hA
  exact m_taken x1 x2 hL hA0 hsh
theorem s_count (h : Inv t) (x1 : Int32) : ∃ r, F_X12_count t x1 = some r ∧ F_X13_count t x1 = some r := by
  obtain ⟨nB, nS, nM, nR, hL, hT, hG, hR, hA, hcb, hbuy, hclm, hring, hact, htape, hbyt, hsh, hdl, hrh, hru⟩ := h
  obtain ⟨hA0, hA1, hA2, hA3, hA4, hA5, hA6⟩ := id hA
  exact m_count x1 hL hT hA0 hA5 hA6 htape hact (hrh.2.1.trans hrh.2.2.1.symm)
end
