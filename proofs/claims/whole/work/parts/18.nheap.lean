/-! PART 18: rows over the typed heap: fields, arrays, new cells, calls, ends. -/
section NH
variable {W : NW} {d : Nat} {T : Nat → Option En} {Q : Option NV → TS → Prop} {a0 : Nat → Nat → Nat} {e0 : Nat → Nat → Bool} {pc : Nat} {q : En} {ls : List (Option NV)} {st : List NV} {t : TS} {bc bs : Nat}
theorem okO {t : TS} {c i : Nat} (hc : c < 5000) (h : okv t (eR (some (c, i)))) : tE t c i = true := Or.resolve_right h (fun g => absurd g.1 (by show ¬ 5000 ≤ c; omega))
theorem nkO {c : Nat} (hc : c < 20) : nk c = c + 1 := by
  have : ∀ c, c < 20 → nk c = c + 1 := by decide
  exact this c hc
theorem mvO {ad : Nat → Nat → Nat} {c : Nat} {o : Option Nat} : mv ad (eO c o) = vR (o.map (ad c)) := by cases o <;> rfl
theorem okO_of {t : TS} {c : Nat} {o : Option Nat} (h : ∀ j, o = some j → tE t c j = true) : okv t (eO c o) := by
  cases o with
  | none => trivial
  | some j => exact Or.inl (h j rfl)
theorem okO_to {t : TS} {c : Nat} {o : Option Nat} (hc : c < 5000) (h : okv t (eO c o)) : ∀ j, o = some j → tE t c j = true := by
  intro j e; subst e
  exact okO hc h
theorem kObj {W : NW} {ad : Nat → Nat → Nat} {t : TS} {hs : Nat} {h : Hp} (hR : RV W ad t hs h) {f i : Nat} (hf : f < 2000) (hE : tE t (f / 100) i = true) : hp_K h (ad (f / 100) i) = f / 100 + 1 := (hR.1 _ _ hE).2.2.1.trans (nkO (by omega))
theorem nx_getI (hT : T pc = some q) {i f c : Nat} (hs2 : mm_sem W.1 q = mm_getf f 0) (hc : f / 100 = c) (hf : f < 2000) (k : nX W d T Q a0 e0 (pc + 3) ls (eI (tI t f i) :: st) t bc bs) : nX W d T Q a0 e0 pc ls (eR (some (c, i)) :: st) t bc bs := by
  subst hc
  intro ad hs h hR he hl hst
  have hE := okO (by omega) (okS_hd hst)
  have hk := k ad hs h hR he hl (okS_cons trivial (okS_tl hst))
  refine rx_getI (mm_C_mono d) hT hs2 rfl (kObj hR hf hE) ?_
  rw [(hR.2.2.1 f i hf hE).1]
  exact hk
theorem nx_getFix (hT : T pc = some q) {i f c k2 : Nat} (hs2 : mm_sem W.1 q = mm_getf f 2) (hc : f / 100 = c) (hf : f < 2000) (hx : W.2.2.2 f = true) (hk2 : tk f = k2) (k : nX W d T Q a0 e0 (pc + 3) ls (eR (some (k2, i)) :: st) t bc bs) : nX W d T Q a0 e0 pc ls (eR (some (c, i)) :: st) t bc bs := by
  subst hc; subst hk2
  intro ad hs h hR he hl hst
  have hE := okO (by omega) (okS_hd hst)
  obtain ⟨-, h2, h3⟩ := hR.2.2.1 f i hf hE
  have h4 := hR.2.2.2.2.2.2 f i hx
  have hk := k ad hs h hR he hl (okS_cons (Or.inl (h3 i h4)) (okS_tl hst))
  refine rx_getR (mm_C_mono d) hT hs2 rfl (kObj hR hf hE) ?_
  rw [h2, h4]
  exact hk
theorem nx_getR (hT : T pc = some q) {i f c k2 : Nat} (hs2 : mm_sem W.1 q = mm_getf f 2) (hc : f / 100 = c) (hf : f < 2000) (hk2 : tk f = k2) {α : Type} {b : Option Nat → Option α} {Qp : α → Prop} (H : wp (nxt (tR t f i) b) Qp) (k : ∀ o, wp (b o) Qp → nX W d T Q a0 e0 (pc + 3) ls (eO k2 o :: st) t bc bs) : nX W d T Q a0 e0 pc ls (eR (some (c, i)) :: st) t bc bs := by
  subst hc; subst hk2
  intro ad hs h hR he hl hst
  have hE := okO (by omega) (okS_hd hst)
  obtain ⟨-, h2, h3⟩ := hR.2.2.1 f i hf hE
  have hk := k _ H ad hs h hR he hl (okS_cons (okO_of h3) (okS_tl hst))
  refine rx_getR (mm_C_mono d) hT hs2 rfl (kObj hR hf hE) ?_
  rw [h2, ← mvO]
  exact hk
theorem nx_putI (hT : T pc = some q) {i f c : Nat} {v : Int32} (hs2 : mm_sem W.1 q = mm_putf f 0) (hc : f / 100 = c) (hf : f < 2000) {α : Type} {b : TS → Option α} {Qp : α → Prop} (H : wp (nxt (uI t f i v) b) Qp) (k : ∀ t1, wp (b t1) Qp → nX W d T Q a0 e0 (pc + 3) ls st t1 bc bs) : nX W d T Q a0 e0 pc ls (eI v :: eR (some (c, i)) :: st) t bc bs := by
  subst hc
  intro ad hs h hR he hl hst
  have hE := okO (by omega) (okS_hd (okS_tl hst))
  exact rx_putI (mm_C_mono d) hT hs2 rfl (kObj hR hf hE) (k _ H ad hs _ (RV_setI hR v hE) he hl (okS_tl (okS_tl hst)))
theorem nx_putZ (hT : T pc = some q) {i f c : Nat} {v : Int32} (hs2 : mm_sem W.1 q = mm_putf f 1) (hc : f / 100 = c) (hf : f < 2000) {α : Type} {b : TS → Option α} {Qp : α → Prop} (H : wp (gb v (nxt (uI t f i v) b)) Qp) (k : ∀ t1, wp (b t1) Qp → nX W d T Q a0 e0 (pc + 3) ls st t1 bc bs) : nX W d T Q a0 e0 pc ls (eI v :: eR (some (c, i)) :: st) t bc bs := by
  subst hc
  intro ad hs h hR he hl hst
  have hE := okO (by omega) (okS_hd (okS_tl hst))
  exact rx_putZ (mm_C_mono d) hT hs2 rfl (kObj hR hf hE) (gb_in H).1 (k _ (gb_in H).2 ad hs _ (RV_setI hR v hE) he hl (okS_tl (okS_tl hst)))
theorem nx_putR (hT : T pc = some q) {i f c k2 : Nat} {o : Option Nat} (hs2 : mm_sem W.1 q = mm_putf f 2) (hc : f / 100 = c) (hf : f < 2000) (hx : W.2.2.2 f = false) (hk2 : tk f = k2) (hk3 : k2 < 5000) {α : Type} {b : TS → Option α} {Qp : α → Prop} (H : wp (nxt (uR t f i o) b) Qp) (k : ∀ t1, wp (b t1) Qp → nX W d T Q a0 e0 (pc + 3) ls st t1 bc bs) : nX W d T Q a0 e0 pc ls (eO k2 o :: eR (some (c, i)) :: st) t bc bs := by
  subst hc; subst hk2
  intro ad hs h hR he hl hst
  have hE := okO (by omega) (okS_hd (okS_tl hst))
  have h1 := okO_to hk3 (okS_hd hst)
  have hk := k _ H ad hs _ (RV_setR hR hE hx h1) he hl (okS_tl (okS_tl hst))
  show mm_X _ _ _ _ _ _ (mv ad (eO (tk f) o) :: _) _ _ _ _
  rw [mvO]
  exact rx_putR (mm_C_mono d) hT hs2 rfl (kObj hR hf hE) hk
theorem kArr {W : NW} {ad : Nat → Nat → Nat} {t : TS} {hs : Nat} {h : Hp} (hR : RV W ad t hs h) {c i n : Nat} (hk : nk c = n) (hE : tE t c i = true) : hp_K h (ad c i) = n := (hR.1 _ _ hE).2.2.1.trans hk
theorem nx_iald (hT : T pc = some q) {p : Nat × Nat} {x : Int32} (hs2 : mm_sem W.1 q = mm_iald W.1) (hc : 2000 ≤ p.1) (hc2 : p.1 < 5000) (hk : nk p.1 = 20) {α : Type} {b : Option α} {Qp : α → Prop} (H : wp (gd x (tL t p.1 p.2) b) Qp) (k : wp b Qp → nX W d T Q a0 e0 (pc + 1) ls (eI (tA t p.1 p.2 x.toNatClampNeg) :: st) t bc bs) : nX W d T Q a0 e0 pc ls (eI x :: eR (some p) :: st) t bc bs := by
  intro ad hs h hR he hl hst
  have hE := okO hc2 (okS_hd (okS_tl hst))
  obtain ⟨h1, h2⟩ := hR.2.2.2.1 _ _ hc hE
  have hk3 := k (gd_in H).2 ad hs h hR he hl (okS_cons trivial (okS_tl (okS_tl hst)))
  refine rx_iald (mm_C_mono d) hT hs2 (kArr hR hk hE) (by rw [h1]; exact (gd_in H).1) ?_
  rw [(h2 _).1]
  exact hk3
theorem nx_ialdZ (hT : T pc = some q) {s : Nat} {x : Int32} (hs2 : mm_sem W.1 q = mm_iald W.1) (hs5 : s < 5) {α : Type} {b : Option α} {Qp : α → Prop} (H : wp (gd x (mm_sv s).length b) Qp) (k : wp b Qp → nX W d T Q a0 e0 (pc + 1) ls (eI ((mm_sv s).getD x.toNatClampNeg 0) :: st) t bc bs) : nX W d T Q a0 e0 pc ls (eI x :: eR (some (5000 + s, 0)) :: st) t bc bs := by
  intro ad hs h hR he hl hst
  obtain ⟨f, hf, hf2⟩ := hR.2.2.2.2.2.1.2 s hs5
  have hk3 := k (gd_in H).2 ad hs h hR he hl (okS_cons trivial (okS_tl (okS_tl hst)))
  have ha : ad (5000 + s) 0 = W.1.2 s := hR.2.2.2.2.2.1.1 s
  refine rx_ialdZ (mm_C_mono d) hT hs2 (by show W.1.1 (ad (5000 + s) 0) = _; rw [ha]; exact hf) (gd_in H).1 ?_
  have hlt : x.toNatClampNeg < (mm_sv s).length := by
    have := (gd_in H).1
    unfold vp_in at this
    omega
  show mm_X _ _ _ _ _ _ (vI (f x.toNatClampNeg) :: _) _ _ _ _
  rw [hf2 _ hlt]
  exact hk3
theorem nx_bald (hT : T pc = some q) {c i : Nat} {x : Int32} (hs2 : mm_sem W.1 q = mm_bald W.1) (hc : 2000 ≤ c) (hc2 : c < 5000) (hk : nk c = 21 ∨ nk c = 22) {α : Type} {b : Option α} {Qp : α → Prop} (H : wp (gd x (tL t c i) b) Qp) (k : wp b Qp → nX W d T Q a0 e0 (pc + 1) ls (eI (tA t c i x.toNatClampNeg) :: st) t bc bs) : nX W d T Q a0 e0 pc ls (eI x :: eR (some (c, i)) :: st) t bc bs := by
  intro ad hs h hR he hl hst
  have hE := okO hc2 (okS_hd (okS_tl hst))
  obtain ⟨h1, h2⟩ := hR.2.2.2.1 _ _ hc hE
  have hk3 := k (gd_in H).2 ad hs h hR he hl (okS_cons trivial (okS_tl (okS_tl hst)))
  refine rx_bald (mm_C_mono d) hT hs2 (by rcases hk with g | g; exact Or.inl (kArr hR g hE); exact Or.inr (kArr hR g hE)) (by rw [h1]; exact (gd_in H).1) ?_
  rw [(h2 _).1]
  exact hk3
theorem nx_baldT (hT : T pc = some q) {x : Int32} (hs2 : mm_sem W.1 q = mm_bald W.1) {α : Type} {b : Option α} {Qp : α → Prop} (H : wp (gd x 12 b) Qp) (k : wp b Qp → nX W d T Q a0 e0 (pc + 1) ls (eI (mm_nm.getD x.toNatClampNeg 0) :: st) t bc bs) : nX W d T Q a0 e0 pc ls (eI x :: eR (some (5101, 0)) :: st) t bc bs := by
  intro ad hs h hR he hl hst
  have hk3 := k (gd_in H).2 ad hs h hR he hl (okS_cons trivial (okS_tl (okS_tl hst)))
  have ha : ad 5101 0 = W.1.2 101 := hR.2.2.2.2.2.1.1 101
  show mm_X _ _ _ _ _ _ (vI x :: vR (some (ad 5101 0)) :: _) _ _ _ _
  rw [ha]
  exact rx_baldT (mm_C_mono d) hT hs2 (gd_in H).1 hk3
theorem nx_lald (hT : T pc = some q) {c i : Nat} {x : Int32} (hs2 : mm_sem W.1 q = mm_lald) (hc : 2000 ≤ c) (hc2 : c < 5000) (hk : nk c = 23) {α : Type} {b : Option α} {Qp : α → Prop} (H : wp (gd x (tL t c i) b) Qp) (k : wp b Qp → nX W d T Q a0 e0 (pc + 1) ls (eJ (tJ t c i x.toNatClampNeg) :: st) t bc bs) : nX W d T Q a0 e0 pc ls (eI x :: eR (some (c, i)) :: st) t bc bs := by
  intro ad hs h hR he hl hst
  have hE := okO hc2 (okS_hd (okS_tl hst))
  obtain ⟨h1, h2⟩ := hR.2.2.2.1 _ _ hc hE
  have hk3 := k (gd_in H).2 ad hs h hR he hl (okS_cons trivial (okS_tl (okS_tl hst)))
  refine rx_lald (mm_C_mono d) hT hs2 (kArr hR hk hE) (by rw [h1]; exact (gd_in H).1) ?_
  rw [(h2 _).2.1]
  exact hk3
theorem nx_aald (hT : T pc = some q) {c i e : Nat} {x : Int32} (hs2 : mm_sem W.1 q = mm_aald) (hc : 2000 ≤ c) (hc2 : c < 5000) (hk : 23 < nk c) (he2 : ek c = e) {α : Type} {b : Option Nat → Option α} {Qp : α → Prop} (H : wp (gd x (tL t c i) (nxt (tQ t c i x.toNatClampNeg) b)) Qp) (k : ∀ o, wp (b o) Qp → nX W d T Q a0 e0 (pc + 1) ls (eO e o :: st) t bc bs) : nX W d T Q a0 e0 pc ls (eI x :: eR (some (c, i)) :: st) t bc bs := by
  subst he2
  intro ad hs h hR he hl hst
  have hE := okO hc2 (okS_hd (okS_tl hst))
  obtain ⟨h1, h2⟩ := hR.2.2.2.1 _ _ hc hE
  obtain ⟨-, -, h3, h4⟩ := h2 x.toNatClampNeg
  have hk3 := k _ (gd_in H).2 ad hs h hR he hl (okS_cons (okO_of h4) (okS_tl (okS_tl hst)))
  refine rx_aald (mm_C_mono d) hT hs2 (by rw [kArr hR rfl hE]; exact hk) (by rw [h1]; exact (gd_in H).1) ?_
  rw [h3, ← mvO]
  exact hk3
theorem nx_iast (hT : T pc = some q) {p : Nat × Nat} {x v : Int32} (hs2 : mm_sem W.1 q = mm_iast) (hc : 2000 ≤ p.1) (hc2 : p.1 < 5000) (hk : nk p.1 = 20) {α : Type} {b : TS → Option α} {Qp : α → Prop} (H : wp (gd x (tL t p.1 p.2) (nxt (uA t p.1 p.2 x.toNatClampNeg v) b)) Qp) (k : ∀ t1, wp (b t1) Qp → nX W d T Q a0 e0 (pc + 1) ls st t1 bc bs) : nX W d T Q a0 e0 pc ls (eI v :: eI x :: eR (some p) :: st) t bc bs := by
  intro ad hs h hR he hl hst
  have hE := okO hc2 (okS_hd (okS_tl (okS_tl hst)))
  obtain ⟨h1, h2⟩ := hR.2.2.2.1 _ _ hc hE
  exact rx_iast (mm_C_mono d) hT hs2 (kArr hR hk hE) (by rw [h1]; exact (gd_in H).1) (k _ (gd_in H).2 ad hs _ (RV_setA hR _ v hE) he hl (okS_tl (okS_tl (okS_tl hst))))
theorem nx_bast (hT : T pc = some q) {c i : Nat} {x v : Int32} (hs2 : mm_sem W.1 q = mm_bast) (hc : 2000 ≤ c) (hc2 : c < 5000) (hk : nk c = 21) {α : Type} {b : TS → Option α} {Qp : α → Prop} (H : wp (gd x (tL t c i) (nxt (uA t c i x.toNatClampNeg (vp_nar .byte v)) b)) Qp) (k : ∀ t1, wp (b t1) Qp → nX W d T Q a0 e0 (pc + 1) ls st t1 bc bs) : nX W d T Q a0 e0 pc ls (eI v :: eI x :: eR (some (c, i)) :: st) t bc bs := by
  intro ad hs h hR he hl hst
  have hE := okO hc2 (okS_hd (okS_tl (okS_tl hst)))
  obtain ⟨h1, h2⟩ := hR.2.2.2.1 _ _ hc hE
  exact rx_bast (mm_C_mono d) hT hs2 (kArr hR hk hE) (by rw [h1]; exact (gd_in H).1) (k _ (gd_in H).2 ad hs _ (RV_setA hR _ _ hE) he hl (okS_tl (okS_tl (okS_tl hst))))
theorem nx_zast (hT : T pc = some q) {c i : Nat} {x v : Int32} (hs2 : mm_sem W.1 q = mm_bast) (hc : 2000 ≤ c) (hc2 : c < 5000) (hk : nk c = 22) {α : Type} {b : TS → Option α} {Qp : α → Prop} (H : wp (gd x (tL t c i) (nxt (uA t c i x.toNatClampNeg (vp_nar .boolean v)) b)) Qp) (k : ∀ t1, wp (b t1) Qp → nX W d T Q a0 e0 (pc + 1) ls st t1 bc bs) : nX W d T Q a0 e0 pc ls (eI v :: eI x :: eR (some (c, i)) :: st) t bc bs := by
  intro ad hs h hR he hl hst
  have hE := okO hc2 (okS_hd (okS_tl (okS_tl hst)))
  obtain ⟨h1, h2⟩ := hR.2.2.2.1 _ _ hc hE
  exact rx_zast (mm_C_mono d) hT hs2 (kArr hR hk hE) (by rw [h1]; exact (gd_in H).1) (k _ (gd_in H).2 ad hs _ (RV_setA hR _ _ hE) he hl (okS_tl (okS_tl (okS_tl hst))))
theorem nx_last (hT : T pc = some q) {c i : Nat} {x : Int32} {v : Int64} (hs2 : mm_sem W.1 q = mm_last) (hc : 2000 ≤ c) (hc2 : c < 5000) (hk : nk c = 23) {α : Type} {b : TS → Option α} {Qp : α → Prop} (H : wp (gd x (tL t c i) (nxt (uJ t c i x.toNatClampNeg v) b)) Qp) (k : ∀ t1, wp (b t1) Qp → nX W d T Q a0 e0 (pc + 1) ls st t1 bc bs) : nX W d T Q a0 e0 pc ls (eJ v :: eI x :: eR (some (c, i)) :: st) t bc bs := by
  intro ad hs h hR he hl hst
  have hE := okO hc2 (okS_hd (okS_tl (okS_tl hst)))
  obtain ⟨h1, h2⟩ := hR.2.2.2.1 _ _ hc hE
  exact rx_last (mm_C_mono d) hT hs2 (kArr hR hk hE) (by rw [h1]; exact (gd_in H).1) (k _ (gd_in H).2 ad hs _ (RV_setJ hR _ v hE) he hl (okS_tl (okS_tl (okS_tl hst))))
theorem nx_aast (hT : T pc = some q) {c i e : Nat} {x : Int32} {o : Option Nat} (hs2 : mm_sem W.1 q = mm_aast) (hc : 2000 ≤ c) (hc2 : c < 5000) (hk : 23 < nk c) (he2 : ek c = e) (he3 : e < 20) {α : Type} {b : TS → Option α} {Qp : α → Prop} (H : wp (gd x (tL t c i) (nxt (uQ t c i x.toNatClampNeg o) b)) Qp) (k : ∀ t1, wp (b t1) Qp → nX W d T Q a0 e0 (pc + 1) ls st t1 bc bs) : nX W d T Q a0 e0 pc ls (eO e o :: eI x :: eR (some (c, i)) :: st) t bc bs := by
  subst he2
  intro ad hs h hR he hl hst
  have hE := okO hc2 (okS_hd (okS_tl (okS_tl hst)))
  obtain ⟨h1, h2⟩ := hR.2.2.2.1 _ _ hc hE
  have h3 := okO_to (by omega) (okS_hd hst)
  have hk3 := k _ (gd_in H).2 ad hs _ (RV_setQ hR x.toNatClampNeg hE h3) he hl (okS_tl (okS_tl (okS_tl hst)))
  show mm_X _ _ _ _ _ _ (mv ad (eO (ek c) o) :: _) _ _ _ _
  rw [mvO]
  refine rx_aast (mm_C_mono d) hT hs2 (by rw [kArr hR rfl hE]; exact hk) (by rw [h1]; exact (gd_in H).1) (fun b hb => ?_) hk3
  rw [kArr hR rfl hE]
  cases o with
  | none => cases hb
  | some j =>
    have : b = ad (ek c) j := (Option.some.inj hb).symm
    rw [this, kArr hR rfl (h3 j rfl)]
    exact nkO he3
theorem nx_alen (hT : T pc = some q) {p : Nat × Nat} (hs2 : mm_sem W.1 q = mm_alen W.1) (hc : 2000 ≤ p.1) (hc2 : p.1 < 5000) (hk : 19 < nk p.1) (k : nX W d T Q a0 e0 (pc + 1) ls (eI (Int32.ofNat (tL t p.1 p.2)) :: st) t bc bs) : nX W d T Q a0 e0 pc ls (eR (some p) :: st) t bc bs := by
  intro ad hs h hR he hl hst
  have hE := okO hc2 (okS_hd hst)
  obtain ⟨h1, h2⟩ := hR.2.2.2.1 _ _ hc hE
  have hk3 := k ad hs h hR he hl (okS_cons trivial (okS_tl hst))
  refine rx_alen (mm_C_mono d) hT hs2 (by rw [kArr hR rfl hE]; exact hk) ?_
  rw [h1]
  exact hk3
theorem nx_alenZ (hT : T pc = some q) {s n : Nat} (hs2 : mm_sem W.1 q = mm_alen W.1) (hs5 : s < 5) (hn : (mm_sv s).length = n) (k : nX W d T Q a0 e0 (pc + 1) ls (eI (Int32.ofNat n) :: st) t bc bs) : nX W d T Q a0 e0 pc ls (eR (some (5000 + s, 0)) :: st) t bc bs := by
  subst hn
  intro ad hs h hR he hl hst
  obtain ⟨f, hf, hf2⟩ := hR.2.2.2.2.2.1.2 s hs5
  have ha : ad (5000 + s) 0 = W.1.2 s := hR.2.2.2.2.2.1.1 s
  exact rx_alenZ (r := ((mm_sv s).length, f)) (mm_C_mono d) hT hs2 (by show W.1.1 (ad (5000 + s) 0) = _; rw [ha]; exact hf) (k ad hs h hR he hl (okS_cons trivial (okS_tl hst)))
theorem nx_alenT (hT : T pc = some q) (hs2 : mm_sem W.1 q = mm_alen W.1) (k : nX W d T Q a0 e0 (pc + 1) ls (eI 12 :: st) t bc bs) : nX W d T Q a0 e0 pc ls (eR (some (5101, 0)) :: st) t bc bs := by
  intro ad hs h hR he hl hst
  have ha : ad 5101 0 = W.1.2 101 := hR.2.2.2.2.2.1.1 101
  have hk3 := k ad hs h hR he hl (okS_cons trivial (okS_tl hst))
  show mm_X _ _ _ _ _ _ (vR (some (ad 5101 0)) :: _) _ _ _ _
  rw [ha]
  exact rx_alenT (mm_C_mono d) hT hs2 hk3
theorem nx_gsv (hT : T pc = some q) (hs2 : mm_sem W.1 q = mm_gsv W.1) (k : nX W d T Q a0 e0 (pc + 3) ls (eR (some (5101, 0)) :: st) t bc bs) : nX W d T Q a0 e0 pc ls (eR (some (5100, 0)) :: st) t bc bs := by
  intro ad hs h hR he hl hst
  have ha : ad 5101 0 = W.1.2 101 := hR.2.2.2.2.2.1.1 101
  have hb : ad 5100 0 = W.1.2 100 := hR.2.2.2.2.2.1.1 100
  have hk3 := k ad hs h hR he hl (okS_cons (Or.inr ⟨by decide, rfl⟩) (okS_tl hst))
  have hk3 : mm_X _ _ _ _ _ _ (vR (some (ad 5101 0)) :: _) _ _ _ _ := hk3
  show mm_X _ _ _ _ _ _ (vR (some (ad 5100 0)) :: _) _ _ _ _
  rw [hb]
  rw [ha] at hk3
  exact rx_gsv (mm_C_mono d) hT hs2 hk3
theorem nx_gsc (hT : T pc = some q) (hs2 : mm_sem W.1 q = mm_gsc W.1) (k : nX W d T Q a0 e0 (pc + 3) ls (eI 0 :: st) t bc bs) : nX W d T Q a0 e0 pc ls (eR (some (5100, 0)) :: st) t bc bs := by
  intro ad hs h hR he hl hst
  have hb : ad 5100 0 = W.1.2 100 := hR.2.2.2.2.2.1.1 100
  have hk3 := k ad hs h hR he hl (okS_cons trivial (okS_tl hst))
  show mm_X _ _ _ _ _ _ (vR (some (ad 5100 0)) :: _) _ _ _ _
  rw [hb]
  exact rx_gsc (mm_C_mono d) hT hs2 hk3
theorem nx_new (i : Nat) (hT : T pc = some q) {c n : Nat} (hs2 : mm_sem W.1 q = mm_new c n) (hc : c < 20) (hx : ∀ f, f / 100 = c → W.2.2.2 f = false) (h1 : 1 ≤ bc) (h2 : n ≤ bs) {α : Type} {b : TS → Option α} {Qp : α → Prop} (H : wp (gE (tE t c i) (nxt (uO t c i) b)) Qp) (k : ∀ t1, wp (b t1) Qp → nX W d T Q a0 e0 (pc + 3) ls (eR (some (c, i)) :: st) t1 (bc - 1) (bs - n)) : nX W d T Q a0 e0 pc ls st t bc bs := by
  intro ad hs h hR he hl hst
  obtain ⟨hE, H2⟩ := gE_in H
  have hR2 := RV_newO hR hc hE hx
  have he2 : aext ad (tE t) (adn ad c i hs) (uO t c i) := fun k' i' g => ⟨adn_old hE g, tE_keep g⟩
  have hk3 := k _ H2 _ _ _ hR2 (aext_tr he he2) (okL_mono he2 hl) (okS_cons (Or.inl mm_u2_at) (okS_mono he2 hst))
  rw [← mvL_ext hR hR2 he2 hl] at hk3
  have e : (eR (some (c, i)) :: st).map (mv (adn ad c i hs)) = vR (some hs) :: st.map (mv ad) := by
    rw [List.map_cons, ← mvS_ext hR hR2 he2 hst]
    exact congrArg (fun x => vR (some x) :: _) adn_at
  rw [e] at hk3
  exact rx_new (mm_C_mono d) hT hs2 h1 h2 hk3
theorem nx_newa (c i cap : Nat) (hT : T pc = some q) {kd len : Nat} {n : Int32} (hs2 : mm_sem W.1 q = mm_newa kd len) (hc : 2000 ≤ c) (hc2 : c < 5000) (hkd : nk c = kd) (hcap : cap ≤ 1000000) (h1 : 1 ≤ bc) (h2 : cap ≤ bs) {α : Type} {b : TS → Option α} {Qp : α → Prop} (H : wp (gn n cap (gE (tE t c i) (nxt (uN t c i n.toNatClampNeg) b))) Qp) (k : ∀ t1, wp (b t1) Qp → nX W d T Q a0 e0 (pc + len) ls (eR (some (c, i)) :: st) t1 (bc - 1) (bs - n.toNatClampNeg)) : nX W d T Q a0 e0 pc ls (eI n :: st) t bc bs := by
  subst hkd
  intro ad hs h hR he hl hst
  obtain ⟨hn, H1⟩ := gn_in H
  obtain ⟨hE, H2⟩ := gE_in H1
  have hst := okS_tl hst
  have hR2 := RV_newA hR n.toNatClampNeg hc hc2 hE
  have he2 : aext ad (tE t) (adn ad c i hs) (uN t c i n.toNatClampNeg) := fun k' i' g => ⟨adn_old hE g, tE_keep g⟩
  have hk3 := k _ H2 _ _ _ hR2 (aext_tr he he2) (okL_mono he2 hl) (okS_cons (Or.inl mm_u2_at) (okS_mono he2 hst))
  rw [← mvL_ext hR hR2 he2 hl] at hk3
  have e : (eR (some (c, i)) :: st).map (mv (adn ad c i hs)) = vR (some hs) :: st.map (mv ad) := by
    rw [List.map_cons, ← mvS_ext hR hR2 he2 hst]
    exact congrArg (fun x => vR (some x) :: _) adn_at
  rw [e] at hk3
  exact rx_newa (mm_C_mono d) hT hs2 hn.1 rfl (by omega) h1 (by omega) hk3
theorem nx_objI (hT : T pc = some q) {p : Nat × Nat} (hs2 : mm_sem W.1 q = mm_objI) (hl4 : st.length ≤ 4) (k : nX W d T Q a0 e0 (pc + 3) ls st t bc bs) : nX W d T Q a0 e0 pc ls (eR (some p) :: st) t bc bs := fun ad hs h hR he hl hst => rx_objI (mm_C_mono d) hT hs2 (by rw [List.length_map]; exact hl4) (k ad hs h hR he hl (okS_tl hst))
theorem nx_ext2 (hT : T pc = some q) {f : Int32 → Int32 → Int32} {x y : Int32} (hs2 : mm_sem W.1 q = mm_ext2 f) (hl4 : st.length ≤ 4) (k : nX W d T Q a0 e0 (pc + 3) ls (eI (f x y) :: st) t bc bs) : nX W d T Q a0 e0 pc ls (eI y :: eI x :: st) t bc bs := fun ad hs h hR he hl hst => rx_ext2 (mm_C_mono d) hT hs2 (by rw [List.length_map]; exact hl4) (k ad hs h hR he hl (okS_cons trivial (okS_tl (okS_tl hst))))
def gc {α : Type} (n i j : Int32) (la lb : Nat) (k : Option α) : Option α := if n < 0 ∨ i < 0 ∨ j < 0 ∨ la < i.toNatClampNeg + n.toNatClampNeg ∨ lb < j.toNatClampNeg + n.toNatClampNeg then none else k
theorem gc_in {α : Type} {n i j : Int32} {la lb : Nat} {k : Option α} {Q : α → Prop} (H : wp (gc n i j la lb k) Q) : (¬ n < 0 ∧ ¬ i < 0 ∧ ¬ j < 0 ∧ i.toNatClampNeg + n.toNatClampNeg ≤ la ∧ j.toNatClampNeg + n.toNatClampNeg ≤ lb) ∧ wp k Q := by
  unfold gc at H
  by_cases e : n < 0 ∨ i < 0 ∨ j < 0 ∨ la < i.toNatClampNeg + n.toNatClampNeg ∨ lb < j.toNatClampNeg + n.toNatClampNeg
  · rw [if_pos e] at H; exact (wp_none H).elim
  · rw [if_neg e] at H
    refine ⟨⟨fun g => e (Or.inl g), fun g => e (Or.inr (Or.inl g)), fun g => e (Or.inr (Or.inr (Or.inl g))), Nat.not_lt.mp (fun g => e (Or.inr (Or.inr (Or.inr (Or.inl g))))), Nat.not_lt.mp (fun g => e (Or.inr (Or.inr (Or.inr (Or.inr g)))))⟩, H⟩
def gf {α : Type} (f : Nat → Int32) (n : Nat) (k : Option α) : Option α := if (List.range n).all (fun t => decide (-128 ≤ f t ∧ f t ≤ 127)) = true then k else none
theorem gf_in {α : Type} {f : Nat → Int32} {n : Nat} {k : Option α} {Q : α → Prop} (H : wp (gf f n k) Q) : (∀ t, t < n → -128 ≤ f t ∧ f t ≤ 127) ∧ wp k Q := by
  unfold gf at H
  by_cases e : (List.range n).all (fun t => decide (-128 ≤ f t ∧ f t ≤ 127)) = true
  · rw [if_pos e] at H
    exact ⟨fun t ht => of_decide_eq_true (List.all_eq_true.mp e t (List.mem_range.mpr ht)), H⟩
  · rw [if_neg e] at H; exact (wp_none H).elim
theorem nx_copA (hT : T pc = some q) {c1 i1 c2 i2 : Nat} {i j n : Int32} (hs2 : mm_sem W.1 q = mm_copy) (hl4 : st.length ≤ 4) (ha : 2000 ≤ c1) (ha2 : c1 < 5000) (ha3 : nk c1 = 21) (hb : 2000 ≤ c2) (hb2 : c2 < 5000) (hb3 : nk c2 = 21) {α : Type} {b : TS → Option α} {Qp : α → Prop} (H : wp (gc n i j (tL t c1 i1) (tL t c2 i2) (gf (fun x => tA t c1 i1 (i.toNatClampNeg + x)) n.toNatClampNeg (nxt (uCA t c1 i1 i.toNatClampNeg c2 i2 j.toNatClampNeg n.toNatClampNeg) b))) Qp) (k : ∀ t1, wp (b t1) Qp → nX W d T Q a0 e0 (pc + 3) ls st t1 bc bs) : nX W d T Q a0 e0 pc ls (eI n :: eI j :: eR (some (c2, i2)) :: eI i :: eR (some (c1, i1)) :: st) t bc bs := by
  intro ad hs h hR he hl hst
  obtain ⟨⟨g1, g2, g3, g4, g5⟩, H2⟩ := gc_in H
  obtain ⟨g6, H3⟩ := gf_in H2
  have e2 := okO hb2 (okS_hd (okS_tl (okS_tl hst)))
  have e1 := okO ha2 (okS_hd (okS_tl (okS_tl (okS_tl (okS_tl hst)))))
  obtain ⟨l1, f1⟩ := hR.2.2.2.1 _ _ ha e1
  obtain ⟨l2, -⟩ := hR.2.2.2.1 _ _ hb e2
  refine rx_copA (mm_C_mono d) hT hs2 (by rw [List.length_map]; exact hl4) g1 g2 g3 (by rw [l1]; exact g4) (by rw [l2]; exact g5) (kArr hR ha3 e1) (kArr hR hb3 e2) (fun t ht => ?_) (k _ H3 ad hs _ (RV_cpA hR _ _ _ ha e1 hb e2) he hl (okS_tl (okS_tl (okS_tl (okS_tl (okS_tl hst))))))
  rw [(f1 _).1]
  have := g6 t ht
  simpa [fits] using this
theorem nx_copJ (hT : T pc = some q) {c1 i1 c2 i2 : Nat} {i j n : Int32} (hs2 : mm_sem W.1 q = mm_copy) (hl4 : st.length ≤ 4) (ha : 2000 ≤ c1) (ha2 : c1 < 5000) (ha3 : nk c1 = 23) (hb : 2000 ≤ c2) (hb2 : c2 < 5000) (hb3 : nk c2 = 23) {α : Type} {b : TS → Option α} {Qp : α → Prop} (H : wp (gc n i j (tL t c1 i1) (tL t c2 i2) (nxt (uCJ t c1 i1 i.toNatClampNeg c2 i2 j.toNatClampNeg n.toNatClampNeg) b)) Qp) (k : ∀ t1, wp (b t1) Qp → nX W d T Q a0 e0 (pc + 3) ls st t1 bc bs) : nX W d T Q a0 e0 pc ls (eI n :: eI j :: eR (some (c2, i2)) :: eI i :: eR (some (c1, i1)) :: st) t bc bs := by
  intro ad hs h hR he hl hst
  obtain ⟨⟨g1, g2, g3, g4, g5⟩, H2⟩ := gc_in H
  have e2 := okO hb2 (okS_hd (okS_tl (okS_tl hst)))
  have e1 := okO ha2 (okS_hd (okS_tl (okS_tl (okS_tl (okS_tl hst)))))
  obtain ⟨l1, f1⟩ := hR.2.2.2.1 _ _ ha e1
  obtain ⟨l2, -⟩ := hR.2.2.2.1 _ _ hb e2
  exact rx_copJ (mm_C_mono d) hT hs2 (by rw [List.length_map]; exact hl4) g1 g2 g3 (by rw [l1]; exact g4) (by rw [l2]; exact g5) (kArr hR ha3 e1) (kArr hR hb3 e2) (k _ H2 ad hs _ (RV_cpJ hR _ _ _ ha e1 hb e2) he hl (okS_tl (okS_tl (okS_tl (okS_tl (okS_tl hst))))))
/-- switches: what each way asks -/
def swK {α : Type} (K : Nat → Prop) (Qp : α → Prop) (pc : Nat) : List Int → List (Option α) → Prop
  | o :: os, b :: bs => (wp b Qp → K ((pc : Int) + o).toNat) ∧ swK K Qp pc os bs
  | [], [] => True
  | _, _ => False
theorem tsw_of {α : Type} {K : Nat → Prop} {Qp : α → Prop} {pc : Nat} {x : Int32} {df : Option α} : ∀ (os : List Int) (bs : List (Option α)) (lo : Int), -2147483648 ≤ lo → lo + os.length < 2147483648 → wp (swi x lo bs df) Qp → swK K Qp pc os bs → mm_tsw1 K x pc lo os ∧ ((x.toInt < lo ∨ lo + os.length ≤ x.toInt) → wp df Qp)
  | [], [], lo, _, _, H, _ => ⟨trivial, fun _ => H⟩
  | o :: os, b :: bs, lo, h1, h2, H, hk => by
    have h3 : (Int32.ofInt lo).toInt = lo := Int32.toInt_ofInt_of_le (by omega) (by simp only [List.length_cons] at h2; omega)
    simp only [List.length_cons] at h2 ⊢
    unfold swi at H
    by_cases e : x = Int32.ofInt lo
    · rw [if_pos e] at H
      have ex : x.toInt = lo := by rw [e]; exact h3
      refine ⟨⟨fun _ => hk.1 H, ?_⟩, fun g => by omega⟩
      have h4 : ∀ (os : List Int) (m : Int), lo < m → mm_tsw1 K x pc m os := by
        intro os
        induction os with
        | nil => intro m _; trivial
        | cons o os ih => intro m hm; exact ⟨fun g => by omega, ih (m + 1) (by omega)⟩
      exact h4 os (lo + 1) (by omega)
    · rw [if_neg e] at H
      have ex : ¬ x.toInt = lo := fun g => e (Int32.toInt_inj.mp (g.trans h3.symm))
      obtain ⟨h5, h6⟩ := tsw_of os bs (lo + 1) (by omega) (by omega) H hk.2
      exact ⟨⟨fun g => absurd g ex, h5⟩, fun g => h6 (by omega)⟩
  | [], _ :: _, _, _, _, _, hk => hk.elim
  | _ :: _, [], _, _, _, _, hk => hk.elim
theorem mm_tsw1_mono {K K' : Nat → Prop} {x : Int32} {pc : Nat} (hK : ∀ n, K n → K' n) : ∀ (os : List Int) (lo : Int), mm_tsw1 K x pc lo os → mm_tsw1 K' x pc lo os
  | [], _, _ => trivial
  | _ :: os, lo, h => ⟨fun g => hK _ (h.1 g), mm_tsw1_mono hK os (lo + 1) h.2⟩
theorem nx_tsw (hT : T pc = some q) {x : Int32} {dd lo hi : Int} {os : Array Int} (hs2 : mm_sem W.1 q = mm_tsw dd lo hi os) (h1 : -2147483648 ≤ lo) (h2 : lo + os.toList.length < 2147483648) (h3 : lo + os.toList.length = hi + 1) {α : Type} {bs2 : List (Option α)} {df : Option α} {Qp : α → Prop} (H : wp (swi x lo bs2 df) Qp) (kd : wp df Qp → nX W d T Q a0 e0 ((pc : Int) + dd).toNat ls st t bc bs) (k : swK (fun tg => nX W d T Q a0 e0 tg ls st t bc bs) Qp pc os.toList bs2) : nX W d T Q a0 e0 pc ls (eI x :: st) t bc bs := by
  intro ad hs h hR he hl hst
  obtain ⟨g1, g2⟩ := tsw_of os.toList bs2 lo h1 h2 H k
  exact rx_tsw (mm_C_mono d) hT hs2 (fun g => kd (g2 (by omega)) ad hs h hR he hl (okS_tl hst)) (mm_tsw1_mono (fun n g => g ad hs h hR he hl (okS_tl hst)) _ _ g1)
def swLK {α : Type} (K : Nat → Prop) (Qp : α → Prop) (pc : Nat) : List (Int × Int) → List (Int × Option α) → Prop
  | o :: os, b :: bs => o.1 = b.1 ∧ -2147483648 ≤ o.1 ∧ o.1 < 2147483648 ∧ (wp b.2 Qp → K ((pc : Int) + o.2).toNat) ∧ swLK K Qp pc os bs
  | [], [] => True
  | _, _ => False
theorem lsw_of {α : Type} {K : Nat → Prop} {Qp : α → Prop} {pc : Nat} {dd : Int} {x : Int32} {df : Option α} (kd : wp df Qp → K ((pc : Int) + dd).toNat) : ∀ (os : List (Int × Int)) (bs : List (Int × Option α)), wp (swl x bs df) Qp → swLK K Qp pc os bs → mm_lsw1 K x pc dd os
  | [], [], H, _ => kd H
  | o :: os, b :: bs, H, hk => by
    obtain ⟨h0, h1, h2, h3, h4⟩ := hk
    have h5 : (Int32.ofInt o.1).toInt = o.1 := Int32.toInt_ofInt_of_le (by omega) (by omega)
    unfold swl at H
    rw [← h0] at H
    by_cases e : x = Int32.ofInt o.1
    · rw [if_pos e] at H
      have ex : x.toInt = o.1 := by rw [e]; exact h5
      exact ⟨fun _ => h3 H, fun g => absurd ex g⟩
    · rw [if_neg e] at H
      have ex : ¬ x.toInt = o.1 := fun g => e (Int32.toInt_inj.mp (g.trans h5.symm))
      exact ⟨fun g => absurd g ex, fun _ => lsw_of kd os bs H h4⟩
  | [], _ :: _, _, hk => hk.elim
  | _ :: _, [], _, hk => hk.elim
theorem mm_lsw1_mono {K K' : Nat → Prop} {x : Int32} {pc : Nat} {dd : Int} (hK : ∀ n, K n → K' n) : ∀ (os : List (Int × Int)), mm_lsw1 K x pc dd os → mm_lsw1 K' x pc dd os
  | [], h => hK _ h
  | _ :: os, h => ⟨fun g => hK _ (h.1 g), fun g => mm_lsw1_mono hK os (h.2 g)⟩
theorem nx_lsw (hT : T pc = some q) {x : Int32} {dd : Int} {os : Array (Int × Int)} (hs2 : mm_sem W.1 q = mm_lsw dd os) {α : Type} {bs2 : List (Int × Option α)} {df : Option α} {Qp : α → Prop} (H : wp (swl x bs2 df) Qp) (kd : wp df Qp → nX W d T Q a0 e0 ((pc : Int) + dd).toNat ls st t bc bs) (k : swLK (fun tg => nX W d T Q a0 e0 tg ls st t bc bs) Qp pc os.toList bs2) : nX W d T Q a0 e0 pc ls (eI x :: st) t bc bs := by
  intro ad hs h hR he hl hst
  exact rx_lsw (mm_C_mono d) hT hs2 (mm_lsw1_mono (fun n g => g ad hs h hR he hl (okS_tl hst)) _ (lsw_of (K := fun tg => nX W d T Q a0 e0 tg ls st t bc bs) kd _ _ H k))
/-! calls -/
theorem nx_call0 {as st' : List NV} {x c1 s1 : Nat} {Q1 : Option NV → TS → Prop} (hok : okS t as) (hok' : okS t st') {ad : Nat → Nat → Nat} {hs : Nat} {h : Hp} (hR : RV W ad t hs h) (he : aext a0 e0 ad t) (hl : okL t ls) (hC : nC W d x as t c1 s1 Q1) (K : ∀ r t', Q1 r t' → nX W d T Q a0 e0 (pc + 3) ls (r.toList ++ st') t' (bc - c1) (bs - s1)) : mm_C W.1 mm_mL mm_P d x (as.map (mv ad)) hs h c1 s1 (fun r hs' h' => mm_X W.1 (mm_C W.1 mm_mL mm_P d) T (nQ W a0 e0 Q) (pc + 3) (ls.map (mo ad)) (r.toList ++ st'.map (mv ad)) hs' h' (bc - c1) (bs - s1)) := by
  refine mm_C_mono d _ _ _ _ _ _ _ _ (fun r hs' h' g => ?_) (hC ad hs h hR hok)
  obtain ⟨ad', t', r', g1, g2, g3, rfl, g5⟩ := g
  have hk := K r' t' g5 ad' hs' h' g1 (aext_tr he g2) (okL_mono g2 hl) (by
    intro v hv
    rcases List.mem_append.mp hv with e | e
    · exact g3 v (Option.mem_toList.mp e)
    · exact okS_mono g2 hok' v e)
  rw [mvL_ext hR g1 g2 hl, mvS_ext hR g1 g2 hok']
  have e : (r'.toList ++ st').map (mv ad') = (mo ad' r').toList ++ st'.map (mv ad') := by
    rw [List.map_append]
    cases r' <;> rfl
  rw [← e]
  exact hk
def nn_sh (st : List NV) : Prop := st.length ≤ 4 ∨ (st.length ≤ 8 ∧ ∀ v ∈ st, ∀ x, ¬ v = eJ x)
theorem nn_sh_mm {ad : Nat → Nat → Nat} {st : List NV} (h : nn_sh st) : mm_sh (st.map (mv ad)) := by
  rcases h with h | ⟨h1, h2⟩
  · exact Or.inl (by rw [List.length_map]; exact h)
  · refine Or.inr ⟨by rw [List.length_map]; exact h1, fun w hw => ?_⟩
    obtain ⟨v, hv, rfl⟩ := List.mem_map.mp hw
    rcases v with x | x | x
    · show ¬ (0 = 1)
      decide
    · exact absurd rfl (h2 _ hv x)
    · show ¬ (2 = 1)
      decide
theorem nx_call (hT : T pc = some q) {x y c1 s1 : Nat} {as st' : List NV} (hs2 : mm_sem W.1 q = mm_call x y) (hy : y ≤ st.length) (ha : (st.take y).reverse = as) (hr : st.drop y = st') (hl4 : st'.length ≤ 4) (h1 : c1 ≤ bc) (h2 : s1 ≤ bs) {Q1 : Option NV → TS → Prop} (hC : nC W d x as t c1 s1 Q1) (K : ∀ r t', Q1 r t' → nX W d T Q a0 e0 (pc + 3) ls (r.toList ++ st') t' (bc - c1) (bs - s1)) : nX W d T Q a0 e0 pc ls st t bc bs := by
  intro ad hs h hR he hl hst
  refine rx_call (as := as.map (mv ad)) (st' := st'.map (mv ad)) (mm_C_mono d) hT hs2 (by rw [List.length_map]; exact hy) (by rw [← ha, List.map_reverse, List.map_take]) (by rw [← hr, List.map_drop]) (Or.inl (by rw [List.length_map]; exact hl4)) h1 h2 ?_
  refine nx_call0 ?_ ?_ hR he hl hC K
  · subst ha
    exact fun v hv => hst v (List.mem_of_mem_take (List.mem_reverse.mp hv))
  · subst hr
    exact fun v hv => hst v (List.mem_of_mem_drop hv)
theorem nx_callV (hT : T pc = some q) {x y c1 s1 c i : Nat} {v : Int} {as st' : List NV} (hs2 : mm_sem W.1 q = mm_callV x y v) (hy : y ≤ st.length) (ha : (st.take y).reverse = eR (some (c, i)) :: as) (hr : st.drop y = st') (hl4 : nn_sh st') (hv : v = (c : Int)) (hc : c < 20) (h1 : c1 ≤ bc) (h2 : s1 ≤ bs) {Q1 : Option NV → TS → Prop} (hC : nC W d x (eR (some (c, i)) :: as) t c1 s1 Q1) (K : ∀ r t', Q1 r t' → nX W d T Q a0 e0 (pc + 3) ls (r.toList ++ st') t' (bc - c1) (bs - s1)) : nX W d T Q a0 e0 pc ls st t bc bs := by
  intro ad hs h hR he hl hst
  have hoka : okS t (eR (some (c, i)) :: as) := by
    rw [← ha]
    exact fun v hv => hst v (List.mem_of_mem_take (List.mem_reverse.mp hv))
  have hE := okO (by omega) (okS_hd hoka)
  refine rx_callV (as := as.map (mv ad)) (st' := st'.map (mv ad)) (a := ad c i) (kd := c + 1) (mm_C_mono d) hT hs2 (by rw [List.length_map]; exact hy) (by rw [← List.map_take, ← List.map_reverse, ha]; rfl) (by rw [← hr, List.map_drop]) (nn_sh_mm hl4) (by rw [hv]; rfl) ((kArr hR rfl hE).trans (nkO hc)) h1 h2 ?_
  refine nx_call0 (as := eR (some (c, i)) :: as) hoka ?_ hR he hl hC K
  subst hr
  exact fun v hv => hst v (List.mem_of_mem_drop hv)
theorem nx_callT (hT : T pc = some q) {x y c1 s1 : Nat} {as st' : List NV} (hs2 : mm_sem W.1 q = mm_callT W.1 x y) (hy : y ≤ st.length) (ha : (st.take y).reverse = eR (some (5100, 0)) :: as) (hr : st.drop y = st') (hl4 : st'.length ≤ 4) (h1 : c1 ≤ bc) (h2 : s1 ≤ bs) {Q1 : Option NV → TS → Prop} (hC : nC W d x (eR (some (5100, 0)) :: as) t c1 s1 Q1) (K : ∀ r t', Q1 r t' → nX W d T Q a0 e0 (pc + 3) ls (r.toList ++ st') t' (bc - c1) (bs - s1)) : nX W d T Q a0 e0 pc ls st t bc bs := by
  intro ad hs h hR he hl hst
  have hoka : okS t (eR (some (5100, 0)) :: as) := by
    rw [← ha]
    exact fun v hv => hst v (List.mem_of_mem_take (List.mem_reverse.mp hv))
  have hb : ad 5100 0 = W.1.2 100 := hR.2.2.2.2.2.1.1 100
  have e : (eR (some (5100, 0)) :: as).map (mv ad) = vR (some (W.1.2 100)) :: as.map (mv ad) := congrArg (fun x => vR (some x) :: as.map (mv ad)) hb
  refine rx_callT (as := as.map (mv ad)) (st' := st'.map (mv ad)) (mm_C_mono d) hT hs2 (by rw [List.length_map]; exact hy) (by rw [← List.map_take, ← List.map_reverse, ha]; exact e) (by rw [← hr, List.map_drop]) (Or.inl (by rw [List.length_map]; exact hl4)) h1 h2 ?_
  rw [← e]
  refine nx_call0 (as := eR (some (5100, 0)) :: as) hoka ?_ hR he hl hC K
  subst hr
  exact fun v hv => hst v (List.mem_of_mem_drop hv)
/-! ends -/
theorem nx_ret {W : NW} {ad : Nat → Nat → Nat} {t : TS} {hs : Nat} {h : Hp} {a0 : Nat → Nat → Nat} {e0 : Nat → Nat → Bool} (hR : RV W ad t hs h) (he : aext a0 e0 ad t) {r : Option NV} (hr : ∀ v, r = some v → okv t v) {Q : Option NV → TS → Prop} (hQ : Q r t) : nQ W a0 e0 Q (mo ad r) hs h := ⟨ad, t, r, hR, he, hr, rfl, hQ⟩
theorem nx_iret (hT : T pc = some q) {v : Int32} (hs2 : mm_sem W.1 q = mm_iret 0) (k : Q (some (eI v)) t) : nX W d T Q a0 e0 pc ls [eI v] t bc bs := fun ad hs h hR he hl hst => rx_iret (mm_C_mono d) hT hs2 (nx_ret hR he (r := some (eI v)) (fun w e => by cases e; trivial) k)
theorem nx_zret (hT : T pc = some q) {v : Int32} (hs2 : mm_sem W.1 q = mm_iret 1) {α : Type} {b : Option α} {Qp : α → Prop} (H : wp (gb v b) Qp) (k : wp b Qp → Q (some (eI v)) t) : nX W d T Q a0 e0 pc ls [eI v] t bc bs := fun ad hs h hR he hl hst => rx_zret (mm_C_mono d) hT hs2 (gb_in H).1 (nx_ret hR he (r := some (eI v)) (fun w e => by cases e; trivial) (k (gb_in H).2))
theorem nx_zretL (hT : T pc = some q) {v : Int32} (hs2 : mm_sem W.1 q = mm_iret 1) (hv : v = 0 ∨ v = 1) (k : Q (some (eI v)) t) : nX W d T Q a0 e0 pc ls [eI v] t bc bs := fun ad hs h hR he hl hst => rx_zret (mm_C_mono d) hT hs2 hv (nx_ret hR he (r := some (eI v)) (fun w e => by cases e; trivial) k)
theorem nx_bretL (hT : T pc = some q) {v : Int32} (hs2 : mm_sem W.1 q = mm_iret 2) (hv : v.toInt8.toInt32 = v) (k : Q (some (eI v)) t) : nX W d T Q a0 e0 pc ls [eI v] t bc bs := fun ad hs h hR he hl hst => rx_bret (mm_C_mono d) hT hs2 hv (nx_ret hR he (r := some (eI v)) (fun w e => by cases e; trivial) k)
theorem nx_lret (hT : T pc = some q) {v : Int64} (hs2 : mm_sem W.1 q = mm_lret) (k : Q (some (eJ v)) t) : nX W d T Q a0 e0 pc ls [eJ v] t bc bs := fun ad hs h hR he hl hst => rx_lret (mm_C_mono d) hT hs2 (nx_ret hR he (r := some (eJ v)) (fun w e => by cases e; trivial) k)
theorem nx_aret (hT : T pc = some q) {o : Option (Nat × Nat)} (hs2 : mm_sem W.1 q = mm_aret) (k : Q (some (eR o)) t) : nX W d T Q a0 e0 pc ls [eR o] t bc bs := fun ad hs h hR he hl hst => rx_aret (mm_C_mono d) hT hs2 (nx_ret hR he (r := some (eR o)) (fun w e => by cases e; exact okS_hd hst) k)
theorem nx_vret (hT : T pc = some q) (hs2 : mm_sem W.1 q = mm_vret) (k : Q none t) : nX W d T Q a0 e0 pc ls [] t bc bs := fun ad hs h hR he hl hst => rx_vret (mm_C_mono d) hT hs2 (nx_ret hR he (r := none) (fun w e => by cases e) k)
end NH
