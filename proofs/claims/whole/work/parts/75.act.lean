/-! PART 75: acts, the class's side. -/
section
variable {t : TS} {b own c : Nat} {bn w l : Int32}
def ow (k a : Nat) : Nat := ([0, 0, 0, 0, 1, 0, 0, 0, 1, 2, 0, 2, 3, 2, 3, 2, 1, 4, 0, 2, 0, 5, 5, 0, 1, 0, 0, 6, 0, 7, 5, 0] : List Nat).getD (4 * k + a) 0
def nuM (k a : Nat) : Int32 := (mm_sv 4).getD (4 * ow k a + a) 0
def abV (k a : Nat) : Int32 := (mm_sv 0).getD (ow k a) 0
def cR (t : TS) (v : Int32) : TS := uI (if Int32.ofNat 24 ≤ tI t 1 0 then t else uA t 2000 0 (tI t 1 0).toNatClampNeg v) 1 0 (tI t 1 0 + 1)
def cOk (b own : Nat) (bn w l : Int32) (c : Nat) (t : TS) : Prop := Ilen t ∧ tI t 1 0 = nt c ∧ tI t 101 b = nt own ∧ tI t 100 b = bn ∧ tI t 106 b = w ∧ tI t 102 b = l
theorem cR_f {v : Int32} : frm (ks [1, 2000]) t (cR t v) := by
  unfold cR
  by_cases h : Int32.ofNat 24 ≤ tI t 1 0
  · rw [if_pos h]; exact frm_uI rfl
  · rw [if_neg h]; exact frm_tr (frm_uA rfl) (frm_uI rfl)
theorem cOk_R {v : Int32} (h : cOk b own bn w l c t) : cOk b own bn w l (c + 1) (cR t v) := by
  obtain ⟨h1, h2, h3, h4, h5, h6⟩ := h
  have f := cR_f (t := t) (v := v)
  refine ⟨Ilen_f f h1, ?_, by rw [(f.1 101 rfl).2.1, h3], by rw [(f.1 100 rfl).2.1, h4], by rw [(f.1 106 rfl).2.1, h5], by rw [(f.1 102 rfl).2.1, h6]⟩
  unfold cR
  rw [I_uI, m1_s, h2, nt_succ]
theorem cOk_L : ∀ (L : List Int32) {t : TS} {c : Nat}, cOk b own bn w l c t → cOk b own bn w l (c + L.length) (L.foldl cR t)
  | [], _, _, h => h
  | v :: L, t, c, h => by
    have := cOk_L L (cOk_R (v := v) h)
    rw [show c + 1 + L.length = c + (v :: L).length by rw [List.length_cons]; omega] at this
    exact this
theorem own_loop {g : Nat → TS → (Option Nat) → Int32 → Int32 → Int32 → Int32 → Option (Int32 × TS)} {x e : Int32} {o : Option Nat} (N k a : Nat) (hk : k < 8) (ha : a < 4) : B_X0_perform_3 g (N + 5) t o (nt a) x e (nt k) = B_X0_perform_32 g t o (nt a) x e (nt (ow k a)) := by
  have hk' : k = 0 ∨ k = 1 ∨ k = 2 ∨ k = 3 ∨ k = 4 ∨ k = 5 ∨ k = 6 ∨ k = 7 := by omega
  have ha' : a = 0 ∨ a = 1 ∨ a = 2 ∨ a = 3 := by omega
  rcases hk' with rfl | rfl | rfl | rfl | rfl | rfl | rfl | rfl <;> rcases ha' with rfl | rfl | rfl | rfl <;> rfl
theorem ow_le : ∀ k, k < 8 → ∀ a, a < 4 → ow k a < 8 := by decide
theorem perf_step {n k a e : Nat} {x : Int32} (h : cOk b own bn w l c t) (hc : c < 1000) (hk : k < 8) (ha : a < 4) (he : e < 40) : G_X0_perform (n + 2) 0 t (some b) (nt k) (nt a) x (nt e) = Fb_X0_run (G_X0_perform n) (cR t (nuM k a)) (some b) (nuM k a) (abV k a) x (nt (e + 1)) := by
  obtain ⟨h1, h2, -⟩ := h
  rw [GS_X0_perform]
  unfold Fb_X0_perform
  obtain ⟨N, hN⟩ : ∃ N : Nat, 10000 = N + 5 := ⟨9995, rfl⟩
  rw [hN, own_loop N k a hk ha]
  have ho := ow_le k hk a ha
  have l4 : (mm_sv 4).length = 32 := rfl
  have l0 : (mm_sv 0).length = 8 := rfl
  have e0 : (4 : Int32) * nt (ow k a) + nt a = nt (4 * ow k a + a) := by rw [show (4 : Int32) = nt 4 from rfl, nt_mul, nt_add]
  have e40 : (nt e < (40 : Int32)) = (e < 40) := lt_nt (n := 40) (by omega) (by omega)
  have hob : ∀ m : Option (Int32 × TS), ob2 m (fun x23 t24 => some (x23, t24)) = m := fun m => by cases m <;> rfl
  unfold B_X0_perform_32 B_X0_perform_81
  rw [if_neg (nt_neg (by omega)), e0, l4, l0, (show tL _ 2000 0 = 24 from h1 2000 rfl)]
  simp (disch := omega) only [e40, gd_nt, nt_cl, h2, nxt_e, oc_s, oc_n, ob_s, ob2_s, gb_b1, gb_0, gb_1, gw0, gw1, nt_succ, hob, GS_X0_run, he, Bool.false_eq_true, Bool.true_eq_false, if_true, if_false, not_true_eq_false, not_false_eq_true]
  unfold cR nuM abV
  have l24 : (Int32.ofNat 24 ≤ nt c) = (24 ≤ c) := ge_nt (n := 24) (by omega) (by omega)
  rw [h2, nt_cl (by omega), nt_succ]
  simp only [l24]
  by_cases g : 24 ≤ c
  · rw [if_pos g, if_pos g]
  · rw [if_neg g, if_neg g, gd_nt _ (by omega) (by omega), show tI (uA t 2000 0 c ((mm_sv 4).getD (4 * ow k a + a) 0)) 1 0 = tI t 1 0 from rfl, h2, nt_succ]
theorem run_1 {g : Nat → TS → (Option Nat) → Int32 → Int32 → Int32 → Int32 → Option (Int32 × TS)} {ab x e : Int32} : Fb_X0_run g t (some b) 1 ab x e = some (x - tI t 100 b, t) := rfl
theorem run_2 {g : Nat → TS → (Option Nat) → Int32 → Int32 → Int32 → Int32 → Option (Int32 × TS)} {ab x e : Int32} : Fb_X0_run g t (some b) 2 ab x e = ob2 (g 0 t (some b) (tI t 101 b) (nt 1) x e) (fun y u => ob2 (g 0 u (some b) (tI t 101 b) (nt 2) y e) (fun z v => some (z, v))) := rfl
theorem run_10 {g : Nat → TS → (Option Nat) → Int32 → Int32 → Int32 → Int32 → Option (Int32 × TS)} {ab x e : Int32} : Fb_X0_run g t (some b) 10 ab x e = ob2 (g 0 t (some b) (tI t 101 b) (nt 0) x e) (fun y u => some (y + 4, u)) := rfl
theorem run_11 {g : Nat → TS → (Option Nat) → Int32 → Int32 → Int32 → Int32 → Option (Int32 × TS)} {ab x e : Int32} : Fb_X0_run g t (some b) 11 ab x e = some (x ^^^ tI t 100 b, t) := rfl
theorem run_20 {g : Nat → TS → (Option Nat) → Int32 → Int32 → Int32 → Int32 → Option (Int32 × TS)} {ab x e : Int32} : Fb_X0_run g t (some b) 20 ab x e = ob2 (g 0 t (some b) ab (nt 0) x e) (fun y u => some (y * 2, u)) := rfl
theorem run_30 {g : Nat → TS → (Option Nat) → Int32 → Int32 → Int32 → Int32 → Option (Int32 × TS)} {ab x e : Int32} : Fb_X0_run g t (some b) 30 ab x e = ob2 (g 0 t (some b) ab (nt 1) x e) (fun y u => some (y - tI u 106 b, u)) := rfl
theorem run_31 {g : Nat → TS → (Option Nat) → Int32 → Int32 → Int32 → Int32 → Option (Int32 × TS)} {ab x e : Int32} : Fb_X0_run g t (some b) 31 ab x e = ob2 (g 0 t (some b) (nt 0) (nt 3) x e) (fun y u => some (y + 1, u)) := rfl
theorem run_40 {g : Nat → TS → (Option Nat) → Int32 → Int32 → Int32 → Int32 → Option (Int32 × TS)} {ab x e : Int32} : Fb_X0_run g t (some b) 40 ab x e = ob2 (g 0 t (some b) ab (nt 0) (x + 1) e) (fun y u => some (y, u)) := rfl
theorem run_41 {g : Nat → TS → (Option Nat) → Int32 → Int32 → Int32 → Int32 → Option (Int32 × TS)} {ab x e : Int32} : Fb_X0_run g t (some b) 41 ab x e = ob2 (g 0 t (some b) ab (nt 2) x e) (fun y u => ob2 (g 0 u (some b) (tI t 101 b) (nt 0) 0 e) (fun z v => some (y + z, v))) := rfl
theorem run_50 {g : Nat → TS → (Option Nat) → Int32 → Int32 → Int32 → Int32 → Option (Int32 × TS)} {ab x e : Int32} : Fb_X0_run g t (some b) 50 ab x e = ob2 (g 0 t (some b) ab (nt 1) x e) (fun y u => some (y * 3, u)) := rfl
theorem run_60 {g : Nat → TS → (Option Nat) → Int32 → Int32 → Int32 → Int32 → Option (Int32 × TS)} {ab x e : Int32} : Fb_X0_run g t (some b) 60 ab x e = ob2 (g 0 t (some b) ab (nt 2) x e) (fun y u => some (-y, u)) := rfl
theorem run_61 {g : Nat → TS → (Option Nat) → Int32 → Int32 → Int32 → Int32 → Option (Int32 × TS)} {ab x e : Int32} : Fb_X0_run g t (some b) 61 ab x e = ob2 (g 0 t (some b) ab (nt 1) x e) (fun y u => some (y ^^^ tI u 102 b, u)) := rfl
theorem run_70 {g : Nat → TS → (Option Nat) → Int32 → Int32 → Int32 → Int32 → Option (Int32 × TS)} {ab x e : Int32} : Fb_X0_run g t (some b) 70 ab x e = ob2 (g 0 t (some b) ab (nt 3) x e) (fun y u => ob2 (g 0 u (some b) (tI t 101 b) (nt 0) 1 e) (fun z v => some (y - z, v))) := rfl
theorem run_80 {g : Nat → TS → (Option Nat) → Int32 → Int32 → Int32 → Int32 → Option (Int32 × TS)} {ab x e : Int32} : Fb_X0_run g t (some b) 80 ab x e = ob2 (g 0 t (some b) ab (nt 1) x e) (fun y u => ob2 (g 0 u (some b) ab (nt 2) x e) (fun z v => some (y + z, v))) := rfl
theorem nu_of {k a o : Nat} (h : ow k a = o) : nuM k a = (mm_sv 4).getD (4 * o + a) 0 ∧ abV k a = (mm_sv 0).getD o 0 := by unfold nuM abV; rw [h]; exact ⟨rfl, rfl⟩
end
