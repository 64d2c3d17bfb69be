/-! PART 78: acts, the model's side. -/
section
variable {t : TS} {b own c : Nat} {w l : Int32}
def mR (t : TS) (v : Int32) : TS := uI (if 24 ≤ tI t 1391 0 then t else uA t 3392 0 (tI t 1391 0).toNatClampNeg v) 1391 0 (tI t 1391 0 + 1)
def mOk (b own : Nat) (w l : Int32) (c : Nat) (t : TS) : Prop := Ilen t ∧ tI t 1391 0 = nt c ∧ tA t 3308 0 b = nt own ∧ tA t 3313 0 b = w ∧ tA t 3309 0 b = l ∧ b < 150 ∧ own < 8
theorem mR_f {v : Int32} : frm (ks [1391, 3392]) t (mR t v) := by
  unfold mR
  by_cases h : 24 ≤ tI t 1391 0
  · rw [if_pos h]; exact frm_uI rfl
  · rw [if_neg h]; exact frm_tr (frm_uA rfl) (frm_uI rfl)
theorem mOk_R {v : Int32} (h : mOk b own w l c t) : mOk b own w l (c + 1) (mR t v) := by
  obtain ⟨h1, h2, h3, h4, h5, h6⟩ := h
  have f := mR_f (t := t) (v := v)
  refine ⟨Ilen_f f h1, ?_, by rw [(f.1 3308 rfl).2.2.2.2.1, h3], by rw [(f.1 3313 rfl).2.2.2.2.1, h4], by rw [(f.1 3309 rfl).2.2.2.2.1, h5], h6⟩
  unfold mR
  rw [I_uI, m1_s, h2, nt_succ]
theorem mOk_L : ∀ (L : List Int32) {t : TS} {c : Nat}, mOk b own w l c t → mOk b own w l (c + L.length) (L.foldl mR t)
  | [], _, _, h => h
  | v :: L, t, c, h => by
    have := mOk_L L (mOk_R (v := v) h)
    rw [show c + 1 + L.length = c + (v :: L).length by rw [List.length_cons]; omega] at this
    exact this
theorem ran_eq {v : Int32} (h : mOk b own w l c t) (hc : c < 1000) : F_X13_ran t v = some (mR t v) := by
  obtain ⟨h1, h2, -⟩ := h
  unfold F_X13_ran B_X13_ran_19 mR
  have l24 : ((24 : Int32) ≤ nt c) = (24 ≤ c) := ge_nt (n := 24) (by omega) (by omega)
  rw [h2, nt_cl (by omega), nt_succ]
  simp only [l24]
  by_cases g : 24 ≤ c
  · rw [if_pos g, if_pos g, nxt_e]
  · rw [if_neg g, if_neg g, (show tL _ 3392 0 = 24 from h1 3392 rfl), gd_nt _ (by omega) (by omega), nxt_e, nxt_e, show tI (uA t 3392 0 c v) 1391 0 = tI t 1391 0 from rfl, h2, nt_succ]
theorem mk8 {P : Nat → Prop} (h0 : P 0) (h1 : P 1) (h2 : P 2) (h3 : P 3) (h4 : P 4) (h5 : P 5) (h6 : P 6) (h7 : P 7) {k : Nat} (hk : k < 8) : P k := by
  have hk' : k = 0 ∨ k = 1 ∨ k = 2 ∨ k = 3 ∨ k = 4 ∨ k = 5 ∨ k = 6 ∨ k = 7 := by omega
  rcases hk' with rfl | rfl | rfl | rfl | rfl | rfl | rfl | rfl <;> assumption
theorem mplain {x : Int32} (h : mOk b own w l c t) (hc : c < 900) : F_X13_plainPlays t (nt b) x = some (x - nt b, [1].foldl mR t) := by
  unfold F_X13_plainPlays
  rw [ran_eq h (by omega), ob_s]
  rfl
theorem mperson {x : Int32} (h : mOk b own w l c t) (hc : c < 800) : F_X13_personPlays t (nt b) x = some ((x - nt b) * 2, [20, 1].foldl mR t) := by
  unfold F_X13_personPlays
  rw [ran_eq h (by omega), ob_s, mplain (mOk_R h) (by omega)]
  rfl
theorem mplays {x : Int32} (h : mOk b own w l c t) (hc : c < 700) : F_X13_plays t (nt b) x = some (vP own (nt b) x, (lP own).foldl mR t) := by
  have hk := h.2.2.2.2.2.2
  unfold F_X13_plays
  rw [(show tL _ 3308 0 = 150 from h.1 3308 rfl), gd_nt _ h.2.2.2.2.2.1 (by have := h.2.2.2.2.2.1; omega), gd_nt _ h.2.2.2.2.2.1 (by have := h.2.2.2.2.2.1; omega), nt_cl (by have := h.2.2.2.2.2.1; omega), h.2.2.1, ran_eq h (by omega), mplain h (by omega), mperson h (by omega), ob_s, mperson (mOk_R h) (by omega)]
  revert hk
  refine fun hk => mk8 (P := fun own => (if ¬ nt own = 3 then Option.bind (F_X13_isUnder t (nt own) 1) (fun r21 => if r21 = 0 then ob2 (some (x - nt b, [1].foldl mR t)) (fun x23 t24 => some (x23, t24)) else ob2 (some ((x - nt b) * 2, [20, 1].foldl mR t)) (fun x26 t27 => some (x26, t27))) else ob2 (some ((x + 1 - nt b) * 2, [20, 1].foldl mR (mR t 40))) (fun x30 t31 => some (x30, t31))) = some (vP own (nt b) x, (lP own).foldl mR t)) rfl rfl rfl rfl rfl rfl rfl rfl hk
theorem mpay0 {x : Int32} (h : mOk b own w l c t) (hc : c < 600) : F_X13_plainPays t (nt b) x = some (vP own (nt b) x + 4, (10 :: lP own).foldl mR t) := by
  unfold F_X13_plainPays
  rw [ran_eq h (by omega), ob_s, mplays (mOk_R h) (by omega)]
  rfl
theorem mpay2 {x : Int32} (h : mOk b own w l c t) (hc : c < 500) : F_X13_playerPays t (nt b) x = some (vP own (nt b) x + 4 - w, (30 :: 10 :: lP own).foldl mR t) := by
  have h1 := mOk_L (10 :: lP own) (mOk_R (v := 30) h)
  have hb := h.2.2.2.2.2.1
  unfold F_X13_playerPays
  rw [ran_eq h (by omega), ob_s, mpay0 (mOk_R h) (by omega), ob2_s, (show tL _ 3313 0 = 150 from h1.1 3313 rfl), gd_nt _ hb (by omega), nt_cl (by omega), h1.2.2.2.1]
  rfl
theorem mpay5 {x : Int32} (h : mOk b own w l c t) (hc : c < 500) : F_X13_clubPays t (nt b) x = some ((vP own (nt b) x + 4) ^^^ l, (61 :: 10 :: lP own).foldl mR t) := by
  have h1 := mOk_L (10 :: lP own) (mOk_R (v := 61) h)
  have hb := h.2.2.2.2.2.1
  unfold F_X13_clubPays
  rw [ran_eq h (by omega), ob_s, mpay0 (mOk_R h) (by omega), ob2_s, (show tL _ 3309 0 = 150 from h1.1 3309 rfl), gd_nt _ hb (by omega), nt_cl (by omega), h1.2.2.2.2.1]
  rfl
theorem msg0 {x : Int32} (h : mOk b own w l c t) (hc : c < 900) : F_X13_plainSigns t (nt b) x = some (x ^^^ nt b, [11].foldl mR t) := by
  unfold F_X13_plainSigns
  rw [ran_eq h (by omega), ob_s]
  rfl
theorem msg5 {x : Int32} (h : mOk b own w l c t) (hc : c < 800) : F_X13_clubSigns t (nt b) x = some (-(x ^^^ nt b), [60, 11].foldl mR t) := by
  unfold F_X13_clubSigns
  rw [ran_eq h (by omega), ob_s, msg0 (mOk_R h) (by omega)]
  rfl
theorem mpays {x : Int32} (h : mOk b own w l c t) (hc : c < 400) : F_X13_pays t (nt b) x = some (vY own (nt b) w l x, (lY own).foldl mR t) := by
  have hk := h.2.2.2.2.2.2
  have hb := h.2.2.2.2.2.1
  have hl := lP_len own hk
  have h8 := mOk_L (61 :: 10 :: lP own) (mOk_R (v := 80) h)
  unfold F_X13_pays B_X13_pays_44 B_X13_pays_95
  rw [(show tL _ 3308 0 = 150 from h.1 3308 rfl), gd_nt _ hb (by omega), nt_cl (by omega), h.2.2.1, ran_eq h (by omega), ran_eq h (by omega), ob_s, ob_s, mpay2 h (by omega), mpay0 h (by omega), mpay5 h (by omega), mpay2 (mOk_R h) (by omega), mpay5 (mOk_R h) (by omega)]
  simp only [ob2_s]
  rw [msg5 h8 (by simp only [List.length_cons]; omega)]
  simp only [ob2_s]
  have hk' : own = 0 ∨ own = 1 ∨ own = 2 ∨ own = 3 ∨ own = 4 ∨ own = 5 ∨ own = 6 ∨ own = 7 := by omega
  rcases hk' with rfl | rfl | rfl | rfl | rfl | rfl | rfl | rfl <;> rfl
theorem msigns {x : Int32} (h : mOk b own w l c t) (hc : c < 400) : F_X13_signs t (nt b) x = some (vS own (nt b) x, (lS own).foldl mR t) := by
  have hk := h.2.2.2.2.2.2
  have hb := h.2.2.2.2.2.1
  unfold F_X13_signs
  rw [(show tL _ 3308 0 = 150 from h.1 3308 rfl), gd_nt _ hb (by omega), gd_nt _ hb (by omega), nt_cl (by omega), h.2.2.1, ran_eq h (by omega), ob_s, msg0 h (by omega), msg5 h (by omega), msg0 (mOk_R h) (by omega)]
  simp only [ob2_s]
  rw [mplays (mOk_L [11] (mOk_R h)) (by show c + 1 + 1 < 700; omega)]
  simp only [ob2_s]
  have hk' : own = 0 ∨ own = 1 ∨ own = 2 ∨ own = 3 ∨ own = 4 ∨ own = 5 ∨ own = 6 ∨ own = 7 := by omega
  rcases hk' with rfl | rfl | rfl | rfl | rfl | rfl | rfl | rfl <;> rfl
theorem mtl0 {x : Int32} (h : mOk b own w l c t) (hc : c < 300) : F_X13_plainTells t (nt b) x = some (vS own (nt b) (vY own (nt b) w l x), (lT0 own).foldl mR t) := by
  obtain ⟨l1, l2, -⟩ := l_len own h.2.2.2.2.2.2
  unfold F_X13_plainTells
  rw [ran_eq h (by omega), ob_s, mpays (mOk_R h) (by omega), ob2_s, msigns (mOk_L (lY own) (mOk_R h)) (by omega), ob2_s]
  unfold lT0
  rw [List.foldl_cons, List.foldl_append]
theorem mtells {x : Int32} (h : mOk b own w l c t) (hc : c < 200) : F_X13_tells t (nt b) x = some (vT own (nt b) w l x, (lT own).foldl mR t) := by
  have hk := h.2.2.2.2.2.2
  have hb := h.2.2.2.2.2.1
  obtain ⟨-, -, l3, -⟩ := l_len own hk
  unfold F_X13_tells
  rw [(show tL _ 3308 0 = 150 from h.1 3308 rfl), gd_nt _ hb (by omega), gd_nt _ hb (by omega), nt_cl (by omega), h.2.2.1, ran_eq h (by omega), ran_eq h (by omega), ob_s, ob_s, mtl0 h (by omega), mtl0 (mOk_R h) (by omega), mtl0 (mOk_R h) (by omega)]
  simp only [ob2_s]
  rw [mplays (mOk_L (lT0 own) (mOk_R h)) (by omega), isUnder_2, ob_s, gw0]
  simp only [ob2_s]
  have hk' : (own = 2 ∨ own = 3 ∨ own = 4) ∨ own = 6 ∨ (own = 0 ∨ own = 1 ∨ own = 5 ∨ own = 7) := by omega
  unfold vT lT
  rcases hk' with g | g | g
  · have hp : isPl (nt own) = true := by rcases g with rfl | rfl | rfl <;> rfl
    rw [hp, if_pos rfl, if_pos g, if_pos g, List.foldl_cons]
  · have hp : isPl (nt own) = false := by rw [g]; rfl
    have h6 : nt own = 6 := by rw [g]; rfl
    rw [hp, if_neg (by decide), if_neg (fun q => q h6), if_neg (by omega), if_pos g, if_neg (by omega), if_pos g, List.foldl_append, List.foldl_cons]
  · have hp : isPl (nt own) = false := by rcases g with rfl | rfl | rfl | rfl <;> rfl
    have h6 : ¬ nt own = 6 := by rcases g with rfl | rfl | rfl | rfl <;> decide
    rw [hp, if_neg (by decide), if_pos h6, if_neg (by omega), if_neg (by omega), if_neg (by omega), if_neg (by omega)]
end
