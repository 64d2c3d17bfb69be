/-! PART 38: spans: who owns, who holds. -/
def pS (t : TS) (p s : Nat) : Bool := decide (tA t 3317 0 s = nt p)
def oC (t : TS) (d : Int32) (s : Nat) : Bool := decide (tA t 3321 0 s = 1) && (decide (tA t 3319 0 s ≤ d) && decide (d < tA t 3322 0 s))
def tC (t : TS) (d : Int32) (s : Nat) : Bool := decide (¬ tA t 3321 0 s = 1) && (decide (tA t 3319 0 s ≤ d) && (decide (d < tA t 3322 0 s) && decide (d ≤ tA t 3320 0 s)))
def oS (t : TS) (p : Nat) (d : Int32) (s : Nat) : Bool := pS t p s && oC t d s
def tS (t : TS) (p : Nat) (d : Int32) (s : Nat) : Bool := pS t p s && tC t d s
def ow0 (t : TS) (n p : Nat) (d : Int32) : Option Nat := lastP (oS t p d) n
def ot0 (t : TS) (n p : Nat) (d : Int32) : Option Nat := lastP (tS t p d) n
/-- the span by which a player has an owner on a day; the one that counts -/
def own (t : TS) (n p : Nat) (d : Int32) : Option Nat := oel (ow0 t n p d) none (fun s => if tA t 3320 0 s < d then none else some s)
def hol (t : TS) (n p : Nat) (d : Int32) : Option Nat := oel (own t n p d) (ot0 t n p d) (fun s => oel (ot0 t n p d) (some s) (fun o => if o < s then some s else some o))
def Ispan (nB nS nM : Nat) (t : TS) : Prop := nS ≤ 600 ∧ tI t 1205 0 = nt nS ∧ tI t 1316 0 = nt nS ∧ (∀ s, s < nS → tE t 11 s = true ∧ tI t 1100 s = nt s ∧ tI t 1102 s = tA t 3321 0 s ∧ tI t 1103 s = tA t 3319 0 s ∧ tI t 1104 s = tA t 3320 0 s ∧ tI t 1105 s = tA t 3323 0 s ∧ tI t 1106 s = tA t 3322 0 s ∧ (∃ c, c < nB ∧ isCl (tA t 3308 0 c) = true ∧ tR t 1101 s = some c ∧ tA t 3318 0 s = nt c) ∧ (∃ p, p < nB ∧ isPl (tA t 3308 0 p) = true ∧ tA t 3317 0 s = nt p) ∧ tR t 1108 s = nx (fun s' => decide (tA t 3317 0 s' = tA t 3317 0 s)) (nS - (s + 1)) (s + 1) ∧ ((tR t 1107 s = none ∧ tA t 3324 0 s = -1) ∨ ∃ m, m < nM ∧ tR t 1107 s = some m ∧ tA t 3324 0 s = nt m) ∧ -9999 ≤ tA t 3319 0 s ∧ tA t 3319 0 s ≤ 2999 ∧ -9999 ≤ tA t 3320 0 s ∧ tA t 3320 0 s ≤ 2999 ∧ 0 ≤ tA t 3322 0 s ∧ tA t 3322 0 s ≤ 1000000) ∧ (∀ s, nS ≤ s → tE t 11 s = false) ∧ (∀ p, p < nB → tR t 109 p = nx (pS t p) nS 0 ∧ tR t 110 p = lastP (pS t p) nS ∧ tI t 111 p = nt (cntP (pS t p) nS))
def kHol : List Nat := [3317, 3318, 3319, 3320, 3321, 3322]
def kSpan : List Nat := [1205, 1316, 11, 1100, 1102, 1103, 1104, 1105, 1106, 1101, 1108, 1107, 109, 110, 111, 3308, 3317, 3318, 3319, 3320, 3321, 3322, 3323, 3324]
theorem Ispan_f {D : Nat → Bool} {t t' : TS} {nB nS nM : Nat} (h : frm D t t') (hd : ∀ k, k ∈ kSpan → D k = false) (hI : Ispan nB nS nM t) : Ispan nB nS nM t' := by
  unfold Ispan pS at hI ⊢
  simp only [(h.1 1205 (hd 1205 (by decide))).2.1, (h.1 1316 (hd 1316 (by decide))).2.1, (h.1 11 (hd 11 (by decide))).1, (h.1 1100 (hd 1100 (by decide))).2.1, (h.1 1102 (hd 1102 (by decide))).2.1, (h.1 1103 (hd 1103 (by decide))).2.1, (h.1 1104 (hd 1104 (by decide))).2.1, (h.1 1105 (hd 1105 (by decide))).2.1, (h.1 1106 (hd 1106 (by decide))).2.1, (h.1 1101 (hd 1101 (by decide))).2.2.1, (h.1 1108 (hd 1108 (by decide))).2.2.1, (h.1 1107 (hd 1107 (by decide))).2.2.1, (h.1 109 (hd 109 (by decide))).2.2.1, (h.1 110 (hd 110 (by decide))).2.2.1, (h.1 111 (hd 111 (by decide))).2.1, (h.1 3308 (hd 3308 (by decide))).2.2.2.2.1, (h.1 3317 (hd 3317 (by decide))).2.2.2.2.1, (h.1 3318 (hd 3318 (by decide))).2.2.2.2.1, (h.1 3319 (hd 3319 (by decide))).2.2.2.2.1, (h.1 3320 (hd 3320 (by decide))).2.2.2.2.1, (h.1 3321 (hd 3321 (by decide))).2.2.2.2.1, (h.1 3322 (hd 3322 (by decide))).2.2.2.2.1, (h.1 3323 (hd 3323 (by decide))).2.2.2.2.1, (h.1 3324 (hd 3324 (by decide))).2.2.2.2.1]
  exact hI
theorem own_f {D : Nat → Bool} {t t' : TS} {n p : Nat} {d : Int32} (h : frm D t t') (hd : ∀ k, k ∈ kHol → D k = false) : own t' n p d = own t n p d := by
  unfold own ow0 oS pS oC
  simp only [(h.1 3317 (hd 3317 (by decide))).2.2.2.2.1, (h.1 3319 (hd 3319 (by decide))).2.2.2.2.1, (h.1 3320 (hd 3320 (by decide))).2.2.2.2.1, (h.1 3321 (hd 3321 (by decide))).2.2.2.2.1, (h.1 3322 (hd 3322 (by decide))).2.2.2.2.1]
theorem hol_f {D : Nat → Bool} {t t' : TS} {n p : Nat} {d : Int32} (h : frm D t t') (hd : ∀ k, k ∈ kHol → D k = false) : hol t' n p d = hol t n p d := by
  unfold hol
  rw [own_f h hd]
  unfold ot0 tS pS tC
  simp only [(h.1 3317 (hd 3317 (by decide))).2.2.2.2.1, (h.1 3319 (hd 3319 (by decide))).2.2.2.2.1, (h.1 3320 (hd 3320 (by decide))).2.2.2.2.1, (h.1 3321 (hd 3321 (by decide))).2.2.2.2.1, (h.1 3322 (hd 3322 (by decide))).2.2.2.2.1]
/-- what the model alone knows of spans -/
def Mspan (nB nS : Nat) (t : TS) : Prop := nS ≤ 600 ∧ tI t 1316 0 = nt nS ∧ ∀ s, s < nS → (∃ c, c < nB ∧ isCl (tA t 3308 0 c) = true ∧ tA t 3318 0 s = nt c) ∧ (∃ p, p < nB ∧ isPl (tA t 3308 0 p) = true ∧ tA t 3317 0 s = nt p)
theorem IsM {nB nS nM : Nat} {t : TS} (h : Ispan nB nS nM t) : Mspan nB nS t := ⟨h.1, h.2.2.1, fun s hs => by
  obtain ⟨-, -, -, -, -, -, -, ⟨c, a1, a2, -, a3⟩, b, -⟩ := h.2.2.2.1 s hs
  exact ⟨⟨c, a1, a2, a3⟩, b⟩⟩
def kMs : List Nat := [1316, 3308, 3317, 3318]
theorem Mspan_f {D : Nat → Bool} {t t' : TS} {nB nS : Nat} (h : frm D t t') (hd : ∀ k, k ∈ kMs → D k = false) (hI : Mspan nB nS t) : Mspan nB nS t' := by
  unfold Mspan at hI ⊢
  simp only [(h.1 1316 (hd 1316 (by decide))).2.1, (h.1 3308 (hd 3308 (by decide))).2.2.2.2.1, (h.1 3317 (hd 3317 (by decide))).2.2.2.2.1, (h.1 3318 (hd 3318 (by decide))).2.2.2.2.1]
  exact hI
theorem itr_pair {α β : Type} {p : Nat → Bool} {g : Nat → α → α} {h : Nat → β → β} : ∀ (m k : Nat) (x : α) (y : β), itr (fun s (a : α × β) => if p s then (g s a.1, h s a.2) else a) m k (x, y) = (itr (fun s a => if p s then g s a else a) m k x, itr (fun s a => if p s then h s a else a) m k y)
  | 0, _, _, _ => rfl
  | m + 1, k, x, y => by
    unfold itr
    by_cases e : p k = true
    · simp only [if_pos e]; exact itr_pair m (k + 1) _ _
    · simp only [if_neg e]; exact itr_pair m (k + 1) _ _
theorem itr_and {p c : Nat → Bool} (n : Nat) : itr (fun s (a : Option Nat) => if p s then (if c s then some s else a) else a) n 0 none = lastP (fun s => p s && c s) n := by
  rw [← lastP_itr]
  refine itr_congr _ _ _ (fun j _ _ a => ?_)
  cases p j <;> cases c j <;> rfl
section
variable {t : TS} {nB nS nM p : Nat}
theorem sp_next (hS : Ispan nB nS nM t) {s : Nat} (hs : s < nS) (hp : pS t p s = true) : tR t 1108 s = nx (pS t p) (nS - (s + 1)) (s + 1) := by
  rw [(hS.2.2.2.1 s hs).2.2.2.2.2.2.2.2.2.1]
  have e : (fun s' => decide (tA t 3317 0 s' = tA t 3317 0 s)) = pS t p := by
    funext s'
    unfold pS at hp ⊢
    rw [of_decide_eq_true hp]
  rw [e]
theorem X1_owning_eq (hS : Ispan nB nS nM t) (hp : p < nB) (d : Int32) : F_X1_owning t p d = some (own t nS p d) := by
  unfold F_X1_owning
  rw [nxt_e, (hS.2.2.2.2.2 p hp).1]
  have h600 := hS.1
  have h := loop_ch (n := nS) (B := fun fu a o => B_X1_owning_7 fu t d a o) (p := pS t p) (f := fun s a => if oC t d s then some s else a) (R := fun a => B_X1_owning_45 t d a) (fun fu a => rfl) (fun fu a s hs hps => by
    obtain ⟨-, -, e1, e2, -, -, e3, -⟩ := hS.2.2.2.1 s hs
    show BB_X1_owning_7 (B_X1_owning_7 fu) t d a (some s) = _
    unfold BB_X1_owning_7 oC
    simp only [oc_s, B_X1_owning_37, nxt_e, e1, e2, e3, sp_next hS hs hps]
    by_cases h1 : tA t 3321 0 s = 1
    · by_cases h2 : d < tA t 3319 0 s
      · have h2' := Int32.not_le.mpr h2
        simp [h1, h2, h2']
      · have h2' := Int32.not_lt.mp h2
        by_cases h3 : tA t 3322 0 s ≤ d
        · have h3' := Int32.not_lt.mpr h3
          simp [h1, h2, h2', h3, h3']
        · have h3' := Int32.not_le.mp h3
          simp [h1, h2, h2', h3, h3']
    · simp [h1]) nS 0 none 10000 (by omega) (by omega)
  have h2 : itr (fun s (a : Option Nat) => if pS t p s then (if oC t d s then some s else a) else a) nS 0 none = ow0 t nS p d := itr_and nS
  rw [h2] at h
  refine h.trans ?_
  unfold B_X1_owning_45 own
  cases e : ow0 t nS p d with
  | none => rfl
  | some s =>
    obtain ⟨-, -, -, -, e4, -⟩ := hS.2.2.2.1 s (lastP_lt e).1
    rw [oc_s, oel_s, e4]
    by_cases g : tA t 3320 0 s < d
    · rw [if_pos g, if_pos g]
    · rw [if_neg g, if_neg g]
theorem X1_holding_eq (hS : Ispan nB nS nM t) (hp : p < nB) (d : Int32) : F_X1_holding t p d = some (hol t nS p d) := by
  unfold F_X1_holding
  rw [nxt_e, (hS.2.2.2.2.2 p hp).1]
  have h600 := hS.1
  obtain ⟨N, hN⟩ : ∃ N : Nat, N = 10000 := ⟨_, rfl⟩
  rw [← hN]
  have h := loop_ch2 (n := nS) (B := fun fu a b o => B_X1_holding_10 fu t d a b o) (p := pS t p) (f := fun s a => if oC t d s then some s else a) (g := fun s b => if tC t d s then some s else b) (R := fun a b => B_X1_holding_73 t d a b) (fun fu a b => by
    show BB_X1_holding_10 (B_X1_holding_10 fu) t d a b none = _
    unfold BB_X1_holding_10
    rw [oc_n]) (fun fu a b s hs hps => by
    obtain ⟨-, -, e1, e2, e4, -, e3, -⟩ := hS.2.2.2.1 s hs
    show BB_X1_holding_10 (B_X1_holding_10 fu) t d a b (some s) = _
    unfold BB_X1_holding_10 oC tC
    simp only [oc_s, B_X1_holding_63, nxt_e, e1, e2, e3, e4, sp_next hS hs hps]
    by_cases h2 : d < tA t 3319 0 s
    · have h2' := Int32.not_le.mpr h2
      simp [h2, h2']
    · have h2' := Int32.not_lt.mp h2
      by_cases h3 : d < tA t 3322 0 s
      · by_cases h1 : tA t 3321 0 s = 1
        · simp [h1, h2, h2', h3]
        · by_cases h4 : tA t 3320 0 s < d
          · have h4' := Int32.not_le.mpr h4
            simp [h1, h2, h2', h3, h4, h4']
          · have h4' := Int32.not_lt.mp h4
            simp [h1, h2, h2', h3, h4, h4']
      · simp [h2, h2', h3]) nS 0 none none N (by omega) (by omega)
  have h2 : itr (fun s (a : Option Nat) => if pS t p s then (if oC t d s then some s else a) else a) nS 0 none = ow0 t nS p d := itr_and nS
  have h3 : itr (fun s (a : Option Nat) => if pS t p s then (if tC t d s then some s else a) else a) nS 0 none = ot0 t nS p d := itr_and nS
  rw [h2, h3] at h
  refine h.trans ?_
  unfold B_X1_holding_73 hol own
  cases e : ow0 t nS p d with
  | none => rfl
  | some s =>
    have hs := (lastP_lt e).1
    obtain ⟨-, e0, -, -, e4, -⟩ := hS.2.2.2.1 s hs
    rw [oc_s, oel_s, e4]
    by_cases g : tA t 3320 0 s < d
    · rw [if_neg (Int32.not_le.mpr g), if_pos g]; rfl
    · rw [if_pos (Int32.not_lt.mp g), if_neg g, oel_s]
      cases e' : ot0 t nS p d with
      | none => rfl
      | some o =>
        have ho := (lastP_lt e').1
        obtain ⟨-, e5, -⟩ := hS.2.2.2.1 o ho
        rw [oc_s, oel_s, e0, e5, igE (by omega) (by omega)]
        by_cases g2 : o < s
        · rw [if_neg (by omega), if_pos g2]; rfl
        · rw [if_pos (by omega), if_neg g2]
theorem isSome_eq (hL : Ilen t) {s : Nat} (hs : s < 600) (d : Int32) : F_X13_isSome t (nt s) d = some (b1 (decide (tA t 3319 0 s ≤ d) && decide (d < tA t 3322 0 s))) := by
  unfold F_X13_isSome
  rw [(show tL _ 3319 0 = 600 from hL 3319 rfl), (show tL _ 3322 0 = 600 from hL 3322 rfl), gd_nt _ hs (by omega), gd_nt _ hs (by omega), nt_cl (by omega)]
  by_cases h2 : d < tA t 3319 0 s
  · have h2' := Int32.not_le.mpr h2
    simp [h2, h2', b1]
  · have h2' := Int32.not_lt.mp h2
    by_cases h3 : tA t 3322 0 s ≤ d
    · have h3' := Int32.not_lt.mpr h3
      simp [h2, h2', h3, h3', b1]
    · have h3' := Int32.not_le.mp h3
      simp [h2, h2', h3, h3', b1]
def enc (o : Option Nat) : Int32 := oel o (-1) nt
theorem ownSpan_eqM (hL : Ilen t) (hS : Mspan nB nS t) (p : Nat) (d : Int32) : F_X13_ownSpan t (nt p) d = some (enc (ow0 t nS p d)) := by
  have h600 := hS.1
  unfold F_X13_ownSpan
  rw [hS.2.1]
  refine (loop_last (n := nS) (B := fun fu v => B_X13_ownSpan_7 fu t (nt p) d v) (p := oS t p d) (r0 := some (-1)) (r1 := fun k => some (nt k)) (fun fu => rfl) (fun fu k hk => ?_) nS 10000 (Nat.le_refl _) (by omega)).trans ?_
  · show BB_X13_ownSpan_7 (B_X13_ownSpan_7 fu) t (nt p) d (nt k) = _
    unfold BB_X13_ownSpan_7
    simp only [B_X13_ownSpan_42, isSome_eq hL (show k < 600 by omega), ob_s, b1_0, (show tL _ 3317 0 = 600 from hL 3317 rfl), (show tL _ 3321 0 = 600 from hL 3321 rfl)]
    rw [if_neg (nt_neg (by omega)), gd_nt _ (by omega) (by omega), gd_nt _ (by omega) (by omega), nt_cl (by omega), ← Int32.sub_eq_add_neg]
    unfold oS pS oC
    by_cases h1 : tA t 3317 0 k = nt p
    · by_cases h2 : tA t 3321 0 k = 1
      · cases h3 : (decide (tA t 3319 0 k ≤ d) && decide (d < tA t 3322 0 k)) <;> simp [h1, h2]
      · simp [h1, h2]
    · simp [h1]
  · unfold enc ow0
    cases lastP (oS t p d) nS <;> rfl
theorem ownSpan_eq (hL : Ilen t) (hS : Ispan nB nS nM t) (p : Nat) (d : Int32) : F_X13_ownSpan t (nt p) d = some (enc (ow0 t nS p d)) := ownSpan_eqM hL (IsM hS) p d
theorem lastP_or1 {q : Nat → Bool} {n s : Nat} (hs : s < n) : lastP (fun j => decide (j = s) || q j) n = oel (lastP q n) (some s) (fun o => if o < s then some s else some o) := by
  cases e : lastP q n with
  | none => exact lastP_is hs (by simp) (fun j h1 h2 => by simp [lastP_no e h2]; omega)
  | some o =>
    obtain ⟨g1, g2⟩ := lastP_lt e
    rw [oel_s]
    by_cases g : o < s
    · rw [if_pos g]
      exact lastP_is hs (by simp) (fun j h1 h2 => by simp [lastP_max e (show o < j by omega) h2]; omega)
    · rw [if_neg g]
      exact lastP_is g1 (by simp [g2]) (fun j h1 h2 => by simp [lastP_max e h1 h2]; omega)
theorem spanOn_eqM (hL : Ilen t) (hS : Mspan nB nS t) (p : Nat) (d : Int32) : F_X13_spanOn t (nt p) d = some (enc (hol t nS p d)) := by
  have h600 := hS.1
  unfold F_X13_spanOn
  rw [ownSpan_eqM hL hS, ob_s, hS.2.1]
  refine (loop_last (n := nS) (B := fun fu v => B_X13_spanOn_15 fu t (nt p) d (enc (ow0 t nS p d)) v) (p := fun k => pS t p k && ((decide (tA t 3319 0 k ≤ d) && decide (d < tA t 3322 0 k)) && (decide (d ≤ tA t 3320 0 k) && (decide (¬ tA t 3321 0 k = 1) || decide (nt k = enc (ow0 t nS p d)))))) (r0 := some (-1)) (r1 := fun k => some (nt k)) (fun fu => rfl) (fun fu k hk => ?_) nS 10000 (Nat.le_refl _) (by omega)).trans ?_
  · show BB_X13_spanOn_15 (B_X13_spanOn_15 fu) t (nt p) d (enc (ow0 t nS p d)) (nt k) = _
    unfold BB_X13_spanOn_15
    simp only [B_X13_spanOn_72, isSome_eq hL (show k < 600 by omega), ob_s, b1_0, (show tL _ 3317 0 = 600 from hL 3317 rfl), (show tL _ 3321 0 = 600 from hL 3321 rfl), (show tL _ 3320 0 = 600 from hL 3320 rfl)]
    rw [if_neg (nt_neg (by omega)), gd_nt _ (by omega) (by omega), gd_nt _ (by omega) (by omega), gd_nt _ (by omega) (by omega), nt_cl (by omega), ← Int32.sub_eq_add_neg]
    unfold pS
    by_cases h1 : tA t 3317 0 k = nt p
    · cases h3 : (decide (tA t 3319 0 k ≤ d) && decide (d < tA t 3322 0 k))
      · simp [h1]
      · by_cases h4 : tA t 3320 0 k < d
        · have h4' := Int32.not_le.mpr h4
          simp [h1, h4, h4']
        · have h4' := Int32.not_lt.mp h4
          by_cases h2 : tA t 3321 0 k = 1
          · by_cases h5 : nt k = enc (ow0 t nS p d)
            · simp [h1, h2, h4, h4', h5]
            · simp [h1, h2, h4, h4', h5]
          · simp [h1, h2, h4, h4']
    · simp [h1]
  · have key : lastP (fun k => pS t p k && ((decide (tA t 3319 0 k ≤ d) && decide (d < tA t 3322 0 k)) && (decide (d ≤ tA t 3320 0 k) && (decide (¬ tA t 3321 0 k = 1) || decide (nt k = enc (ow0 t nS p d)))))) nS = hol t nS p d := by
      unfold hol own
      cases e : ow0 t nS p d with
      | none =>
        refine lastP_congr (fun j hj => ?_)
        have h := lastP_no e hj
        unfold oS oC at h
        unfold tS tC enc
        rw [oel_n]
        have h9 : decide (nt j = -1) = false := decide_eq_false (fun g => nt_neg (show j < 2147483648 by omega) (by rw [g]; decide))
        rw [h9]
        revert h
        cases pS t p j <;> cases decide (tA t 3319 0 j ≤ d) <;> cases decide (d < tA t 3322 0 j) <;> by_cases h2 : tA t 3321 0 j = 1 <;> simp [h2]
      | some s =>
        obtain ⟨hs, hs2⟩ := lastP_lt e
        rw [oel_s]
        by_cases g : tA t 3320 0 s < d
        · rw [if_pos g, oel_n]
          refine lastP_congr (fun j hj => ?_)
          unfold tS tC enc
          rw [oel_s, deQ (by omega) (by omega)]
          by_cases h5 : j = s
          · subst h5
            have g' := Int32.not_le.mpr g
            simp [g']
          · by_cases h2 : tA t 3321 0 j = 1
            · simp [h2, h5]
            · simp [h2, h5, Bool.and_assoc]
        · rw [if_neg g, oel_s]
          refine Eq.trans ?_ (lastP_or1 (q := tS t p d) hs)
          refine lastP_congr (fun j hj => ?_)
          unfold tS tC enc
          rw [oel_s, deQ (by omega) (by omega)]
          by_cases h5 : j = s
          · subst h5
            have g' := Int32.not_lt.mp g
            unfold oS oC at hs2
            simp only [Bool.and_eq_true, decide_eq_true_eq] at hs2
            obtain ⟨a1, a2, a3, a4⟩ := hs2
            simp [a1, a2, a3, a4, g']
          · by_cases h2 : tA t 3321 0 j = 1
            · simp [h2, h5]
            · simp [h2, h5, Bool.and_assoc]
    show oel (lastP _ nS) (some (-1)) (fun k => some (nt k)) = _
    rw [key]
    unfold enc
    cases hol t nS p d <;> rfl
theorem spanOn_eq (hL : Ilen t) (hS : Ispan nB nS nM t) (p : Nat) (d : Int32) : F_X13_spanOn t (nt p) d = some (enc (hol t nS p d)) := spanOn_eqM hL (IsM hS) p d
end
