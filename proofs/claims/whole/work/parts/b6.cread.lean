/-! PART b6: steps and what they come to; the class reads a text: signs. -/
def bothP (k a b : Int32) : Int32 := if k = 43 then a + b else if k = 45 then a - b else if k = 42 then a * b else if k = 47 then (if b = 0 then 0 else if b = -1 then -a else a / b) else if k = 37 then (if b = 0 then 0 else if b = -1 then 0 else irm a b) else if k = 60 then (if a < b then 1 else 0) else if k = 61 then (if a = b then 1 else 0) else if k = 62 then (if b < a then 1 else 0) else if k = 4 then (if a = 0 then 0 else if b = 0 then 0 else 1) else (if a = 0 then (if b = 0 then 0 else 1) else 1)
def dny (st : List Int32) : List Int32 := match st with
  | [] => []
  | a :: r => (if a = 0 then 1 else 0) :: r
def bin (k : Int32) (st : List Int32) : List Int32 := match st with
  | b :: a :: r => bothP k a b :: r
  | _ => []
def evS (V : Int32 → Int32) (s : Int32 × Int32) (st : List Int32) : List Int32 := if s.1 = 1 then s.2 :: st else if s.1 = 2 then V s.2 :: st else if s.1 = 3 then dny st else bin s.1 st
def ev (V : Int32 → Int32) : List (Int32 × Int32) → List Int32 → List Int32
  | [], st => st
  | s :: c, st => ev V c (evS V s st)
theorem ev_app {V : Int32 → Int32} : ∀ c c2 st, ev V (c ++ c2) st = ev V c2 (ev V c st)
  | [], _, _ => rfl
  | s :: c, c2, st => ev_app c c2 (evS V s st)
def nmS (m : Int32) (s : Int32 × Int32) : Int32 := if s.1 = 2 then m ||| ((1 : Int32) <<< (s.2 &&& 31)) else m
def nmk (m : Int32) : List (Int32 × Int32) → Int32
  | [] => m
  | s :: c => nmk (nmS m s) c
theorem nmk_app : ∀ c c2 m, nmk m (c ++ c2) = nmk (nmk m c) c2
  | [], _, _ => rfl
  | s :: c, c2, m => nmk_app c c2 (nmS m s)
def isV (V : Int32 → Int32) (c : List (Int32 × Int32)) (x : Int32) : Prop := ∀ st, ev V c st = x :: st
theorem isV_bin {V : Int32 → Int32} {c c2 : List (Int32 × Int32)} {v x k : Int32} (h1 : isV V c v) (h2 : isV V c2 x) (k1 : ¬ k = 1) (k2 : ¬ k = 2) (k3 : ¬ k = 3) : isV V (c ++ c2 ++ [(k, 0)]) (bothP k v x) := by
  intro st
  rw [ev_app, ev_app, h1 st, h2 (v :: st)]
  show evS V (k, 0) (x :: v :: st) = _
  unfold evS
  rw [if_neg k1, if_neg k2, if_neg k3]
  rfl
theorem isV_dny {V : Int32 → Int32} {c : List (Int32 × Int32)} {v : Int32} (h1 : isV V c v) : isV V (c ++ [(3, 0)]) (if v = 0 then 1 else 0) := by
  intro st
  rw [ev_app, h1 st]
  rfl
section
variable {T : Nat → Nat} {L j : Nat} {V : Nat → Int32}
def cD (t : TS) (T : Nat → Nat) (L j : Nat) (V : Nat → Int32) : Prop := L ≤ 160 ∧ tR t 704 0 = some j ∧ tI t 705 0 = nt L ∧ L ≤ tL t 2700 j ∧ (∀ i, i < L → tA t 2700 j i = bt (T i) ∧ T i < 256) ∧ tA t 2702 0 = V
def cAt (t : TS) (p : Nat) (m : Int32) : Prop := tI t 706 0 = nt p ∧ tI t 707 0 = -1 ∧ tI t 703 0 = m
def kCr : Nat → Bool := ks [703, 706, 707]
def VV (V : Nat → Int32) : Int32 → Int32 := fun w => V w.toNatClampNeg
def cOut (t u : TS) (ch : Nat → Nat) (V : Nat → Int32) (m : Int32) (r : Bool × Nat × List (Int32 × Int32)) (x : Int32) : Prop := frm kCr t u ∧ ((r.1 = true ∧ cAt u r.2.1 (nmk m r.2.2) ∧ isV (VV V) r.2.2 x) ∨ (r.1 = false ∧ tI u 706 0 = nt r.2.1 ∧ (tI u 707 0 = nt r.2.1 ∨ (tI u 707 0 = -1 ∧ isD (ch r.2.1) = true))))
theorem cD_f {t u : TS} (h : frm kCr t u) (hD : cD t T L j V) : cD u T L j V := by
  obtain ⟨h1, h2, h3, h4, h5, h6⟩ := hD
  exact ⟨h1, by rw [(h.1 704 rfl).2.2.1]; exact h2, by rw [(h.1 705 rfl).2.1]; exact h3, by rw [(h.1 2700 rfl).2.2.2.1]; exact h4, fun i hi => by rw [(h.1 2700 rfl).2.2.2.2.1]; exact h5 i hi, by rw [(h.1 2702 rfl).2.2.2.2.1]; exact h6⟩
theorem peek_eq {t : TS} (hD : cD t T L j V) {p : Nat} (h : tI t 706 0 = nt p) (hp : p ≤ L) : F_X7_peek t = some (pk (chA T L p)) := by
  obtain ⟨h1, h2, h3, h4, h5, h6⟩ := hD
  unfold F_X7_peek
  rw [h, h3, igE (by omega) (by omega)]
  by_cases e : L ≤ p
  · rw [if_pos e, chA_end e]; rfl
  · obtain ⟨q1, q2⟩ := h5 p (by omega)
    rw [if_neg e, h2, nxt_e, oc_s, gd_nt _ (by omega) (by omega), nt_cl (by omega), q1, bt_255 _ q2, show chA T L p = T p from if_pos (by omega)]
theorem fail_eq {t : TS} {p : Nat} (h1 : tI t 706 0 = nt p) (h2 : tI t 707 0 = -1) : F_X7_fail t = some (0, uI t 707 0 (nt p)) := by
  unfold F_X7_fail
  rw [h2, if_neg neg1, nxt_e, h1]
theorem fail_f {t : TS} {q : Nat} (hq : q < 2147483648) (h2 : tI t 707 0 = nt q) : F_X7_fail t = some (0, t) := by
  unfold F_X7_fail
  rw [h2, if_pos (nt_nn hq)]
theorem pass_eq {t : TS} (hD : cD t T L j V) {p : Nat} {m : Int32} (hat : cAt t p m) (hp : p ≤ L) {s : Nat} (hs : s < 128) : F_X7_pass t (nt s) = if chA T L p = s then some (uI t 706 0 (nt (p + 1))) else some (uI t 707 0 (nt p)) := by
  have hD0 := hD
  obtain ⟨h1, h2, h3, h4, h5, h6⟩ := hD
  obtain ⟨a1, a2, a3⟩ := hat
  unfold F_X7_pass B_X7_pass_44
  rw [a2, if_neg neg1, a1, h3, igE (by omega) (by omega), fail_eq a1 a2, ob2_s]
  by_cases e : L ≤ p
  · rw [if_pos e, chA_end e, if_neg (by omega)]
  · obtain ⟨q1, q2⟩ := h5 p (by omega)
    have c1 : (¬ bt (T p) = nt s) = ¬ T p = s := congrArg Not (propext (bt_eq _ q2 s hs))
    rw [if_neg e, h2, nxt_e, oc_s, gd_nt _ (by omega) (by omega), nt_cl (by omega), q1, ifP c1, nt_succ, nxt_e, show chA T L p = T p from if_pos (by omega)]
    by_cases c : T p = s
    · rw [if_neg (fun q => q c), if_pos c]
    · rw [if_pos c, if_neg c]
theorem pass_f {t : TS} {q : Nat} (hq : q < 2147483648) (h2 : tI t 707 0 = nt q) (s : Int32) : F_X7_pass t s = some t := by
  unfold F_X7_pass B_X7_pass_44
  rw [h2, if_pos (nt_nn hq), fail_f hq h2, ob2_s]
/-- behind a reading that went wrong nothing is passed -/
theorem pass_bad {t : TS} (hD : cD t T L j V) {q : Nat} (hq : q ≤ L) (h0 : tI t 706 0 = nt q) (h : tI t 707 0 = nt q ∨ (tI t 707 0 = -1 ∧ isD (chA T L q) = true)) {s : Nat} (hs : s < 128) (hsd : isD s = false) : ∃ u, F_X7_pass t (nt s) = some u ∧ frm kCr t u ∧ tI u 706 0 = nt q ∧ tI u 707 0 = nt q := by
  have hL160 := hD.1
  rcases h with h | ⟨h1, h3⟩
  · exact ⟨t, pass_f (by omega) h _, frm_rf, h0, h⟩
  · rw [pass_eq hD (m := tI t 703 0) ⟨h0, h1, rfl⟩ hq hs, if_neg (fun e => by rw [e, hsd] at h3; cases h3)]
    exact ⟨_, rfl, frm_uI rfl, by rw [I_uI_n (by decide)]; exact h0, by rw [I_uI, m1_s]⟩
theorem fail_bad {t : TS} (hD : cD t T L j V) {q : Nat} (hq : q ≤ L) (h0 : tI t 706 0 = nt q) (h : tI t 707 0 = nt q ∨ (tI t 707 0 = -1 ∧ isD (chA T L q) = true)) : ∃ u, F_X7_fail t = some (0, u) ∧ frm kCr t u ∧ tI u 706 0 = nt q ∧ tI u 707 0 = nt q := by
  have hL160 := hD.1
  rcases h with h | ⟨h1, h3⟩
  · exact ⟨t, fail_f (by omega) h, frm_rf, h0, h⟩
  · exact ⟨_, fail_eq h0 h1, frm_uI rfl, by rw [I_uI_n (by decide)]; exact h0, by rw [I_uI, m1_s]⟩
end
