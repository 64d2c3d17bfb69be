/-! PART b1: the model reads a text: parts of numbers. -/
section
variable {T : Nat → Nat} {L R : Nat}
def mD (t : TS) (T : Nat → Nat) (L R : Nat) : Prop := L ≤ 160 ∧ tI t 1354 0 = nt L ∧ tI t 1366 0 = nt R ∧ R < 17 ∧ ∀ i, i < L → tA t 3353 0 i = bt (T i) ∧ T i < 256
def mAt (t : TS) (p o l : Nat) : Prop := tI t 1363 0 = nt p ∧ tI t 1364 0 = -1 ∧ tI t 1365 0 = nt o ∧ tI t 1367 0 = nt l
def kRd : Nat → Bool := ks [1363, 1364, 1365, 1367, 3361, 3362]
def mOut (t u : TS) (R p o l : Nat) (r : Bool × Nat × List (Int32 × Int32)) : Prop := frm kRd t u ∧ (∀ i, i < 200 * R + l → tA u 3361 0 i = tA t 3361 0 i ∧ tA u 3362 0 i = tA t 3362 0 i) ∧ ((r.1 = true ∧ mAt u r.2.1 o (l + r.2.2.length) ∧ ∀ j, j < r.2.2.length → tA u 3361 0 (200 * R + l + j) = (r.2.2.getD j (0, 0)).1 ∧ tA u 3362 0 (200 * R + l + j) = (r.2.2.getD j (0, 0)).2) ∨ (r.1 = false ∧ tI u 1364 0 = nt r.2.1 ∧ ∃ l', tI u 1367 0 = nt l' ∧ l ≤ l' ∧ l' + p ≤ l + r.2.1))
theorem mD_f {t u : TS} (h : frm kRd t u) (hD : mD t T L R) : mD u T L R := by
  obtain ⟨h1, h2, h3, h4, h5⟩ := hD
  exact ⟨h1, by rw [(h.1 1354 rfl).2.1]; exact h2, by rw [(h.1 1366 rfl).2.1]; exact h3, h4, fun i hi => by rw [(h.1 3353 rfl).2.2.2.2.1]; exact h5 i hi⟩
theorem chA_le (hT : ∀ i, i < L → T i < 256) (p : Nat) : chA T L p ≤ 256 := by
  unfold chA
  split
  · rename_i h; have := hT p h; omega
  · omega
theorem chA_end {p : Nat} (h : L ≤ p) : chA T L p = 256 := if_neg (by omega)
theorem look_eq {t : TS} (hL : Ilen t) (hD : mD t T L R) {p : Nat} (h : tI t 1363 0 = nt p) (hp : p ≤ L) : F_X13_look t = some (lk (chA T L p)) := by
  obtain ⟨h1, h2, h3, h4, h5⟩ := hD
  unfold F_X13_look
  rw [h, h2, igE (by omega) (by omega)]
  by_cases e : L ≤ p
  · rw [if_pos e, chA_end e]; rfl
  · obtain ⟨q1, q2⟩ := h5 p (by omega)
    rw [if_neg e, (show tL _ 3353 0 = 160 from hL 3353 rfl), gd_nt _ (by omega) (by omega), nt_cl (by omega), q1]
    rw [show chA T L p = T p from if_pos (by omega)]
    unfold lk
    rw [if_neg (by omega)]
theorem lay_eq {t : TS} (hL : Ilen t) {l : Nat} (h1 : tI t 1366 0 = nt R) (h2 : tI t 1367 0 = nt l) (hR : R < 17) (hl : l < 200) (k v : Int32) : F_X13_lay t k v = some (uI (uA (uA t 3361 0 (200 * R + l) k) 3362 0 (200 * R + l) v) 1367 0 (nt (l + 1))) := by
  have e : (200 : Int32) * nt R + nt l = nt (200 * R + l) := by rw [show (200 : Int32) = nt 200 from rfl, nt_mul, nt_add]
  have e1 : tI (uA t 3361 0 (200 * R + l) k) = tI t := rfl
  unfold F_X13_lay
  rw [h1, h2, e, (show tL _ 3361 0 = 3400 from hL 3361 rfl), gd_nt _ (by omega) (by omega), nt_cl (by omega), nxt_e, e1, h1, h2, e, show tL (uA t 3361 0 (200 * R + l) k) 3362 0 = 3400 from hL 3362 rfl, gd_nt _ (by omega) (by omega), nt_cl (by omega), nxt_e, nxt_e, show tI (uA (uA t 3361 0 (200 * R + l) k) 3362 0 (200 * R + l) v) = tI t from rfl, h2, nt_succ]
theorem mOut_lay {t u : TS} {p o l q : Nat} {c : List (Int32 × Int32)} (hLu : Ilen u) (hD : mD u T L R) (hO : mOut t u R p o l (true, q, c)) (hb : l + c.length < 200) (k v : Int32) : ∃ u', F_X13_lay u k v = some u' ∧ mOut t u' R p o l (true, q, c ++ [(k, v)]) := by
  obtain ⟨f, pre, h⟩ := hO
  rcases h with ⟨-, h2, h3⟩ | ⟨h1, -⟩
  case inr => cases h1
  obtain ⟨a1, a2, a3, a4⟩ := h2
  refine ⟨_, lay_eq hLu hD.2.2.1 a4 hD.2.2.2.1 hb k v, frm_tr f (frm_tr (frm_uA rfl) (frm_tr (frm_uA rfl) (frm_uI rfl))), fun i hi => ?_, Or.inl ⟨rfl, ⟨?_, ?_, ?_, ?_⟩, fun j hj => ?_⟩⟩
  · have hi2 : ¬ i = 200 * R + (l + c.length) := by omega
    have := pre i hi
    simp (disch := omega) only [I_uI, I_uI_n, R_uR, R_uR_n, A_uA, A_uA_n, J_uJ, J_uJ_n, Q_uQ, Q_uQ_n, E_uO, E_uO_n, I_uO, I_uO_n, R_uO, R_uO_n, E_uN, E_uN_n, L_uN, L_uN_n, A_uN, A_uN_n, J_uN, J_uN_n, Q_uN, Q_uN_n, A_uCA, A_uCA_n, J_uCJ, J_uCJ_n, E_uI, R_uI, L_uI, A_uI, J_uI, Q_uI, E_uR, I_uR, L_uR, A_uR, J_uR, Q_uR, E_uA, I_uA, R_uA, L_uA, J_uA, Q_uA, E_uJ, I_uJ, R_uJ, L_uJ, A_uJ, Q_uJ, E_uQ, I_uQ, R_uQ, L_uQ, A_uQ, J_uQ, L_uO, A_uO, J_uO, Q_uO, I_uN, R_uN, E_uCA, I_uCA, R_uCA, L_uCA, J_uCA, Q_uCA, E_uCJ, I_uCJ, R_uCJ, L_uCJ, A_uCJ, Q_uCJ, m1_s, m1_n hi2]
    exact this
  · simp (disch := omega) only [I_uI, I_uI_n, R_uR, R_uR_n, A_uA, A_uA_n, J_uJ, J_uJ_n, Q_uQ, Q_uQ_n, E_uO, E_uO_n, I_uO, I_uO_n, R_uO, R_uO_n, E_uN, E_uN_n, L_uN, L_uN_n, A_uN, A_uN_n, J_uN, J_uN_n, Q_uN, Q_uN_n, A_uCA, A_uCA_n, J_uCJ, J_uCJ_n, E_uI, R_uI, L_uI, A_uI, J_uI, Q_uI, E_uR, I_uR, L_uR, A_uR, J_uR, Q_uR, E_uA, I_uA, R_uA, L_uA, J_uA, Q_uA, E_uJ, I_uJ, R_uJ, L_uJ, A_uJ, Q_uJ, E_uQ, I_uQ, R_uQ, L_uQ, A_uQ, J_uQ, L_uO, A_uO, J_uO, Q_uO, I_uN, R_uN, E_uCA, I_uCA, R_uCA, L_uCA, J_uCA, Q_uCA, E_uCJ, I_uCJ, R_uCJ, L_uCJ, A_uCJ, Q_uCJ, m1_s]; exact a1
  · simp (disch := omega) only [I_uI, I_uI_n, R_uR, R_uR_n, A_uA, A_uA_n, J_uJ, J_uJ_n, Q_uQ, Q_uQ_n, E_uO, E_uO_n, I_uO, I_uO_n, R_uO, R_uO_n, E_uN, E_uN_n, L_uN, L_uN_n, A_uN, A_uN_n, J_uN, J_uN_n, Q_uN, Q_uN_n, A_uCA, A_uCA_n, J_uCJ, J_uCJ_n, E_uI, R_uI, L_uI, A_uI, J_uI, Q_uI, E_uR, I_uR, L_uR, A_uR, J_uR, Q_uR, E_uA, I_uA, R_uA, L_uA, J_uA, Q_uA, E_uJ, I_uJ, R_uJ, L_uJ, A_uJ, Q_uJ, E_uQ, I_uQ, R_uQ, L_uQ, A_uQ, J_uQ, L_uO, A_uO, J_uO, Q_uO, I_uN, R_uN, E_uCA, I_uCA, R_uCA, L_uCA, J_uCA, Q_uCA, E_uCJ, I_uCJ, R_uCJ, L_uCJ, A_uCJ, Q_uCJ, m1_s]; exact a2
  · simp (disch := omega) only [I_uI, I_uI_n, R_uR, R_uR_n, A_uA, A_uA_n, J_uJ, J_uJ_n, Q_uQ, Q_uQ_n, E_uO, E_uO_n, I_uO, I_uO_n, R_uO, R_uO_n, E_uN, E_uN_n, L_uN, L_uN_n, A_uN, A_uN_n, J_uN, J_uN_n, Q_uN, Q_uN_n, A_uCA, A_uCA_n, J_uCJ, J_uCJ_n, E_uI, R_uI, L_uI, A_uI, J_uI, Q_uI, E_uR, I_uR, L_uR, A_uR, J_uR, Q_uR, E_uA, I_uA, R_uA, L_uA, J_uA, Q_uA, E_uJ, I_uJ, R_uJ, L_uJ, A_uJ, Q_uJ, E_uQ, I_uQ, R_uQ, L_uQ, A_uQ, J_uQ, L_uO, A_uO, J_uO, Q_uO, I_uN, R_uN, E_uCA, I_uCA, R_uCA, L_uCA, J_uCA, Q_uCA, E_uCJ, I_uCJ, R_uCJ, L_uCJ, A_uCJ, Q_uCJ, m1_s]; exact a3
  · simp (disch := omega) only [I_uI, I_uI_n, R_uR, R_uR_n, A_uA, A_uA_n, J_uJ, J_uJ_n, Q_uQ, Q_uQ_n, E_uO, E_uO_n, I_uO, I_uO_n, R_uO, R_uO_n, E_uN, E_uN_n, L_uN, L_uN_n, A_uN, A_uN_n, J_uN, J_uN_n, Q_uN, Q_uN_n, A_uCA, A_uCA_n, J_uCJ, J_uCJ_n, E_uI, R_uI, L_uI, A_uI, J_uI, Q_uI, E_uR, I_uR, L_uR, A_uR, J_uR, Q_uR, E_uA, I_uA, R_uA, L_uA, J_uA, Q_uA, E_uJ, I_uJ, R_uJ, L_uJ, A_uJ, Q_uJ, E_uQ, I_uQ, R_uQ, L_uQ, A_uQ, J_uQ, L_uO, A_uO, J_uO, Q_uO, I_uN, R_uN, E_uCA, I_uCA, R_uCA, L_uCA, J_uCA, Q_uCA, E_uCJ, I_uCJ, R_uCJ, L_uCJ, A_uCJ, Q_uCJ, m1_s]
    rw [List.length_append, List.length_cons, List.length_nil]
    rfl
  · simp (disch := omega) only [I_uI, I_uI_n, R_uR, R_uR_n, A_uA, A_uA_n, J_uJ, J_uJ_n, Q_uQ, Q_uQ_n, E_uO, E_uO_n, I_uO, I_uO_n, R_uO, R_uO_n, E_uN, E_uN_n, L_uN, L_uN_n, A_uN, A_uN_n, J_uN, J_uN_n, Q_uN, Q_uN_n, A_uCA, A_uCA_n, J_uCJ, J_uCJ_n, E_uI, R_uI, L_uI, A_uI, J_uI, Q_uI, E_uR, I_uR, L_uR, A_uR, J_uR, Q_uR, E_uA, I_uA, R_uA, L_uA, J_uA, Q_uA, E_uJ, I_uJ, R_uJ, L_uJ, A_uJ, Q_uJ, E_uQ, I_uQ, R_uQ, L_uQ, A_uQ, J_uQ, L_uO, A_uO, J_uO, Q_uO, I_uN, R_uN, E_uCA, I_uCA, R_uCA, L_uCA, J_uCA, Q_uCA, E_uCJ, I_uCJ, R_uCJ, L_uCJ, A_uCJ, Q_uCJ, m1_s]
    have hj' : j < c.length + 1 := by
      have h4 : j < (c ++ [(k, v)]).length := hj
      rw [List.length_append, List.length_cons, List.length_nil] at h4
      exact h4
    by_cases e : j = c.length
    · subst e
      rw [show 200 * R + l + c.length = 200 * R + (l + c.length) by omega, m1_s, m1_s]
      show k = ((c ++ [(k, v)]).getD c.length (0, 0)).1 ∧ v = ((c ++ [(k, v)]).getD c.length (0, 0)).2
      rw [List.getD_eq_getElem?_getD, List.getElem?_append_right (Nat.le_refl _), Nat.sub_self]
      exact ⟨rfl, rfl⟩
    · have hi2 : ¬ 200 * R + l + j = 200 * R + (l + c.length) := by omega
      rw [m1_n hi2, m1_n hi2]
      have := h3 j (by show j < c.length; omega)
      show tA u 3361 0 (200 * R + l + j) = ((c ++ [(k, v)]).getD j (0, 0)).1 ∧ tA u 3362 0 (200 * R + l + j) = ((c ++ [(k, v)]).getD j (0, 0)).2
      rw [List.getD_eq_getElem?_getD, List.getElem?_append_left (by omega), ← List.getD_eq_getElem?_getD]
      exact this
theorem mOut_app {t u u1 v : TS} {p0 o l0 p q : Nat} {c c2 : List (Int32 × Int32)} (hO : mOut t u R p0 o l0 (true, p, c)) (h1 : frm (ks [1363, 1365]) u u1) (p1 o1 : Nat) (hO2 : mOut u1 v R p1 o1 (l0 + c.length) (true, q, c2)) : frm kRd t v ∧ (∀ i, i < 200 * R + l0 → tA v 3361 0 i = tA t 3361 0 i ∧ tA v 3362 0 i = tA t 3362 0 i) ∧ mAt v q o1 (l0 + (c ++ c2).length) ∧ ∀ j, j < (c ++ c2).length → tA v 3361 0 (200 * R + l0 + j) = ((c ++ c2).getD j (0, 0)).1 ∧ tA v 3362 0 (200 * R + l0 + j) = ((c ++ c2).getD j (0, 0)).2 := by
  obtain ⟨f, pre, h⟩ := hO
  rcases h with ⟨-, h2, h3⟩ | ⟨h4, -⟩
  case inr => cases h4
  obtain ⟨f', pre', h'⟩ := hO2
  rcases h' with ⟨-, h2', h3'⟩ | ⟨h4, -⟩
  case inr => cases h4
  have e1 : tA u1 3361 = tA u 3361 := (h1.1 3361 rfl).2.2.2.2.1
  have e2 : tA u1 3362 = tA u 3362 := (h1.1 3362 rfl).2.2.2.2.1
  rw [e1, e2] at pre'
  refine ⟨frm_tr f (frm_tr (frm_sb h1 (ks_sb rfl)) f'), fun i hi => ?_, ?_, fun j hj => ?_⟩
  · obtain ⟨q1, q2⟩ := pre' i (by omega)
    obtain ⟨q3, q4⟩ := pre i hi
    exact ⟨q1.trans q3, q2.trans q4⟩
  · rw [List.length_append, ← Nat.add_assoc]
    exact h2'
  · rw [List.length_append] at hj
    rw [List.getD_eq_getElem?_getD]
    by_cases e : j < c.length
    · rw [List.getElem?_append_left e, ← List.getD_eq_getElem?_getD]
      obtain ⟨q1, q2⟩ := pre' (200 * R + l0 + j) (by omega)
      obtain ⟨q3, q4⟩ := h3 j e
      exact ⟨q1.trans q3, q2.trans q4⟩
    · rw [List.getElem?_append_right (by omega), ← List.getD_eq_getElem?_getD]
      have := h3' (j - c.length) (by show j - c.length < c2.length; omega)
      rw [show 200 * R + (l0 + c.length) + (j - c.length) = 200 * R + l0 + j by omega] at this
      exact this
theorem ffn : ¬ false = true := by decide
theorem neg1 : ¬ (0 : Int32) ≤ -1 := by decide
theorem wrong_eq {t : TS} {p : Nat} (h1 : tI t 1363 0 = nt p) (h2 : tI t 1364 0 = -1) : F_X13_wrong t = some (uI t 1364 0 (nt p)) := by
  unfold F_X13_wrong
  rw [h2, if_neg neg1, nxt_e, h1]
/-- the four loops of the model -/
theorem mloop {g : TS → Option TS} {B : Nat → TS → Option TS} {sg : Nat → Bool} {op : Nat → Int32} {rec : Nat → Bool × Nat × List (Int32 × Int32)} {o : Nat} (hT : ∀ i, i < L → T i < 256) (hL160 : L ≤ 160) (hR : R < 17) (hsg : sg 256 = false)
    (hrgo : ∀ p, p ≤ L → pgo L p (rec p))
    (hg : ∀ t p l, Ilen t → mD t T L R → mAt t p o l → p ≤ L → l ≤ p → ∃ u, g t = some u ∧ mOut t u R p o l (rec p))
    (hB0 : ∀ fu t p l, Ilen t → mD t T L R → mAt t p o l → p ≤ L → sg (chA T L p) = false → B (fu + 1) t = some t)
    (hB1 : ∀ fu t p l, Ilen t → mD t T L R → mAt t p o l → p ≤ L → sg (chA T L p) = true → B (fu + 1) t = Option.bind (g (uI t 1363 0 (nt (p + 1)))) (fun r => Option.bind (F_X13_lay r (op (chA T L p)) 0) (fun r' => B fu r')))
    (hBf : ∀ fu t, 0 ≤ tI t 1364 0 → B (fu + 1) t = some t) {t : TS} (hL : Ilen t) (hD : mD t T L R) {p0 l0 : Nat} (hl0 : l0 ≤ p0) : ∀ f p c u fu, mOut t u R p0 o l0 (true, p, c) → p ≤ L → p0 + c.length ≤ p → L - p < f → L - p < fu → ∃ u', B fu u = some u' ∧ mOut t u' R p0 o l0 (pLp (chA T L) sg op rec f p c)
  | 0, p, c, u, fu, _, _, _, h1, _ => by omega
  | f + 1, p, c, u, fu, hO, hp, hc, h1, h2 => by
    obtain ⟨fu, rfl⟩ : ∃ k, fu = k + 1 := ⟨fu - 1, by omega⟩
    have hO0 := hO
    obtain ⟨fr, pre, h⟩ := hO
    rcases h with ⟨-, hat, hpl⟩ | ⟨h4, -⟩
    case inr => cases h4
    have hLu := Ilen_f fr hL
    have hDu := mD_f fr hD
    unfold pLp
    by_cases cs : sg (chA T L p) = true
    case neg =>
      have cs' : sg (chA T L p) = false := by simpa using cs
      rw [if_neg cs, hB0 fu u p _ hLu hDu hat hp cs']
      exact ⟨u, rfl, hO0⟩
    rw [if_pos cs, hB1 fu u p _ hLu hDu hat hp cs]
    have hpL : p < L := by
      by_cases e : p < L
      · exact e
      · rw [chA_end (by omega), hsg] at cs; cases cs
    have f1 : frm (ks [1363, 1365]) u (uI u 1363 0 (nt (p + 1))) := frm_uI rfl
    have f1' : frm kRd u (uI u 1363 0 (nt (p + 1))) := frm_uI rfl
    have hat1 : mAt (uI u 1363 0 (nt (p + 1))) (p + 1) o (l0 + c.length) := by
      obtain ⟨a1, a2, a3, a4⟩ := hat
      refine ⟨?_, ?_, ?_, ?_⟩
      · simp (disch := omega) only [I_uI, I_uI_n, R_uR, R_uR_n, A_uA, A_uA_n, J_uJ, J_uJ_n, Q_uQ, Q_uQ_n, E_uO, E_uO_n, I_uO, I_uO_n, R_uO, R_uO_n, E_uN, E_uN_n, L_uN, L_uN_n, A_uN, A_uN_n, J_uN, J_uN_n, Q_uN, Q_uN_n, A_uCA, A_uCA_n, J_uCJ, J_uCJ_n, E_uI, R_uI, L_uI, A_uI, J_uI, Q_uI, E_uR, I_uR, L_uR, A_uR, J_uR, Q_uR, E_uA, I_uA, R_uA, L_uA, J_uA, Q_uA, E_uJ, I_uJ, R_uJ, L_uJ, A_uJ, Q_uJ, E_uQ, I_uQ, R_uQ, L_uQ, A_uQ, J_uQ, L_uO, A_uO, J_uO, Q_uO, I_uN, R_uN, E_uCA, I_uCA, R_uCA, L_uCA, J_uCA, Q_uCA, E_uCJ, I_uCJ, R_uCJ, L_uCJ, A_uCJ, Q_uCJ, m1_s]
      · simp (disch := omega) only [I_uI, I_uI_n, R_uR, R_uR_n, A_uA, A_uA_n, J_uJ, J_uJ_n, Q_uQ, Q_uQ_n, E_uO, E_uO_n, I_uO, I_uO_n, R_uO, R_uO_n, E_uN, E_uN_n, L_uN, L_uN_n, A_uN, A_uN_n, J_uN, J_uN_n, Q_uN, Q_uN_n, A_uCA, A_uCA_n, J_uCJ, J_uCJ_n, E_uI, R_uI, L_uI, A_uI, J_uI, Q_uI, E_uR, I_uR, L_uR, A_uR, J_uR, Q_uR, E_uA, I_uA, R_uA, L_uA, J_uA, Q_uA, E_uJ, I_uJ, R_uJ, L_uJ, A_uJ, Q_uJ, E_uQ, I_uQ, R_uQ, L_uQ, A_uQ, J_uQ, L_uO, A_uO, J_uO, Q_uO, I_uN, R_uN, E_uCA, I_uCA, R_uCA, L_uCA, J_uCA, Q_uCA, E_uCJ, I_uCJ, R_uCJ, L_uCJ, A_uCJ, Q_uCJ, m1_s]; exact a2
      · simp (disch := omega) only [I_uI, I_uI_n, R_uR, R_uR_n, A_uA, A_uA_n, J_uJ, J_uJ_n, Q_uQ, Q_uQ_n, E_uO, E_uO_n, I_uO, I_uO_n, R_uO, R_uO_n, E_uN, E_uN_n, L_uN, L_uN_n, A_uN, A_uN_n, J_uN, J_uN_n, Q_uN, Q_uN_n, A_uCA, A_uCA_n, J_uCJ, J_uCJ_n, E_uI, R_uI, L_uI, A_uI, J_uI, Q_uI, E_uR, I_uR, L_uR, A_uR, J_uR, Q_uR, E_uA, I_uA, R_uA, L_uA, J_uA, Q_uA, E_uJ, I_uJ, R_uJ, L_uJ, A_uJ, Q_uJ, E_uQ, I_uQ, R_uQ, L_uQ, A_uQ, J_uQ, L_uO, A_uO, J_uO, Q_uO, I_uN, R_uN, E_uCA, I_uCA, R_uCA, L_uCA, J_uCA, Q_uCA, E_uCJ, I_uCJ, R_uCJ, L_uCJ, A_uCJ, Q_uCJ, m1_s]; exact a3
      · simp (disch := omega) only [I_uI, I_uI_n, R_uR, R_uR_n, A_uA, A_uA_n, J_uJ, J_uJ_n, Q_uQ, Q_uQ_n, E_uO, E_uO_n, I_uO, I_uO_n, R_uO, R_uO_n, E_uN, E_uN_n, L_uN, L_uN_n, A_uN, A_uN_n, J_uN, J_uN_n, Q_uN, Q_uN_n, A_uCA, A_uCA_n, J_uCJ, J_uCJ_n, E_uI, R_uI, L_uI, A_uI, J_uI, Q_uI, E_uR, I_uR, L_uR, A_uR, J_uR, Q_uR, E_uA, I_uA, R_uA, L_uA, J_uA, Q_uA, E_uJ, I_uJ, R_uJ, L_uJ, A_uJ, Q_uJ, E_uQ, I_uQ, R_uQ, L_uQ, A_uQ, J_uQ, L_uO, A_uO, J_uO, Q_uO, I_uN, R_uN, E_uCA, I_uCA, R_uCA, L_uCA, J_uCA, Q_uCA, E_uCJ, I_uCJ, R_uCJ, L_uCJ, A_uCJ, Q_uCJ, m1_s]; exact a4
    obtain ⟨v, g1, g2⟩ := hg (uI u 1363 0 (nt (p + 1))) (p + 1) (l0 + c.length) (Ilen_f f1 hLu) (mD_f f1' hDu) hat1 hpL (by omega)
    rw [g1, ob_s]
    have hgo := hrgo (p + 1) hpL
    generalize rec (p + 1) = r at g2 hgo ⊢
    obtain ⟨rb, rq, rc⟩ := r
    have fv : frm kRd t v := frm_tr fr (frm_tr f1' g2.1)
    have hLv := Ilen_f fv hL
    have hDv := mD_f fv hD
    cases rb with
    | true =>
      rcases hgo with ⟨-, k1, k2, k3⟩ | ⟨k1, -⟩
      case inr => cases k1
      have k1' : p + 1 < rq := k1
      have k2' : rq ≤ L := k2
      have k3' : p + 1 + rc.length ≤ rq := k3
      obtain ⟨m1, m2, m3, m4⟩ := mOut_app hO0 f1 (p + 1) o g2
      have hOv : mOut t v R p0 o l0 (true, rq, c ++ rc) := ⟨m1, m2, Or.inl ⟨rfl, m3, m4⟩⟩
      obtain ⟨v', n1, n2⟩ := mOut_lay hLv hDv hOv (by rw [List.length_append]; omega) (op (chA T L p)) 0
      rw [n1, ob_s, if_pos rfl]
      exact mloop hT hL160 hR hsg hrgo hg hB0 hB1 hBf hL hD hl0 f rq _ v' fu n2 k2' (by
        show p0 + (c ++ rc ++ [(op (chA T L p), (0 : Int32))]).length ≤ rq
        rw [List.length_append, List.length_append, List.length_cons, List.length_nil]; omega) (by omega) (by omega)
    | false =>
      rcases hgo with ⟨k1, -⟩ | ⟨-, k2, k3⟩
      · cases k1
      have k2' : p + 1 ≤ rq := k2
      have k3' : rq ≤ L := k3
      obtain ⟨gf, gp, gh⟩ := g2
      rcases gh with ⟨gh, -⟩ | ⟨-, gh1, l', gh2, gh3, gh4⟩
      · cases gh
      have gh4' : l' + (p + 1) ≤ l0 + c.length + rq := gh4
      have gh1' : tI v 1364 0 = nt rq := gh1
      rw [lay_eq hLv hDv.2.2.1 gh2 hR (by omega), ob_s, if_neg ffn]
      obtain ⟨fu, rfl⟩ : ∃ k, fu = k + 1 := ⟨fu - 1, by omega⟩
      have e64 : tI (uI (uA (uA v 3361 0 (200 * R + l') (op (chA T L p))) 3362 0 (200 * R + l') 0) 1367 0 (nt (l' + 1))) 1364 0 = nt rq := by
        simp (disch := omega) only [I_uI, I_uI_n, R_uR, R_uR_n, A_uA, A_uA_n, J_uJ, J_uJ_n, Q_uQ, Q_uQ_n, E_uO, E_uO_n, I_uO, I_uO_n, R_uO, R_uO_n, E_uN, E_uN_n, L_uN, L_uN_n, A_uN, A_uN_n, J_uN, J_uN_n, Q_uN, Q_uN_n, A_uCA, A_uCA_n, J_uCJ, J_uCJ_n, E_uI, R_uI, L_uI, A_uI, J_uI, Q_uI, E_uR, I_uR, L_uR, A_uR, J_uR, Q_uR, E_uA, I_uA, R_uA, L_uA, J_uA, Q_uA, E_uJ, I_uJ, R_uJ, L_uJ, A_uJ, Q_uJ, E_uQ, I_uQ, R_uQ, L_uQ, A_uQ, J_uQ, L_uO, A_uO, J_uO, Q_uO, I_uN, R_uN, E_uCA, I_uCA, R_uCA, L_uCA, J_uCA, Q_uCA, E_uCJ, I_uCJ, R_uCJ, L_uCJ, A_uCJ, Q_uCJ, m1_s]; exact gh1'
      rw [hBf fu _ (by rw [e64]; exact nt_nn (by omega))]
      refine ⟨_, rfl, frm_tr fv (frm_tr (frm_uA rfl) (frm_tr (frm_uA rfl) (frm_uI rfl))), fun i hi => ?_, Or.inr ⟨rfl, e64, l' + 1, ?_, by omega, by show l' + 1 + p0 ≤ l0 + rq; omega⟩⟩
      · have hi2 : ¬ i = 200 * R + l' := by omega
        obtain ⟨q1, q2⟩ := gp i (by omega)
        obtain ⟨q3, q4⟩ := pre i hi
        simp (disch := omega) only [I_uI, I_uI_n, R_uR, R_uR_n, A_uA, A_uA_n, J_uJ, J_uJ_n, Q_uQ, Q_uQ_n, E_uO, E_uO_n, I_uO, I_uO_n, R_uO, R_uO_n, E_uN, E_uN_n, L_uN, L_uN_n, A_uN, A_uN_n, J_uN, J_uN_n, Q_uN, Q_uN_n, A_uCA, A_uCA_n, J_uCJ, J_uCJ_n, E_uI, R_uI, L_uI, A_uI, J_uI, Q_uI, E_uR, I_uR, L_uR, A_uR, J_uR, Q_uR, E_uA, I_uA, R_uA, L_uA, J_uA, Q_uA, E_uJ, I_uJ, R_uJ, L_uJ, A_uJ, Q_uJ, E_uQ, I_uQ, R_uQ, L_uQ, A_uQ, J_uQ, L_uO, A_uO, J_uO, Q_uO, I_uN, R_uN, E_uCA, I_uCA, R_uCA, L_uCA, J_uCA, Q_uCA, E_uCJ, I_uCJ, R_uCJ, L_uCJ, A_uCJ, Q_uCJ, m1_s, m1_n hi2]
        exact ⟨q1.trans q3, q2.trans q4⟩
      · simp (disch := omega) only [I_uI, I_uI_n, R_uR, R_uR_n, A_uA, A_uA_n, J_uJ, J_uJ_n, Q_uQ, Q_uQ_n, E_uO, E_uO_n, I_uO, I_uO_n, R_uO, R_uO_n, E_uN, E_uN_n, L_uN, L_uN_n, A_uN, A_uN_n, J_uN, J_uN_n, Q_uN, Q_uN_n, A_uCA, A_uCA_n, J_uCJ, J_uCJ_n, E_uI, R_uI, L_uI, A_uI, J_uI, Q_uI, E_uR, I_uR, L_uR, A_uR, J_uR, Q_uR, E_uA, I_uA, R_uA, L_uA, J_uA, Q_uA, E_uJ, I_uJ, R_uJ, L_uJ, A_uJ, Q_uJ, E_uQ, I_uQ, R_uQ, L_uQ, A_uQ, J_uQ, L_uO, A_uO, J_uO, Q_uO, I_uN, R_uN, E_uCA, I_uCA, R_uCA, L_uCA, J_uCA, Q_uCA, E_uCJ, I_uCJ, R_uCJ, L_uCJ, A_uCJ, Q_uCJ, m1_s]
theorem mrun {g : TS → Option TS} {B : Nat → TS → Option TS} {sg : Nat → Bool} {op : Nat → Int32} {rec : Nat → Bool × Nat × List (Int32 × Int32)} {o : Nat} (hT : ∀ i, i < L → T i < 256) (hL160 : L ≤ 160) (hR : R < 17) (hsg : sg 256 = false)
    (hrgo : ∀ p, p ≤ L → pgo L p (rec p))
    (hg : ∀ t p l, Ilen t → mD t T L R → mAt t p o l → p ≤ L → l ≤ p → ∃ u, g t = some u ∧ mOut t u R p o l (rec p))
    (hB0 : ∀ fu t p l, Ilen t → mD t T L R → mAt t p o l → p ≤ L → sg (chA T L p) = false → B (fu + 1) t = some t)
    (hB1 : ∀ fu t p l, Ilen t → mD t T L R → mAt t p o l → p ≤ L → sg (chA T L p) = true → B (fu + 1) t = Option.bind (g (uI t 1363 0 (nt (p + 1)))) (fun r => Option.bind (F_X13_lay r (op (chA T L p)) 0) (fun r' => B fu r')))
    (hBf : ∀ fu t, 0 ≤ tI t 1364 0 → B (fu + 1) t = some t) {t : TS} (hL : Ilen t) (hD : mD t T L R) {p l : Nat} (hat : mAt t p o l) (hp : p ≤ L) (hl : l ≤ p) : ∃ u, Option.bind (g t) (fun r => B 10000 r) = some u ∧ mOut t u R p o l (pRp (chA T L) sg op rec p) := by
  obtain ⟨u, g1, g2⟩ := hg t p l hL hD hat hp hl
  have hgo := hrgo p hp
  rw [g1, ob_s]
  unfold pRp
  generalize rec p = r at g2 hgo ⊢
  obtain ⟨rb, rq, rc⟩ := r
  cases rb with
  | true =>
    rcases hgo with ⟨-, k1, k2, k3⟩ | ⟨k1, -⟩
    case inr => cases k1
    obtain ⟨N, hN⟩ : ∃ N : Nat, N = 10000 := ⟨_, rfl⟩
    rw [if_pos rfl, ← hN]
    exact mloop hT hL160 hR hsg hrgo hg hB0 hB1 hBf hL hD hl 200 rq rc u N g2 k2 k3 (by omega) (by omega)
  | false =>
    rcases hgo with ⟨k1, -⟩ | ⟨-, k2, k3⟩
    · cases k1
    have k3' : rq ≤ L := k3
    obtain ⟨gf, gp, gh⟩ := g2
    rcases gh with ⟨gh, -⟩ | ⟨-, gh1, l', gh2, gh3, gh4⟩
    · cases gh
    have gh1' : tI u 1364 0 = nt rq := gh1
    obtain ⟨N, hN⟩ : ∃ N : Nat, 10000 = N + 1 := ⟨9999, rfl⟩
    rw [hN, hBf N u (by rw [gh1']; exact nt_nn (by omega)), if_neg ffn]
    exact ⟨u, rfl, gf, gp, Or.inr ⟨rfl, gh1', l', gh2, gh3, gh4⟩⟩
end
