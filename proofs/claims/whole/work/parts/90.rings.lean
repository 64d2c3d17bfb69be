/-! PART 90: rings, the model's search. -/
def rgM (w : Nat → Nat) (Vd : Nat → Nat) (g k fr : Nat) : Nat := if g.testBit fr then 0 else if fr = k then Vd (g ||| 2 ^ fr) else if (w k).testBit fr then (if Vd (g ||| 2 ^ fr) = 0 then 0 else Vd (g ||| 2 ^ fr) + 1) else 0
def rgF (mw : Nat → Nat) (k : Nat) : Nat → Nat × Nat
  | 0 => (0, k)
  | j + 1 => if j = k then rgF mw k j else if (rgF mw k j).1 < mw j then (mw j, j) else rgF mw k j
def rgW (mw : Nat → Nat) (k n : Nat) : Nat × Nat := if (rgF mw k n).1 < mw k then (mw k, k) else rgF mw k n
def rgV (w : Nat → Nat) (n : Nat) : Nat → Nat → Nat
  | 0, _ => 1
  | d + 1, g => (rgW (rgM w (rgV w n d) g (n - (d + 1))) (n - (d + 1)) n).1
def rgC (w : Nat → Nat) (n d g : Nat) : Nat := (rgW (rgM w (rgV w n d) g (n - (d + 1))) (n - (d + 1)) n).2
def rgp (k c : Nat) (f : Nat → Int32) (i : Nat) : Int32 := if i = k then (if c = k then -2 else nt c) else f i
def rgP (w : Nat → Nat) (n : Nat) : Nat → Nat → Nat → Int32
  | 0, _, _ => 0
  | d + 1, g, i => rgp (n - (d + 1)) (rgC w n d g) (rgP w n d (g ||| 2 ^ rgC w n d g)) i
theorem rgF_le {mw : Nat → Nat} {k B : Nat} : ∀ j, (∀ i, i < j → mw i ≤ B) → (rgF mw k j).1 ≤ B
  | 0, _ => Nat.zero_le _
  | j + 1, h => by
    have h1 := rgF_le (mw := mw) (k := k) j (fun i hi => h i (by omega))
    have h2 := h j (by omega)
    unfold rgF
    by_cases e : j = k
    · rw [if_pos e]; exact h1
    · rw [if_neg e]
      by_cases e2 : (rgF mw k j).1 < mw j
      · rw [if_pos e2]; exact h2
      · rw [if_neg e2]; exact h1
theorem rgM_le {w Vd : Nat → Nat} {B : Nat} (h : ∀ g, Vd g ≤ B) (g k fr : Nat) : rgM w Vd g k fr ≤ B + 1 := by
  have := h (g ||| 2 ^ fr)
  unfold rgM
  split
  · omega
  · split
    · omega
    · split
      · split <;> omega
      · omega
theorem rgV_le (w : Nat → Nat) (n : Nat) : ∀ d g, rgV w n d g ≤ d + 1
  | 0, _ => Nat.le_refl _
  | d + 1, g => by
    have h := rgM_le (w := w) (rgV_le w n d) g (n - (d + 1))
    unfold rgV rgW
    split
    · exact h _
    · exact rgF_le n (fun i _ => h i)
theorem nt_and (a b : Nat) : nt a &&& nt b = nt (a &&& b) := by
  refine Int32.toBitVec.inj ?_
  show BitVec.ofNat 32 a &&& BitVec.ofNat 32 b = BitVec.ofNat 32 (a &&& b)
  rw [BitVec.ofNat_and]
theorem nt_or (a b : Nat) : nt a ||| nt b = nt (a ||| b) := by
  refine Int32.toBitVec.inj ?_
  show BitVec.ofNat 32 a ||| BitVec.ofNat 32 b = BitVec.ofNat 32 (a ||| b)
  rw [BitVec.ofNat_or]
theorem or_pow {g k : Nat} (hk : k ≤ 10) : nt g ||| ((1 : Int32) <<< (nt k &&& 31)) = nt (g ||| 2 ^ k) := by rw [pow_b k hk, nt_or]
theorem or_lt : ∀ g, g < 256 → ∀ k, k < 8 → g ||| 2 ^ k < 256 := by decide +kernel
theorem pc_or : ∀ g, g < 256 → ∀ k, k < 8 → g.testBit k = false → pcB (g ||| 2 ^ k) = pcB g + 1 := by decide +kernel
theorem enc_lt : ∀ m, m < 20 → ∀ a, a < 20 → (nt m - 1 < nt a ↔ m ≤ a) := by decide +kernel
theorem enc_0 : ∀ m, m < 20 → (nt m - 1 < 0 ↔ m = 0) := by decide +kernel
theorem enc_inj {a b : Nat} (ha : a < 100) (hb : b < 100) (h : nt a - 1 = nt b - 1) : a = b := by
  have h2 := congrArg (fun z => z + 1) h
  simp only [Int32.sub_add_cancel] at h2
  exact (nt_inj (by omega) (by omega)).mp h2
theorem enc_s (m : Nat) : nt (m + 1) - 1 = nt m := nt_pred m
section
variable {t : TS} {n : Nat} {w : Nat → Nat}
/-- what the search knows: nothing better than m, or a first best one of value v with the picks f -/
def rgS (t u : TS) (n k m dn v : Nat) (f : Nat → Int32) : Prop := ((v = 0 ∨ dn + v ≤ m) ∧ tI u 1380 0 = nt m - 1 ∧ ∀ i, i < n → tA u 3378 0 i = tA t 3378 0 i) ∨ (¬ (v = 0 ∨ dn + v ≤ m) ∧ tI u 1380 0 = nt (dn + v) - 1 ∧ ∀ i, i < n → tA u 3378 0 i = if i < k then tA t 3377 0 i else f i)
theorem ring_copy (g : Nat → TS → Int32 → Int32 → Int32 → Int32 → Option TS) (hL : Ilen t) (hn : n ≤ 8) (h75 : tI t 1375 0 = nt n) : ∃ u, B_X13_ring_50 g 10000 t 0 = some u ∧ frm (ks [3378]) t u ∧ ∀ i, i < n → tA u 3378 0 i = tA t 3377 0 i := by
  obtain ⟨N, hN⟩ : ∃ N : Nat, N = 10000 := ⟨_, rfl⟩
  rw [← hN]
  refine loop_wh (B := fun fu (x : Nat × TS) => B_X13_ring_50 g fu x.2 (nt x.1)) (mu := fun x => n - x.1) (G := fun o => ∃ u, o = some u ∧ frm (ks [3378]) t u ∧ ∀ i, i < n → tA u 3378 0 i = tA t 3377 0 i) (P := fun x => x.1 ≤ n ∧ frm (ks [3378]) t x.2 ∧ ∀ i, i < x.1 → tA x.2 3378 0 i = tA t 3377 0 i) ?_ N (0, t) ⟨Nat.zero_le _, frm_rf, fun i hi => absurd hi (Nat.not_lt_zero i)⟩ (by show n - 0 < N; omega)
  intro fu x hx
  obtain ⟨k, u⟩ := x
  have hk : k ≤ n := hx.1
  have h : frm (ks [3378]) t u := hx.2.1
  have hz : ∀ i, i < k → tA u 3378 0 i = tA t 3377 0 i := hx.2.2
  show (∃ u', BB_X13_ring_50 g (B_X13_ring_50 g fu) u (nt k) = _ ∧ _) ∨ ∃ a', BB_X13_ring_50 g (B_X13_ring_50 g fu) u (nt k) = _ ∧ _
  have hL1 := Ilen_f h hL
  have e75 : tI u 1375 0 = nt n := by rw [(h.1 1375 rfl).2.1, h75]
  have e77 : tA u 3377 0 = tA t 3377 0 := by rw [(h.1 3377 rfl).2.2.2.2.1]
  unfold BB_X13_ring_50
  rw [e75, igE (by omega) (by omega)]
  by_cases e : k = n
  · left
    subst e
    exact ⟨u, if_pos (Nat.le_refl _), h, hz⟩
  · right
    refine ⟨(k + 1, uA u 3378 0 k (tA t 3377 0 k)), ?_, ⟨by show k + 1 ≤ n; omega, frm_tr h (frm_uA rfl), fun i hi => ?_⟩, by show n - (k + 1) < n - k; omega⟩
    · rw [if_neg (by omega), (show tL _ 3377 0 = 8 from hL1 3377 rfl), (show tL _ 3378 0 = 8 from hL1 3378 rfl), gd_nt _ (by omega) (by omega), gd_nt _ (by omega) (by omega), nt_cl (by omega), nxt_e, nt_succ, e77]
    · show tA (uA u 3378 0 k (tA t 3377 0 k)) 3378 0 i = _
      rw [A_uA, m1_s]
      by_cases e2 : i = k
      · subst e2; rw [m1_s]
      · have : i < k + 1 := hi
        rw [m1_n e2]; exact hz i (by omega)
theorem ring_eq (hn : n ≤ 8) (hw : ∀ k, k < n → (w k).testBit k = false ∧ w k < 256) : ∀ d, d ≤ n → ∀ N, d < N → ∀ t gv out dn m, Ilen t → tI t 1375 0 = nt n → (∀ i, i < n → tA t 3376 0 i = nt (w i)) → gv < 256 → out < 256 → (∀ i, ¬ (gv.testBit i = true ∧ out.testBit i = true)) → (∀ i, n - d ≤ i → out.testBit i = false) → pcB gv = dn → dn ≤ n - d → m ≤ 9 → tI t 1380 0 = nt m - 1 → ∃ u, G_X13_ring N 0 t (nt (n - d)) (nt gv) (nt out) (nt dn) = some u ∧ frm (ks [1380, 3377, 3378]) t u ∧ (∀ i, i < n - d → tA u 3377 0 i = tA t 3377 0 i) ∧ rgS t u n (n - d) m dn (rgV w n d (gv ||| out)) (rgP w n d (gv ||| out)) := by
  intro d
  induction d with
  | zero =>
    intro _ N hN t gv out dn m hL h75 hw6 hgv hout hdis _ hpc hdn hm h80
    obtain ⟨N, rfl⟩ : ∃ k, N = k + 1 := ⟨N - 1, by omega⟩
    rw [GS_X13_ring]
    unfold Fb_X13_ring
    have e1 : nt dn + nt n - nt n = nt dn := by rw [nt_add, nt_sub (Nat.le_add_left _ _), Nat.add_sub_cancel]
    rw [h75, h80, Nat.sub_zero, e1]
    by_cases c : m ≤ dn
    · rw [if_pos ((enc_lt m (by omega) dn (by omega)).mpr c), if_neg (fun q => q rfl)]
      have hz : gv &&& out = 0 := Nat.eq_of_testBit_eq (fun i => by
        rw [Nat.testBit_and, Nat.zero_testBit]
        cases a : gv.testBit i <;> cases b : out.testBit i
        · rfl
        · rfl
        · rfl
        · exact absurd ⟨a, b⟩ (hdis i))
      rw [nt_and, hz, if_neg (fun q => q rfl), bitsOf_eq (by omega), ob_s, hpc, if_pos rfl, nxt_e]
      have hf : frm (ks [1380]) t (uI t 1380 0 (nt dn)) := frm_uI rfl
      obtain ⟨u, q1, q2, q3⟩ := ring_copy (G_X13_ring N) (t := uI t 1380 0 (nt dn)) (n := n) (Ilen_f hf hL) hn (by rw [I_uI_n (by decide)]; exact h75)
      refine ⟨u, q1, frm_tr (frm_sb hf (ks_sb rfl)) (frm_sb q2 (ks_sb rfl)), fun i _ => ?_, Or.inr ⟨?_, ?_, fun i hi => ?_⟩⟩
      · rw [(q2.1 3377 rfl).2.2.2.2.1]; rfl
      · show ¬ ((1 : Nat) = 0 ∨ dn + 1 ≤ m)
        omega
      · rw [(q2.1 1380 rfl).2.1, I_uI, m1_s]
        exact (enc_s dn).symm
      · rw [if_pos (by omega), q3 i hi]; rfl
    · rw [if_neg (fun q => c ((enc_lt m (by omega) dn (by omega)).mp q))]
      exact ⟨t, rfl, frm_rf, fun _ _ => rfl, Or.inl ⟨Or.inr (show dn + 1 ≤ m by omega), h80, fun _ _ => rfl⟩⟩
  | succ d ih =>
    intro hd N hN t gv out dn m hL h75 hw6 hgv hout hdis hup hpc hdn hm h80
    obtain ⟨N, rfl⟩ : ∃ k, N = k + 1 := ⟨N - 1, by omega⟩
    obtain ⟨k, hk⟩ : ∃ k, n - (d + 1) = k := ⟨_, rfl⟩
    have hkn : n - d = k + 1 := by omega
    have hVl := rgV_le w n d
    rw [hk] at hup hdn
    rw [GS_X13_ring, hk]
    unfold Fb_X13_ring
    have e1 : nt dn + nt n - nt k = nt (dn + (d + 1)) := by rw [nt_add, nt_sub (by omega)]; exact congrArg nt (by omega)
    have ekn : ¬ nt k = nt n := by rw [eq_nt (by omega) (by omega)]; omega
    rw [h75, h80, e1]
    by_cases cm : m ≤ dn + (d + 1)
    case neg =>
      rw [if_neg (fun q => cm ((enc_lt m (by omega) _ (by omega)).mp q))]
      have := rgV_le w n (d + 1) (gv ||| out)
      exact ⟨t, rfl, frm_rf, fun _ _ => rfl, Or.inl ⟨Or.inr (by omega), h80, fun _ _ => rfl⟩⟩
    rw [if_pos ((enc_lt m (by omega) _ (by omega)).mpr cm), if_pos ekn]
    obtain ⟨mw, hmw⟩ : ∃ mw, mw = rgM w (rgV w n d) (gv ||| out) k := ⟨_, rfl⟩
    have hmB : ∀ j, mw j ≤ d + 2 := fun j => by rw [hmw]; exact rgM_le hVl _ _ _
    obtain ⟨pt, hpt⟩ : ∃ pt : Nat → Nat → Int32, pt = fun c => rgp k c (rgP w n d ((gv ||| out) ||| 2 ^ c)) := ⟨_, rfl⟩
    have hVV : rgV w n (d + 1) (gv ||| out) = (rgW mw k n).1 := by
      show (rgW (rgM w (rgV w n d) (gv ||| out) (n - (d + 1))) (n - (d + 1)) n).1 = _
      rw [hk, hmw]
    have hPP : rgP w n (d + 1) (gv ||| out) = pt (rgW mw k n).2 := by
      funext i
      show rgp (n - (d + 1)) (rgC w n d (gv ||| out)) (rgP w n d ((gv ||| out) ||| 2 ^ rgC w n d (gv ||| out))) i = _
      have e2 : rgC w n d (gv ||| out) = (rgW mw k n).2 := by
        unfold rgC
        rw [hk, hmw]
      rw [hk, e2, hpt]
    rw [hVV, hPP]
    -- one option's step: what a call with pick c brings
    have step : ∀ u v0 c0 c u' x, frm (ks [1380, 3377, 3378]) t u → (∀ i, i < k → tA u 3377 0 i = tA t 3377 0 i) → rgS t u n k m dn v0 (pt c0) → ∀ m1, v0 ≤ 20 → m1 ≤ 20 → tI u 1380 0 = nt m1 - 1 → rgS (uA u 3377 0 k (if c = k then -2 else nt c)) u' n (k + 1) m1 (if c = k then dn else dn + 1) x (rgP w n d ((gv ||| out) ||| 2 ^ c)) → frm (ks [1380, 3377, 3378]) (uA u 3377 0 k (if c = k then -2 else nt c)) u' → (mw c = if x = 0 then 0 else if c = k then x else x + 1) → rgS t u' n k m dn (if v0 < mw c then mw c else v0) (pt (if v0 < mw c then c else c0)) := by
      intro u v0 c0 c u' x hf htr hS m1 hv0 hm1 h80u hS' hf' hx
      have hbest : ∀ i, i < n → tA (uA u 3377 0 k (if c = k then -2 else nt c)) 3378 0 i = tA u 3378 0 i := fun _ _ => rfl
      have htl : ∀ i, i < n → (if i < k + 1 then tA (uA u 3377 0 k (if c = k then -2 else nt c)) 3377 0 i else rgP w n d ((gv ||| out) ||| 2 ^ c) i) = if i < k then tA t 3377 0 i else pt c i := by
        intro i _
        rw [A_uA, m1_s, hpt]
        show _ = if i < k then tA t 3377 0 i else rgp k c (rgP w n d ((gv ||| out) ||| 2 ^ c)) i
        unfold rgp
        by_cases e2 : i < k
        · rw [if_pos (by omega), if_pos e2, m1_n (by omega), htr i e2]
        · by_cases e3 : i = k
          · subst e3
            rw [if_pos (by omega), if_neg e2, if_pos rfl, m1_s]
          · rw [if_neg (by omega), if_neg e2, if_neg e3]
      rcases hS with ⟨a1, a2, a3⟩ | ⟨a1, a2, a3⟩
      · have em : m1 = m := enc_inj (by omega) (by omega) (h80u.symm.trans a2)
        subst em
        rcases hS' with ⟨b1_, b2, b3⟩ | ⟨b1_, b2, b3⟩
        · left
          refine ⟨?_, b2, fun i hi => by rw [b3 i hi, hbest i hi, a3 i hi]⟩
          rw [hx]
          by_cases ex : x = 0
          · rw [if_pos ex]
            simp only [Nat.not_lt_zero, if_false]
            exact a1
          · rw [if_neg ex]
            by_cases ec : c = k
            · rw [if_pos ec] at b1_ ⊢
              split <;> omega
            · rw [if_neg ec] at b1_ ⊢
              split <;> omega
        · right
          have ex : ¬ x = 0 := fun q => b1_ (Or.inl q)
          rw [hx, if_neg ex]
          by_cases ec : c = k
          · rw [if_pos ec] at b1_ b2 ⊢
            have hl : v0 < x := by omega
            rw [if_pos hl, if_pos hl]
            exact ⟨by omega, b2, fun i hi => by rw [b3 i hi, htl i hi]⟩
          · rw [if_neg ec] at b1_ b2 ⊢
            have hl : v0 < x + 1 := by omega
            rw [if_pos hl, if_pos hl]
            refine ⟨by omega, by rw [b2]; exact congrArg (fun z => nt z - 1) (by omega), fun i hi => by rw [b3 i hi, htl i hi]⟩
      · have em : m1 = dn + v0 := enc_inj (by omega) (by omega) (h80u.symm.trans a2)
        subst em
        rcases hS' with ⟨b1_, b2, b3⟩ | ⟨b1_, b2, b3⟩
        · right
          have hl : ¬ v0 < mw c := by
            rw [hx]
            by_cases ex : x = 0
            · rw [if_pos ex]; omega
            · rw [if_neg ex]
              by_cases ec : c = k
              · rw [if_pos ec] at b1_ ⊢; omega
              · rw [if_neg ec] at b1_ ⊢; omega
          rw [if_neg hl, if_neg hl]
          exact ⟨a1, b2, fun i hi => by rw [b3 i hi, hbest i hi, a3 i hi]⟩
        · right
          have ex : ¬ x = 0 := fun q => b1_ (Or.inl q)
          rw [hx, if_neg ex]
          by_cases ec : c = k
          · rw [if_pos ec] at b1_ b2 ⊢
            have hl : v0 < x := by omega
            rw [if_pos hl, if_pos hl]
            exact ⟨by omega, b2, fun i hi => by rw [b3 i hi, htl i hi]⟩
          · rw [if_neg ec] at b1_ b2 ⊢
            have hl : v0 < x + 1 := by omega
            rw [if_pos hl, if_pos hl]
            refine ⟨by omega, by rw [b2]; exact congrArg (fun z => nt z - 1) (by omega), fun i hi => by rw [b3 i hi, htl i hi]⟩
    have hbit : ∀ j, (gv ||| out).testBit j = (gv.testBit j || out.testBit j) := fun j => Nat.testBit_or gv out j
    -- the loop over the players
    have loop : ∃ u, (∀ o, B_X13_ring_161 (G_X13_ring N) u (nt k) (nt gv) (nt out) (nt dn) = o → B_X13_ring_83 (G_X13_ring N) 10000 t (nt k) (nt gv) (nt out) (nt dn) 0 = o) ∧ frm (ks [1380, 3377, 3378]) t u ∧ (∀ i, i < k → tA u 3377 0 i = tA t 3377 0 i) ∧ rgS t u n k m dn (rgF mw k n).1 (pt (rgF mw k n).2) := by
      obtain ⟨M, hM⟩ : ∃ M : Nat, M = 10000 := ⟨_, rfl⟩
      rw [← hM]
      refine loop_wh (B := fun fu (x : Nat × TS) => B_X13_ring_83 (G_X13_ring N) fu x.2 (nt k) (nt gv) (nt out) (nt dn) (nt x.1)) (mu := fun x => n - x.1) (G := fun r => ∃ u, (∀ o, B_X13_ring_161 (G_X13_ring N) u (nt k) (nt gv) (nt out) (nt dn) = o → r = o) ∧ frm (ks [1380, 3377, 3378]) t u ∧ (∀ i, i < k → tA u 3377 0 i = tA t 3377 0 i) ∧ rgS t u n k m dn (rgF mw k n).1 (pt (rgF mw k n).2)) (P := fun x => x.1 ≤ n ∧ frm (ks [1380, 3377, 3378]) t x.2 ∧ (∀ i, i < k → tA x.2 3377 0 i = tA t 3377 0 i) ∧ rgS t x.2 n k m dn (rgF mw k x.1).1 (pt (rgF mw k x.1).2)) ?_ M (0, t) ⟨Nat.zero_le _, frm_rf, fun _ _ => rfl, Or.inl ⟨Or.inl rfl, h80, fun _ _ => rfl⟩⟩ (by show n - 0 < M; omega)
      intro fu x hx
      obtain ⟨j, u⟩ := x
      have hj : j ≤ n := hx.1
      have hf : frm (ks [1380, 3377, 3378]) t u := hx.2.1
      have htr : ∀ i, i < k → tA u 3377 0 i = tA t 3377 0 i := hx.2.2.1
      have hS : rgS t u n k m dn (rgF mw k j).1 (pt (rgF mw k j).2) := hx.2.2.2
      show (∃ u', (∀ o, _ → BB_X13_ring_83 (G_X13_ring N) (B_X13_ring_83 (G_X13_ring N) fu) u (nt k) (nt gv) (nt out) (nt dn) (nt j) = o) ∧ _) ∨ ∃ a', BB_X13_ring_83 (G_X13_ring N) (B_X13_ring_83 (G_X13_ring N) fu) u (nt k) (nt gv) (nt out) (nt dn) (nt j) = _ ∧ _
      have hLu := Ilen_f hf hL
      have e75 : tI u 1375 0 = nt n := by rw [(hf.1 1375 rfl).2.1, h75]
      have e76 : tA u 3376 = tA t 3376 := (hf.1 3376 rfl).2.2.2.2.1
      unfold BB_X13_ring_83
      rw [e75, igE (by omega) (by omega)]
      by_cases e : j = n
      · left
        rw [if_pos (by omega)]
        rw [e] at hS
        exact ⟨u, fun o q => q, hf, htr, hS⟩
      right
      rw [if_neg (by omega)]
      unfold B_X13_ring_155
      rw [(show tL _ 3376 0 = 8 from hLu 3376 rfl), (show tL _ 3377 0 = 8 from hLu 3377 rfl), gd_nt _ (by omega) (by omega), nt_cl (by omega), e76, hw6 k (by omega), bit_bb (by have := (hw k (by omega)).2; omega) (by omega), bit_bb (by omega) (by omega), bit_bb (by omega) (by omega), gw0, nt_succ]
      have hFs : rgF mw k (j + 1) = if j = k then rgF mw k j else if (rgF mw k j).1 < mw j then (mw j, j) else rgF mw k j := rfl
      have skip : (j = k ∨ mw j = 0) → rgS t u n k m dn (rgF mw k (j + 1)).1 (pt (rgF mw k (j + 1)).2) := by
        intro q
        have : rgF mw k (j + 1) = rgF mw k j := by
          rw [hFs]
          rcases q with q | q
          · rw [if_pos q]
          · rw [q, if_neg (Nat.not_lt_zero _), ite_self]
        rw [this]; exact hS
      by_cases c1 : (w k).testBit j = true
      case neg =>
        rw [if_neg c1]
        refine ⟨(j + 1, u), rfl, ⟨by show j + 1 ≤ n; omega, hf, htr, skip ?_⟩, by show n - (j + 1) < n - j; omega⟩
        by_cases e2 : j = k
        · exact Or.inl e2
        · right
          rw [hmw]
          unfold rgM
          rw [if_neg e2, if_neg c1, ite_self]
      rw [if_pos c1]
      have ejk : ¬ j = k := fun q => by
        rw [q, (hw k (by omega)).1] at c1; cases c1
      by_cases c2 : gv.testBit j = true
      · rw [c2, if_pos (show b1 true = 1 from rfl)]
        refine ⟨(j + 1, u), rfl, ⟨by show j + 1 ≤ n; omega, hf, htr, skip (Or.inr ?_)⟩, by show n - (j + 1) < n - j; omega⟩
        rw [hmw]
        unfold rgM
        rw [hbit, c2, Bool.true_or, if_pos rfl]
      have c2f : gv.testBit j = false := by simpa using c2
      rw [c2f, if_neg (by decide)]
      by_cases c3 : out.testBit j = true
      · rw [c3, if_neg (fun q => q rfl)]
        refine ⟨(j + 1, u), rfl, ⟨by show j + 1 ≤ n; omega, hf, htr, skip (Or.inr ?_)⟩, by show n - (j + 1) < n - j; omega⟩
        rw [hmw]
        unfold rgM
        rw [hbit, c3, Bool.or_true, if_pos rfl]
      have c3f : out.testBit j = false := by simpa using c3
      rw [c3f, if_pos (by decide), gd_nt _ (by omega) (by omega), nxt_e, or_pow (by omega), nt_succ]
      have huj : (gv ||| 2 ^ j) ||| out = (gv ||| out) ||| 2 ^ j := by rw [Nat.or_assoc, Nat.or_comm (2 ^ j) out, ← Nat.or_assoc]
      have hmj : mw j = if rgV w n d ((gv ||| out) ||| 2 ^ j) = 0 then 0 else if j = k then rgV w n d ((gv ||| out) ||| 2 ^ j) else rgV w n d ((gv ||| out) ||| 2 ^ j) + 1 := by
        rw [hmw]
        unfold rgM
        rw [hbit, c2f, c3f, Bool.or_false, if_neg (by decide), if_neg ejk, if_pos c1, if_neg ejk]
      have h80u : ∃ m1, m1 ≤ 9 ∧ tI u 1380 0 = nt m1 - 1 := by
        rcases hS with ⟨-, a2, -⟩ | ⟨-, a2, -⟩
        · exact ⟨m, hm, a2⟩
        · have := rgF_le (mw := mw) (k := k) (B := d + 2) j (fun i _ => hmB i)
          exact ⟨_, by omega, a2⟩
      obtain ⟨m1, hm1, h80u⟩ := h80u
      have hfa : frm (ks [1380, 3377, 3378]) u (uA u 3377 0 k (nt j)) := frm_uA rfl
      obtain ⟨u', r1, r2, r3, r4⟩ := ih (by omega) N (by omega) (uA u 3377 0 k (nt j)) (gv ||| 2 ^ j) out (dn + 1) m1 (Ilen_f hfa hLu) e75 (fun i hi => by rw [(hfa.1 3376 rfl).2.2.2.2.1, e76]; exact hw6 i hi) (or_lt gv hgv j (by omega)) hout (fun i q => by
        rw [Nat.testBit_or, Nat.testBit_two_pow] at q
        by_cases e2 : j = i
        · subst e2; rw [c3f] at q; cases q.2
        · rw [decide_eq_false e2, Bool.or_false] at q; exact hdis i q) (fun i hi => hup i (by omega)) (by rw [pc_or gv hgv j (by omega) c2f, hpc]) (by omega) hm1 h80u
      rw [hkn] at r1 r3 r4
      rw [huj] at r4
      refine ⟨(j + 1, u'), ?_, ⟨by show j + 1 ≤ n; omega, frm_tr hf (frm_tr hfa r2), fun i hi => ?_, ?_⟩, by show n - (j + 1) < n - j; omega⟩
      · rw [nt_succ dn, r1, ob_s]
      · show tA u' 3377 0 i = _
        rw [r3 i (by omega), A_uA, m1_s, m1_n (by omega), htr i hi]
      · show rgS t u' n k m dn (rgF mw k (j + 1)).1 (pt (rgF mw k (j + 1)).2)
        have hst := step u (rgF mw k j).1 (rgF mw k j).2 j u' (rgV w n d ((gv ||| out) ||| 2 ^ j)) hf htr hS m1 (by have := rgF_le (mw := mw) (k := k) (B := d + 2) j (fun i _ => hmB i); omega) (by omega) h80u (by rw [if_neg ejk, if_neg ejk]; exact r4) (by rw [if_neg ejk]; exact r2) hmj
        have e3 : rgF mw k (j + 1) = (if (rgF mw k j).1 < mw j then mw j else (rgF mw k j).1, if (rgF mw k j).1 < mw j then j else (rgF mw k j).2) := by
          rw [hFs, if_neg ejk]
          split <;> rfl
        rw [e3]
        exact hst
    obtain ⟨u, l1, l2, l3, l4⟩ := loop
    have hLu := Ilen_f l2 hL
    rw [l1 _ rfl]
    unfold B_X13_ring_161
    rw [bit_bb (by omega) (by omega)]
    by_cases c2 : gv.testBit k = true
    · rw [c2, if_neg (fun q => q rfl)]
      have hz : mw k = 0 := by
        rw [hmw]
        unfold rgM
        rw [hbit, c2, Bool.true_or, if_pos rfl]
      have hw0 : rgW mw k n = rgF mw k n := by
        unfold rgW
        rw [hz, if_neg (Nat.not_lt_zero _)]
      rw [hw0]
      exact ⟨u, rfl, l2, l3, l4⟩
    have c2f : gv.testBit k = false := by simpa using c2
    have c3f : out.testBit k = false := hup k (Nat.le_refl _)
    rw [c2f, if_pos (by decide), (show tL _ 3377 0 = 8 from hLu 3377 rfl), gd_nt _ (by omega) (by omega), nxt_e, or_pow (by omega), nt_succ, nt_cl (by omega)]
    have huj : gv ||| (out ||| 2 ^ k) = (gv ||| out) ||| 2 ^ k := (Nat.or_assoc gv out (2 ^ k)).symm
    have hmk : mw k = if rgV w n d ((gv ||| out) ||| 2 ^ k) = 0 then 0 else if k = k then rgV w n d ((gv ||| out) ||| 2 ^ k) else rgV w n d ((gv ||| out) ||| 2 ^ k) + 1 := by
      rw [hmw]
      unfold rgM
      rw [hbit, c2f, c3f, Bool.or_false, if_neg (by decide), if_pos rfl, if_pos rfl]
      split
      · assumption
      · rfl
    have hvn := rgF_le (mw := mw) (k := k) (B := d + 2) n (fun i _ => hmB i)
    obtain ⟨m1, hm1, h80u⟩ : ∃ m1, m1 ≤ 9 ∧ tI u 1380 0 = nt m1 - 1 := by
      rcases l4 with ⟨-, a2, -⟩ | ⟨-, a2, -⟩
      · exact ⟨m, hm, a2⟩
      · exact ⟨_, by omega, a2⟩
    have hfa : frm (ks [1380, 3377, 3378]) u (uA u 3377 0 k (-2)) := frm_uA rfl
    obtain ⟨u', r1, r2, r3, r4⟩ := ih (by omega) N (by omega) (uA u 3377 0 k (-2)) gv (out ||| 2 ^ k) dn m1 (Ilen_f hfa hLu) (by rw [(hfa.1 1375 rfl).2.1, (l2.1 1375 rfl).2.1]; exact h75) (fun i hi => by rw [(hfa.1 3376 rfl).2.2.2.2.1, (l2.1 3376 rfl).2.2.2.2.1]; exact hw6 i hi) hgv (or_lt out hout k (by omega)) (fun i q => by
      rw [Nat.testBit_or, Nat.testBit_two_pow] at q
      by_cases e2 : k = i
      · subst e2; rw [c2f] at q; cases q.1
      · rw [decide_eq_false e2, Bool.or_false] at q; exact hdis i q) (fun i hi => by
      rw [Nat.testBit_or, Nat.testBit_two_pow, hup i (by omega), decide_eq_false (by omega)]; rfl) hpc (by omega) hm1 h80u
    rw [hkn] at r1 r3 r4
    rw [huj] at r4
    have hst := step u (rgF mw k n).1 (rgF mw k n).2 k u' (rgV w n d ((gv ||| out) ||| 2 ^ k)) l2 l3 l4 m1 (by omega) (by omega) h80u (by rw [if_pos rfl, if_pos rfl]; exact r4) (by rw [if_pos rfl]; exact r2) hmk
    have e3 : rgW mw k n = (if (rgF mw k n).1 < mw k then mw k else (rgF mw k n).1, if (rgF mw k n).1 < mw k then k else (rgF mw k n).2) := by
      unfold rgW
      split <;> rfl
    rw [e3]
    refine ⟨u', by rw [r1, ob_s], frm_tr l2 (frm_tr hfa r2), fun i hi => ?_, hst⟩
    rw [r3 i (by omega), A_uA, m1_s, m1_n (by omega), l3 i hi]
end
