/-! PART f0: shares by the model. -/
section
variable {n W : Nat} {q : Nat → Nat}
theorem mkM_0 {rs : Nat → Nat} (i : Nat) : mkM n rs 0 i = false := rfl
theorem pr_leW (hS : 0 < sN q n) {i : Nat} (hi : i < n) : prN n W q i ≤ W := by
  unfold prN
  have h1 := sN_one (f := fun i => W * q i / sN q n) n i hi
  have h1' : W * q i / sN q n ≤ sN (fun i => W * q i / sN q n) n := h1
  have h2 := base_le (W := W) hS
  obtain ⟨L, hL⟩ : ∃ L, L = W - sN (fun i => W * q i / sN q n) n := ⟨_, rfl⟩
  rw [← hL]
  cases L with
  | zero => rw [mkM_0, if_neg (by decide)]; omega
  | succ L => split <;> omega
/-- what of a fee goes to those that taught: each one's, in all -/
def shW (nB fee co : Nat) (q : Nat → Nat) : Nat := if sN (wq co q) nB = 0 then 0 else (fee * 5 + 99) / 100
def shr (nB fee co : Nat) (q : Nat → Nat) (i : Nat) : Nat := if sN (wq co q) nB = 0 then 0 else prN nB ((fee * 5 + 99) / 100) (wq co q) i
theorem shW_le {nB fee co : Nat} {q : Nat → Nat} (hf : fee ≤ 999999) : shW nB fee co q ≤ 50000 := by
  unfold shW
  split <;> omega
theorem shr_le {nB fee co : Nat} {q : Nat → Nat} (hf : fee ≤ 999999) {i : Nat} (hi : i < nB) : shr nB fee co q i ≤ 50000 := by
  unfold shr
  by_cases e : sN (wq co q) nB = 0
  · rw [if_pos e]; omega
  · rw [if_neg e]
    have := pr_leW (W := (fee * 5 + 99) / 100) (q := wq co q) (n := nB) (by omega) hi
    omega
end
section
variable {t : TS} {nB nS nM p co d m fee : Nat}
theorem tch_le (hB : Mbody nB t) (hp : p < nB) (hd : d ≤ 2999) (c : Nat) : tch t nS p d c ≤ 4000 := by
  unfold tch
  have h1 := cnk_le (f := cz t nS p) (c := c) (z := D0 t p) (NN t p d)
  have h2 := (last_bdM hB hp hd).2.2.2.2
  omega
theorem up_eq (u : TS) {a b : Nat} (h : a * b + 99 < 2147483648) : F_X13_up u (nt a) (nt b) = some (nt ((a * b + 99) / 100)) := by
  unfold F_X13_up
  rw [nt_mul, show (99 : Int32) = nt 99 from rfl, nt_add, show (100 : Int32) = nt 100 from rfl, nt_div h (by omega)]
theorem hun_eq (u : TS) {a b : Nat} (h : a * b + 99 < 2147483648) : F_X12_hundredths u (nt a) (nt b) = some (nt ((a * b + 99) / 100)) := by
  unfold F_X12_hundredths
  rw [nt_mul, show (99 : Int32) = nt 99 from rfl, nt_add, show (100 : Int32) = nt 100 from rfl, nt_div h (by omega)]
theorem ps_all (hL : Ilen t) (hB : Mbody nB t) (hS : Mspan nB nS t) (hday : tI t 1301 0 = nt d) (hd : d ≤ 2999) (hp : p < nB) (hco : co < nB) (hm : m < 200) (h28 : tA t 3328 0 m = nt p) (h29 : tA t 3329 0 m = nt co) (hf : fee ≤ 999999) (h31 : tA t 3331 0 m = nt fee) (hz : ∀ i, i < 150 → tA t 3347 0 (150 * m + i) = 0) (h43 : tA t 3343 0 m = 0) : ∃ u, F_X13_payShares t (nt m) = some u ∧ frm (ks [3325, 3326, 3347, 3343]) t u ∧ (∀ j, tA u 3347 0 j = if 150 * m ≤ j ∧ j < 150 * m + nB then nt (shr nB fee co (tch t nS p d) (j - 150 * m)) else tA t 3347 0 j) ∧ (∀ k, tA u 3343 0 k = mm_u1 (tA t 3343 0) m (nt (shW nB fee co (tch t nS p d))) k) := by
  have hnB := hB.1
  obtain ⟨u1, a1, a2, a3⟩ := ft_eqM hL hB hS hp hd hday
  have hq : ∀ i, i < nB → tch t nS p d i ≤ 4000 := fun i _ => tch_le hB hp hd i
  have hL1 := Ilen_f a2 hL
  have e07 : tI u1 1307 0 = nt nB := by rw [(a2.1 1307 rfl).2.1]; exact hB.2.1
  have e29 : tA u1 3329 0 m = nt co := by rw [(a2.1 3329 rfl).2.2.2.2.1]; exact h29
  have e31 : tA u1 3331 0 m = nt fee := by rw [(a2.1 3331 rfl).2.2.2.2.1]; exact h31
  have e47 : tA u1 3347 = tA t 3347 := (a2.1 3347 rfl).2.2.2.2.1
  have e43 : tA u1 3343 = tA t 3343 := (a2.1 3343 rfl).2.2.2.2.1
  have hsum := ps_sum hL1 hnB hm hco e07 e29 a3 hq
  have hSb := wq_sum (co := co) hnB hq
  unfold F_X13_payShares
  rw [(show tL _ 3328 0 = 200 from hL 3328 rfl), gd_nt _ (by omega) (by omega), nt_cl (by omega), h28, a1, ob_s, hsum]
  unfold B_X13_payShares_58
  have cS : (lg_cmp (jn (sN (wq co (tch t nS p d)) nB)) 0 = 0) = (sN (wq co (tch t nS p d)) nB = 0) := lj_eq (b := 0) (by omega) (by omega)
  rw [(show tL _ 3331 0 = 200 from hL1 3331 rfl), gd_nt _ (by omega) (by omega), nt_cl (by omega), e31, show (5 : Int32) = nt 5 from rfl, up_eq u1 (by omega), ob_s, ifP (congrArg Not cS)]
  by_cases e0 : sN (wq co (tch t nS p d)) nB = 0
  · rw [if_neg (fun g => g e0)]
    refine ⟨u1, rfl, frm_sb a2 (ks_sb rfl), fun j => ?_, fun k => ?_⟩
    · rw [e47]
      unfold shr
      rw [if_pos e0]
      by_cases c : 150 * m ≤ j ∧ j < 150 * m + nB
      · rw [if_pos c, show j = 150 * m + (j - 150 * m) by omega, hz _ (by omega)]; rfl
      · rw [if_neg c]
    · unfold shW
      rw [e43, if_pos e0]
      by_cases c : k = m
      · rw [c, m1_s, h43]; rfl
      · rw [m1_n c]
  · rw [if_pos e0]
    have hS0 : 0 < sN (wq co (tch t nS p d)) nB := by omega
    have hW : (fee * 5 + 99) / 100 ≤ 50000 := by omega
    obtain ⟨u2, b1_, b2, b3⟩ := ps_base (W := (fee * 5 + 99) / 100) hL1 hnB hm hco e07 e29 a3 hq (fun i hi => by rw [e47]; exact hz i (by omega)) (by omega) hS0
    have fb : frm (ks [3347]) u1 u2 := oA_f b2 rfl
    obtain ⟨u3, c1, c2, c3⟩ := ps_out (W := (fee * 5 + 99) / 100) (Ilen_f fb hL1) hnB hm hco (by rw [(fb.1 1307 rfl).2.1]; exact e07) (by rw [(fb.1 3329 rfl).2.2.2.2.1]; exact e29) (fun i hi => by rw [(fb.1 3325 rfl).2.2.2.2.1]; exact a3 i hi) hq (by omega) hS0 rfl rfl (fun i hi => by rw [b3, if_pos (by omega), show 150 * m + i - 150 * m = i by omega])
    have fc : frm (ks [3347]) u2 u3 := oA_f c2 rfl
    have hL3 := Ilen_f fc (Ilen_f fb hL1)
    rw [b1_, c1]
    unfold B_X13_payShares_317
    rw [(show tL _ 3343 0 = 200 from hL3 3343 rfl), gd_nt _ (by omega) (by omega), nxt_e, nt_cl (by omega)]
    refine ⟨_, rfl, frm_tr (frm_sb a2 (ks_sb rfl)) (frm_tr (frm_sb fb (ks_sb rfl)) (frm_tr (frm_sb fc (ks_sb rfl)) (frm_uA rfl))), fun j => ?_, fun k => ?_⟩
    · rw [A_uA_n (by decide), c3]
      unfold shr
      rw [if_neg e0]
      by_cases c : 150 * m ≤ j ∧ j < 150 * m + nB
      · rw [if_pos c, if_pos c]
      · rw [if_neg c, if_neg c, b3, if_neg c, e47]
    · unfold shW
      rw [A_uA, m1_s, (fc.1 3343 rfl).2.2.2.2.1, (fb.1 3343 rfl).2.2.2.2.1, e43, if_neg e0]
end
