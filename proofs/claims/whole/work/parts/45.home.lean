/-! PART 45: home grown ones. -/
def sumU (f : Nat → Nat) : Nat → Nat
  | 0 => 0
  | n + 1 => sumU f n + f n
theorem sumU_c {f g : Nat → Nat} : ∀ n, (∀ j, j < n → f j = g j) → sumU f n = sumU g n
  | 0, _ => rfl
  | n + 1, h => by
    unfold sumU
    rw [h n (by omega), sumU_c n (fun j hj => h j (by omega))]
theorem sumU_add {f g : Nat → Nat} : ∀ n, sumU (fun c => f c + g c) n = sumU f n + sumU g n
  | 0 => rfl
  | n + 1 => by
    unfold sumU
    rw [sumU_add n]
    omega
theorem sumU_0 : ∀ n, sumU (fun _ => 0) n = 0
  | 0 => rfl
  | n + 1 => by
    unfold sumU
    rw [sumU_0 n]
theorem sumU_pt {c0 : Nat} {x : Nat} : ∀ n, sumU (fun c => if c = c0 then x else 0) n = if c0 < n then x else 0
  | 0 => by simp [sumU]
  | n + 1 => by
    unfold sumU
    rw [sumU_pt n]
    by_cases e : n = c0
    · subst e; simp
    · by_cases g : c0 < n
      · rw [if_pos g, if_neg e, if_pos (by omega)]; rfl
      · rw [if_neg g, if_neg e, if_neg (by omega)]
theorem sumU_le {f : Nat → Nat} {b : Nat} : ∀ n, (∀ j, j < n → f j ≤ b) → sumU f n ≤ n * b
  | 0, _ => by simp [sumU]
  | n + 1, h => by
    have h1 := sumU_le n (fun j hj => h j (by omega))
    have h2 := h n (by omega)
    unfold sumU
    rw [Nat.add_mul]
    omega
section
variable {t : TS} {nB nS nM p d : Nat}
theorem cz_cl (hS : Mspan nB nS t) (hB : nB ≤ 150) {z : Int} {c : Nat} (h : cz t nS p z = some c) : c < nB ∧ isCl (tA t 3308 0 c) = true := by
  unfold cz at h
  cases e : hol t nS p (it z) with
  | none => rw [e] at h; cases h
  | some s =>
    obtain ⟨⟨c', hc, hcl, hc2⟩, -⟩ := hS.2.2 s (hol_lt e)
    rw [e, oel_s, hc2, nt_cl (by omega)] at h
    cases h
    exact ⟨hc, hcl⟩
/-- the clubs of a league taught as many days as the league did -/
theorem tlg_sum (hS : Mspan nB nS t) (hB : Mbody nB t) (l : Nat) (hl : l < 4) (z : Int) : ∀ m, sumU (fun c => if isCl (tA t 3308 0 c) = true ∧ tA t 3309 0 c = nt l then cnk (cz t nS p) c z m else 0) nB = cnk (lz t nS p) l z m
  | 0 => by
    show sumU (fun c => if isCl (tA t 3308 0 c) = true ∧ tA t 3309 0 c = nt l then 0 else 0) nB = 0
    exact (sumU_c (g := fun _ => 0) nB (fun j _ => ite_self 0)).trans (sumU_0 nB)
  | m + 1 => by
    have ih := tlg_sum hS hB l hl z m
    show sumU (fun c => if isCl (tA t 3308 0 c) = true ∧ tA t 3309 0 c = nt l then cnk (cz t nS p) c z m + (if cz t nS p (z + m) = some c then 1 else 0) else 0) nB = cnk (lz t nS p) l z m + (if lz t nS p (z + m) = some l then 1 else 0)
    have e1 : sumU (fun c => if isCl (tA t 3308 0 c) = true ∧ tA t 3309 0 c = nt l then cnk (cz t nS p) c z m + (if cz t nS p (z + m) = some c then 1 else 0) else 0) nB = sumU (fun c => (if isCl (tA t 3308 0 c) = true ∧ tA t 3309 0 c = nt l then cnk (cz t nS p) c z m else 0) + (if isCl (tA t 3308 0 c) = true ∧ tA t 3309 0 c = nt l then (if cz t nS p (z + m) = some c then 1 else 0) else 0)) nB :=
      sumU_c nB (fun j _ => by split <;> simp)
    rw [e1, sumU_add, ih]
    congr 1
    unfold lz
    cases hz : cz t nS p (z + m) with
    | none =>
      rw [oel_n, if_neg (fun q => by cases q)]
      exact (sumU_c (g := fun _ => 0) nB (fun j _ => by simp)).trans (sumU_0 nB)
    | some c0 =>
      obtain ⟨hc0, hcl⟩ := cz_cl hS hB.1 hz
      obtain ⟨-, ⟨l0, hl0, e3⟩, -⟩ := hB.2.2 c0 hc0
      rw [oel_s, e3, nt_cl (by omega)]
      by_cases g : l0 = l
      · subst g
        rw [if_pos rfl]
        refine (sumU_c (g := fun c => if c = c0 then 1 else 0) nB (fun j _ => ?_)).trans ((sumU_pt nB).trans (if_pos hc0))
        by_cases g2 : j = c0
        · subst g2
          rw [if_pos ⟨hcl, e3⟩, if_pos rfl, if_pos rfl]
        · rw [if_neg g2, if_neg (fun q : some c0 = some j => g2 (Option.some.inj q).symm), ite_self]
      · rw [if_neg (fun q => g (Option.some.inj q))]
        refine (sumU_c (g := fun _ => 0) nB (fun j _ => ?_)).trans (sumU_0 nB)
        by_cases g2 : j = c0
        · subst g2
          rw [if_neg (fun q => by rw [e3, eq_nt (by omega) (by omega)] at q; exact g q.2)]
        · rw [if_neg (fun q : some c0 = some j => g2 (Option.some.inj q).symm), ite_self]
def hgf (t : TS) (nS p d l c : Nat) : Nat := if isCl (tA t 3308 0 c) = true ∧ tA t 3309 0 c = nt l then tch t nS p d c else 0
theorem hg_eqM (hL : Ilen t) (hB : Mbody nB t) (hS : Mspan nB nS t) (hp : p < nB) (hd : d ≤ 2999) (hday : tI t 1301 0 = nt d) {l : Nat} (hl : l < 4) :
    ∃ t2, F_X13_isHomeGrown t (nt p) (nt l) = some (b1 (decide (900 ≤ tlg t nS p d l)), t2) ∧ frm (ks [3325, 3326]) t t2 := by
  obtain ⟨t1, h1, h2, h3⟩ := ft_eqM hL hB hS hp hd hday
  have hnB := hB.1
  have hL1 : Ilen t1 := Ilen_f h2 hL
  have hB1 := Mbody_f h2 (by decide) hB
  obtain ⟨r1, r2, r3, r4, r5⟩ := last_bdM hB hp hd
  refine ⟨t1, ?_, h2⟩
  unfold F_X13_isHomeGrown
  rw [h1, ob_s]
  have hsum : ∀ k, sumU (hgf t nS p d l) k ≤ k * 3300 := fun k => sumU_le k (fun j _ => by
    unfold hgf
    by_cases g : isCl (tA t 3308 0 j) = true ∧ tA t 3309 0 j = nt l
    · rw [if_pos g]; exact Nat.le_trans (cnk_le _) r5
    · rw [if_neg g]; exact Nat.zero_le _)
  obtain ⟨N, hN⟩ : ∃ N : Nat, N = 10000 := ⟨_, rfl⟩
  rw [← hN]
  refine loop_wh (B := fun fu (k : Nat) => B_X13_isHomeGrown_10 fu t1 (nt l) (nt (sumU (hgf t nS p d l) k)) (nt k)) (mu := fun k => nB - k) (G := fun o => o = some (b1 (decide (900 ≤ tlg t nS p d l)), t1)) (P := fun k => k ≤ nB) ?_ N 0 (Nat.zero_le _) (by omega)
  intro fu k hk
  show BB_X13_isHomeGrown_10 (B_X13_isHomeGrown_10 fu) t1 _ _ _ = _ ∨ ∃ a', BB_X13_isHomeGrown_10 (B_X13_isHomeGrown_10 fu) t1 _ _ _ = _ ∧ _
  unfold BB_X13_isHomeGrown_10
  rw [hB1.2.1, igE (by omega) (by omega)]
  have hk3 := hsum k
  by_cases e : k = nB
  · left
    subst e
    rw [if_pos (Nat.le_refl _)]
    have := tlg_sum (p := p) hS hB l hl (D0 t p) (NN t p d)
    have e2 : sumU (hgf t nS p d l) k = tlg t nS p d l := this
    rw [e2] at hk3 ⊢
    unfold B_X13_isHomeGrown_59
    rw [show (900 : Int32) = nt 900 from rfl, ilT (by omega) (by omega)]
    by_cases g : tlg t nS p d l < 900
    · rw [if_pos g, decide_eq_false (by omega)]; rfl
    · rw [if_neg g, decide_eq_true (by omega)]; rfl
  · right
    refine ⟨k + 1, ?_, by omega, by omega⟩
    rw [if_neg (by omega), isClub_eqM hL1 hB1, ob_s, gw0]
    have hx : sumU (hgf t nS p d l) (k + 1) = sumU (hgf t nS p d l) k + (if isCl (tA t 3308 0 k) = true ∧ tA t 3309 0 k = nt l then tch t nS p d k else 0) := rfl
    rw [hx]
    rw [(show tL _ 3309 0 = 150 from hL1 3309 rfl), (show tL _ 3325 0 = 150 from hL1 3325 rfl), gd_nt _ (by omega) (by omega), gd_nt _ (by omega) (by omega), nt_cl (by omega), h3 k (by omega), (h2.1 3309 rfl).2.2.2.2.1]
    unfold six
    rw [ix_nt (by omega) (by omega), oel_s, (h2.1 3308 rfl).2.2.2.2.1]
    unfold B_X13_isHomeGrown_50 B_X13_isHomeGrown_51
    cases g : isCl (tA t 3308 0 k)
    · simp only [Bool.false_eq_true, if_false, isS_n, if_true, false_and]
      rw [nt_succ]
      exact congrArg (fun x => B_X13_isHomeGrown_10 fu t1 (nt l) x (nt (k + 1))) (nt_add _ 0)
    · simp only [if_true, isS_s, Bool.true_eq_false, if_false, true_and]
      by_cases g2 : tA t 3309 0 k = nt l
      · rw [if_neg (fun q => q g2), if_pos g2, nt_succ, nt_add]
      · rw [if_pos g2, if_neg g2, nt_succ]
        exact congrArg (fun x => B_X13_isHomeGrown_10 fu t1 (nt l) x (nt (k + 1))) (nt_add _ 0)
theorem hg_eq (hL : Ilen t) (hB : Ibody nB t) (hS : Ispan nB nS nM t) (hp : p < nB) (hd : d ≤ 2999) (hday : tI t 1301 0 = nt d) {l : Nat} (hl : l < 4) :
    ∃ t2, F_X13_isHomeGrown t (nt p) (nt l) = some (b1 (decide (900 ≤ tlg t nS p d l)), t2) ∧ frm (ks [3325, 3326]) t t2 := hg_eqM hL (IbM hB) (IsM hS) hp hd hday hl
end
