/-! PART 41: teaching, class and model. -/
theorem cz_f {D : Nat → Bool} {t t' : TS} {n p : Nat} {z : Int} (h : frm D t t') (hd : ∀ k, k ∈ kHol → D k = false) : cz t' n p z = cz t n p z := by
  unfold cz
  rw [hol_f h hd]
  simp only [(h.1 3318 (hd 3318 (by decide))).2.2.2.2.1]
def D0 (t : TS) (p : Nat) : Int := (tA t 3312 0 p).toInt + 3600
def lastZ (t : TS) (p d : Nat) : Int := if (tA t 3312 0 p).toInt + 6899 < d then (tA t 3312 0 p).toInt + 6899 else d
def NN (t : TS) (p d : Nat) : Nat := (lastZ t p d + 1 - D0 t p).toNat
/-- days that a club taught a player; that the clubs of a league did -/
def tch (t : TS) (nS p d c : Nat) : Nat := cnk (cz t nS p) c (D0 t p) (NN t p d)
def tlg (t : TS) (nS p d l : Nat) : Nat := cnk (lz t nS p) l (D0 t p) (NN t p d)
theorem next_eq {day last : Int} {v : Int32} (h1 : -10000 ≤ day) (h2 : day ≤ last) (h3 : last ≤ 10000) (h4 : it day < v) (h5 : v ≤ 1000000) : ∃ z' : Int, (if it day + 1 < (if it last + 1 < v then it last + 1 else v) then (if it last + 1 < v then it last + 1 else v) else it day + 1) = it z' ∧ day < z' ∧ z' ≤ last + 1 ∧ ∀ z, day ≤ z → z < z' → it z < v := by
  have e1 : it day + 1 = it (day + 1) := it_add day 1
  have e2 : it last + 1 = it (last + 1) := it_add last 1
  obtain ⟨w, hw, rfl⟩ : ∃ w, (-2147483648 ≤ w ∧ w < 2147483648) ∧ v = it w := ⟨v.toInt, ni_bd v, it_of v⟩
  rw [it_lt (by omega) (by omega) hw.1 hw.2] at h4
  have h6 : w ≤ 1000000 := by
    rw [show (1000000 : Int32) = it 1000000 by decide, it_le hw.1 hw.2 (by omega) (by omega)] at h5
    exact h5
  rw [e1, e2]
  by_cases g : last + 1 < w
  · rw [if_pos ((it_lt (by omega) (by omega) hw.1 hw.2).mpr g)]
    refine ⟨last + 1, ?_, by omega, by omega, fun z z1 z2 => (it_lt (by omega) (by omega) hw.1 hw.2).mpr (by omega)⟩
    by_cases g2 : day < last
    · rw [if_pos ((it_lt (by omega) (by omega) (by omega) (by omega)).mpr (by omega))]
    · rw [if_neg (fun q => by have := (it_lt (by omega) (by omega) (by omega) (by omega)).mp q; omega), show day = last by omega]
  · rw [if_neg (fun q => g ((it_lt (by omega) (by omega) hw.1 hw.2).mp q))]
    refine ⟨w, ?_, by omega, by omega, fun z z1 z2 => (it_lt (by omega) (by omega) hw.1 hw.2).mpr (by omega)⟩
    by_cases g2 : day + 1 < w
    · rw [if_pos ((it_lt (by omega) (by omega) hw.1 hw.2).mpr g2)]
    · rw [if_neg (fun q => g2 ((it_lt (by omega) (by omega) hw.1 hw.2).mp q)), show day + 1 = w by omega]
section
variable {t : TS} {nB nS nM p d : Nat}
theorem born_bdM (hB : Mbody nB t) (hp : p < nB) : -9000 ≤ (tA t 3312 0 p).toInt ∧ (tA t 3312 0 p).toInt ≤ 0 := by
  obtain ⟨-, -, h1, h2⟩ := hB.2.2 p hp
  rw [ni_le] at h1 h2
  simpa using And.intro h1 h2
theorem born_bd (hB : Ibody nB t) (hp : p < nB) : -9000 ≤ (tA t 3312 0 p).toInt ∧ (tA t 3312 0 p).toInt ≤ 0 := born_bdM (IbM hB) hp
theorem last_eqM (hB : Mbody nB t) (hp : p < nB) (hd : d ≤ 2999) : (if tA t 3312 0 p + 6900 - 1 < nt d then tA t 3312 0 p + 6900 - 1 else nt d) = it (lastZ t p d) ∧ tA t 3312 0 p + 3600 = it (D0 t p) ∧ tA t 3312 0 p + 6900 - 1 = it ((tA t 3312 0 p).toInt + 6899) := by
  have hb := born_bdM hB hp
  have e0 := it_of (tA t 3312 0 p)
  have e1 : tA t 3312 0 p + 6900 - 1 = it ((tA t 3312 0 p).toInt + 6899) := by
    rw [show (tA t 3312 0 p + 6900 - 1 : Int32) = it (tA t 3312 0 p).toInt + it 6900 - it 1 by rw [← e0]; rfl, it_add, it_sub]
    congr 1
    omega
  have e2 : tA t 3312 0 p + 3600 = it ((tA t 3312 0 p).toInt + 3600) := by
    rw [show (tA t 3312 0 p + 3600 : Int32) = it (tA t 3312 0 p).toInt + it 3600 by rw [← e0]; rfl, it_add]
  refine ⟨?_, e2, e1⟩
  rw [e1, ← it_nt]
  unfold lastZ
  by_cases g : (tA t 3312 0 p).toInt + 6899 < d
  · rw [if_pos g, if_pos ((it_lt (by omega) (by omega) (by omega) (by omega)).mpr g)]
  · rw [if_neg g, if_neg (fun q => g ((it_lt (by omega) (by omega) (by omega) (by omega)).mp q))]
theorem last_eq (hB : Ibody nB t) (hp : p < nB) (hd : d ≤ 2999) : (if tA t 3312 0 p + 6900 - 1 < nt d then tA t 3312 0 p + 6900 - 1 else nt d) = it (lastZ t p d) ∧ tA t 3312 0 p + 3600 = it (D0 t p) ∧ tA t 3312 0 p + 6900 - 1 = it ((tA t 3312 0 p).toInt + 6899) := last_eqM (IbM hB) hp hd
theorem last_bdM (hB : Mbody nB t) (hp : p < nB) (hd : d ≤ 2999) : -5400 ≤ D0 t p ∧ D0 t p ≤ 3600 ∧ -2101 ≤ lastZ t p d ∧ lastZ t p d ≤ 2999 ∧ NN t p d ≤ 3300 := by
  have hb := born_bdM hB hp
  unfold NN
  have h1 : D0 t p = (tA t 3312 0 p).toInt + 3600 := rfl
  have h2 : lastZ t p d ≤ (tA t 3312 0 p).toInt + 6899 ∧ -2101 ≤ lastZ t p d ∧ lastZ t p d ≤ 2999 := by
    unfold lastZ
    split <;> omega
  omega
theorem last_bd (hB : Ibody nB t) (hp : p < nB) (hd : d ≤ 2999) : -5400 ≤ D0 t p ∧ D0 t p ≤ 3600 ∧ -2101 ≤ lastZ t p d ∧ lastZ t p d ≤ 2999 ∧ NN t p d ≤ 3300 := last_bdM (IbM hB) hp hd
/-- the class: from the first day on -/
theorem ct_loop (hL : Ilen t) (hB : Ibody nB t) (hS : Ispan nB nS nM t) (hp : p < nB) (hd : d ≤ 2999) {t1 : TS} (hf : frm (ks [3209, 3210]) t t1) (h9 : ∀ c, c < nB → tA t1 3209 0 c = 0) (h10 : ∀ l, l < 4 → tA t1 3210 0 l = 0) :
    ∃ t2, B_X12_countTeaching_75 10000 t1 p (it (lastZ t p d)) (it (D0 t p)) = some t2 ∧ frm (ks [3209, 3210]) t t2 ∧ (∀ c, c < nB → tA t2 3209 0 c = nt (tch t nS p d c)) ∧ ∀ l, l < 4 → tA t2 3210 0 l = nt (tlg t nS p d l) := by
  obtain ⟨b1, b2, b3, b4, b5⟩ := last_bd hB hp hd
  obtain ⟨N, hN⟩ : ∃ N : Nat, N = 10000 := ⟨_, rfl⟩
  rw [← hN]
  have h := loop_wh (B := fun fu (a : TS × Nat) => B_X12_countTeaching_75 fu a.1 p (it (lastZ t p d)) (it (D0 t p + a.2))) (mu := fun a => NN t p d - a.2) (G := fun o => ∃ t2, o = some t2 ∧ frm (ks [3209, 3210]) t t2 ∧ (∀ c, c < nB → tA t2 3209 0 c = nt (tch t nS p d c)) ∧ ∀ l, l < 4 → tA t2 3210 0 l = nt (tlg t nS p d l))
    (P := fun a => a.2 ≤ NN t p d ∧ frm (ks [3209, 3210]) t a.1 ∧ (∀ c, c < nB → tA a.1 3209 0 c = nt (cnk (cz t nS p) c (D0 t p) a.2)) ∧ ∀ l, l < 4 → tA a.1 3210 0 l = nt (cnk (lz t nS p) l (D0 t p) a.2)) ?_ N (t1, 0) ⟨Nat.zero_le _, hf, h9, h10⟩ (by show NN t p d - 0 < N; omega)
  · have e : D0 t p + ((0 : Nat) : Int) = D0 t p := by omega
    show ∃ t2, B_X12_countTeaching_75 N t1 p (it (lastZ t p d)) (it (D0 t p)) = some t2 ∧ _
    rw [← e]; exact h
  · rintro fu ⟨t3, k⟩ ⟨k1, k2, k3, k4⟩
    dsimp only at k1 k2 k3 k4
    have hB3 := Ibody_f k2 (by decide) hB
    have hS3 := Ispan_f k2 (by decide) hS
    have hNN : NN t p d = (lastZ t p d + 1 - D0 t p).toNat := rfl
    show _ ∨ ∃ a', BB_X12_countTeaching_75 (B_X12_countTeaching_75 fu) t3 p (it (lastZ t p d)) (it (D0 t p + k)) = _ ∧ _
    by_cases hk : k = NN t p d
    · left
      refine ⟨t3, ?_, k2, ?_, ?_⟩
      · show BB_X12_countTeaching_75 (B_X12_countTeaching_75 fu) t3 p (it (lastZ t p d)) (it (D0 t p + k)) = _
        unfold BB_X12_countTeaching_75
        rw [if_pos ((it_lt (by omega) (by omega) (by omega) (by omega)).mpr (by omega))]
      · intro c hc; rw [k3 c hc, hk]; rfl
      · intro l hl; rw [k4 l hl, hk]; rfl
    · right
      have hdl : it (D0 t p + k) < (1000000 : Int32) := by
        rw [show (1000000 : Int32) = it 1000000 by decide]
        exact (it_lt (by omega) (by omega) (by omega) (by omega)).mpr (by omega)
      obtain ⟨v, ev, hv⟩ := X1_nextChange_eq hS3 hp (it (D0 t p + k)) hdl
      obtain ⟨z', ez, z1, z2, z3⟩ := next_eq (day := D0 t p + k) (last := lastZ t p d) (by omega) (by omega) (by omega) hv.1 hv.2.1
      obtain ⟨k', rfl, hk'⟩ : ∃ k' : Nat, z' = D0 t p + k' ∧ k < k' := ⟨(z' - D0 t p).toNat, by omega, by omega⟩
      obtain ⟨b, rfl⟩ : ∃ b, k' = k + b := ⟨k' - k, by omega⟩
      have hcz : ∀ i : Nat, i < b → cz t nS p (D0 t p + k + i) = cz t nS p (D0 t p + k) := by
        intro i hi
        unfold cz
        have := hol_same (chg_same hS3 hv (d' := it (D0 t p + k + i)) ((it_le (by omega) (by omega) (by omega) (by omega)).mpr (by omega)) (z3 _ (by omega) (by omega)))
        rw [hol_f k2 (by decide), hol_f k2 (by decide)] at this
        rw [this]
      have hlz : ∀ i : Nat, i < b → lz t nS p (D0 t p + k + i) = lz t nS p (D0 t p + k) := by
        intro i hi
        unfold lz
        rw [hcz i hi]
      unfold BB_X12_countTeaching_75
      rw [if_neg (fun q => by have := (it_lt (by omega) (by omega) (by omega) (by omega)).mp q; omega), ev, ob_s, X1_holding_eq hS3 hp, ob_s, ez]
      have hdif : it (D0 t p + ((k + b : Nat) : Int)) - it (D0 t p + k) = nt b := by
        rw [it_sub, ← it_nt]
        congr 1
        omega
      have hol3 : hol t3 nS p (it (D0 t p + k)) = hol t nS p (it (D0 t p + k)) := hol_f k2 (by decide)
      cases eh : hol t nS p (it (D0 t p + k)) with
      | none =>
        have hc0 : cz t nS p (D0 t p + k) = none := by unfold cz; rw [eh]; rfl
        have hl0 : lz t nS p (D0 t p + k) = none := by unfold lz; rw [hc0]; rfl
        refine ⟨(t3, k + b), ?_, ⟨by omega, k2, ?_, ?_⟩, by show NN t p d - (k + b) < NN t p d - k; omega⟩
        · rw [hol3, eh]; rfl
        · intro c hc
          rw [k3 c hc, cnk_add (v := none) b (fun i hi => (hcz i hi).trans hc0)]
          rfl
        · intro l hl
          rw [k4 l hl, cnk_add (v := none) b (fun i hi => (hlz i hi).trans hl0)]
          rfl
      | some s =>
        have hs := hol_lt eh
        obtain ⟨-, -, -, -, -, -, -, ⟨c, hc, hcl, hc1, hc2⟩, -⟩ := hS3.2.2.2.1 s hs
        have hc2t : tA t 3318 0 s = nt c := by rw [← hc2, (k2.1 3318 rfl).2.2.2.2.1]
        obtain ⟨-, -, g1, -, g2, -, -, -, -, ⟨l, hl, g3⟩, -⟩ := hB3.2.2.2.1 c hc
        have g3t : tA t 3309 0 c = nt l := by rw [← g3, (k2.1 3309 rfl).2.2.2.2.1]
        have hnB := hB.1
        have hc0 : cz t nS p (D0 t p + k) = some c := by unfold cz; rw [eh, oel_s, hc2t, nt_cl (by omega)]
        have hl0 : lz t nS p (D0 t p + k) = some l := by unfold lz; rw [hc0, oel_s, g3t, nt_cl (by omega)]
        refine ⟨(uA (uA t3 3209 0 c (tA t3 3209 0 c + nt b)) 3210 0 l (tA t3 3210 0 l + nt b), k + b), ?_, ⟨by omega, frm_tr k2 (frm_tr (frm_uA rfl) (frm_uA rfl)), ?_, ?_⟩, by show NN t p d - (k + b) < NN t p d - k; omega⟩
        · have hL3 : Ilen t3 := Ilen_f k2 hL
          rw [hol3, eh, hdif]
          simp (disch := omega) only [nxt_e, oc_s, oc_n, ob_s, ob2_s, gb_b1, gb_0, gb_1, gw0, gw1, hc1, g1, g2, g3, I_uI, I_uI_n, A_uA, A_uA_n, E_uI, R_uI, L_uI, A_uI, J_uI, Q_uI, E_uA, I_uA, R_uA, L_uA, J_uA, Q_uA, m1_s, (show tL _ 3209 0 = 150 from hL3 3209 rfl), (show tL _ 3210 0 = 4 from hL3 3210 rfl), gd_nt, nt_cl, B_X12_countTeaching_154]
        · intro c' hc'
          simp only [I_uI, I_uI_n, A_uA, A_uA_n, E_uI, R_uI, L_uI, A_uI, J_uI, Q_uI, E_uA, I_uA, R_uA, L_uA, J_uA, Q_uA, m1_s, Nat.reduceEqDiff, not_false_eq_true]
          rw [cnk_add (v := some c) b (fun i hi => (hcz i hi).trans hc0)]
          by_cases e : c' = c
          · subst e
            rw [m1_s, k3 c' hc', if_pos rfl, nt_add]
          · rw [m1_n e, k3 c' hc', if_neg (fun q => e (Option.some.inj q).symm)]
            rfl
        · intro l' hl'
          simp only [I_uI, I_uI_n, A_uA, A_uA_n, E_uI, R_uI, L_uI, A_uI, J_uI, Q_uI, E_uA, I_uA, R_uA, L_uA, J_uA, Q_uA, m1_s, Nat.reduceEqDiff, not_false_eq_true]
          rw [cnk_add (v := some l) b (fun i hi => (hlz i hi).trans hl0)]
          by_cases e : l' = l
          · subst e
            rw [m1_s, k4 l' hl', if_pos rfl, nt_add]
          · rw [m1_n e, k4 l' hl', if_neg (fun q => e (Option.some.inj q).symm)]
            rfl
end
