/-! PART f3: the class makes a sale. -/
section
variable {t : TS} {nB nS nM p co c d fee : Nat}
def slA (t : TS) (nM p co c : Nat) (fee sp ne kp bo : Int32) : TS := uI (uI (uI (uI (uI (uR (uR (uR (uI (uI (uO t 6 nM) 609 nM 1) 600 nM (nt nM)) 601 nM (some p)) 602 nM (some co)) 603 nM (some c)) 604 nM fee) 609 nM sp) 617 nM ne) 610 nM kp) 616 nM bo
def slC (t : TS) (nM nS : Nat) (wa : Int32) : TS := uI (uQ (uR (uI (uR t 607 nM (some nS)) 1105 nS wa) 1107 nS (some nM)) 3206 0 nM (some nM)) 1207 0 (nt (nM + 1))
theorem slA_f {f sp ne kp bo : Int32} : frm (ko 6) t (slA t nM p co c f sp ne kp bo) := frm_tr (frm_uO (fun k h => h)) (frm_tr (frm_uI rfl) (frm_tr (frm_uI rfl) (frm_tr (frm_uR rfl) (frm_tr (frm_uR rfl) (frm_tr (frm_uR rfl) (frm_tr (frm_uI rfl) (frm_tr (frm_uI rfl) (frm_tr (frm_uI rfl) (frm_tr (frm_uI rfl) (frm_uI rfl))))))))))
theorem slA_agr {f sp ne kp bo : Int32} {m : Nat} (hm : ¬ m = nM) : agm t (slA t nM p co c f sp ne kp bo) m := by
  unfold agm slA
  simp (disch := omega) only [I_uI, I_uI_n, R_uR, R_uR_n, A_uA, A_uA_n, J_uJ, J_uJ_n, Q_uQ, Q_uQ_n, E_uO, E_uO_n, I_uO, I_uO_n, R_uO, R_uO_n, E_uN, E_uN_n, L_uN, L_uN_n, A_uN, A_uN_n, J_uN, J_uN_n, Q_uN, Q_uN_n, A_uCA, A_uCA_n, J_uCJ, J_uCJ_n, E_uI, R_uI, L_uI, A_uI, J_uI, Q_uI, E_uR, I_uR, L_uR, A_uR, J_uR, Q_uR, E_uA, I_uA, R_uA, L_uA, J_uA, Q_uA, E_uJ, I_uJ, R_uJ, L_uJ, A_uJ, Q_uJ, E_uQ, I_uQ, R_uQ, L_uQ, A_uQ, J_uQ, L_uO, A_uO, J_uO, Q_uO, I_uN, R_uN, E_uCA, I_uCA, R_uCA, L_uCA, J_uCA, Q_uCA, E_uCJ, I_uCJ, R_uCJ, L_uCJ, A_uCJ, Q_uCJ, m1_s, m1_n, implies_true, and_self]
theorem slA_new {f sp ne kp bo : Int32} : tE (slA t nM p co c f sp ne kp bo) 6 nM = true ∧ tI (slA t nM p co c f sp ne kp bo) 600 nM = nt nM ∧ tR (slA t nM p co c f sp ne kp bo) 601 nM = some p ∧ tR (slA t nM p co c f sp ne kp bo) 602 nM = some co ∧ tR (slA t nM p co c f sp ne kp bo) 603 nM = some c ∧ tI (slA t nM p co c f sp ne kp bo) 604 nM = f ∧ tI (slA t nM p co c f sp ne kp bo) 605 nM = 0 ∧ tI (slA t nM p co c f sp ne kp bo) 606 nM = 0 ∧ tI (slA t nM p co c f sp ne kp bo) 608 nM = 0 ∧ tI (slA t nM p co c f sp ne kp bo) 609 nM = sp ∧ tI (slA t nM p co c f sp ne kp bo) 610 nM = kp ∧ tI (slA t nM p co c f sp ne kp bo) 611 nM = 0 ∧ tR (slA t nM p co c f sp ne kp bo) 612 nM = none ∧ tI (slA t nM p co c f sp ne kp bo) 613 nM = 0 ∧ tR (slA t nM p co c f sp ne kp bo) 614 nM = none ∧ tI (slA t nM p co c f sp ne kp bo) 616 nM = bo ∧ tI (slA t nM p co c f sp ne kp bo) 617 nM = ne ∧ tI (slA t nM p co c f sp ne kp bo) 618 nM = 0 ∧ tI (slA t nM p co c f sp ne kp bo) 619 nM = 0 := by
  unfold slA
  simp (disch := omega) only [I_uI, I_uI_n, R_uR, R_uR_n, A_uA, A_uA_n, J_uJ, J_uJ_n, Q_uQ, Q_uQ_n, E_uO, E_uO_n, I_uO, I_uO_n, R_uO, R_uO_n, E_uN, E_uN_n, L_uN, L_uN_n, A_uN, A_uN_n, J_uN, J_uN_n, Q_uN, Q_uN_n, A_uCA, A_uCA_n, J_uCJ, J_uCJ_n, E_uI, R_uI, L_uI, A_uI, J_uI, Q_uI, E_uR, I_uR, L_uR, A_uR, J_uR, Q_uR, E_uA, I_uA, R_uA, L_uA, J_uA, Q_uA, E_uJ, I_uJ, R_uJ, L_uJ, A_uJ, Q_uJ, E_uQ, I_uQ, R_uQ, L_uQ, A_uQ, J_uQ, L_uO, A_uO, J_uO, Q_uO, I_uN, R_uN, E_uCA, I_uCA, R_uCA, L_uCA, J_uCA, Q_uCA, E_uCJ, I_uCJ, R_uCJ, L_uCJ, A_uCJ, Q_uCJ, m1_s, m1_m1, m1_s, and_self]
theorem sale_pre (hL : Ilen t) (hS : Ispan nB nS nM t) (hM : Imove nB nS nM t) (hp : p < nB) (hday : tI t 1200 0 = nt d) (hlM : nM < 200) {so : Nat} (ho : own t nS p (nt d) = some so) (hco : tR t 1101 so = some co) (f : Int32) {how : Nat} (hhow : how < 3) : F_X12_makeSale t (some p) (some c) f (nt how) = B_X12_makeSale_89 (slA t nM p co c f (tA t 3208 0 3) (tA t 3208 0 6) (if how = 0 then tA t 3208 0 4 else 0) (if how = 0 then tA t 3208 0 5 else 0)) p (some c) f so nM := by
  obtain ⟨m1, m2, m3, m4, m5⟩ := hM
  have hE6 := (m5 nM (Nat.le_refl _)).1
  have g3 : ∀ k : Option (Int32 × TS), gd (3 : Int32) 9 k = k := fun _ => rfl
  have g4 : ∀ k : Option (Int32 × TS), gd (4 : Int32) 9 k = k := fun _ => rfl
  have g5 : ∀ k : Option (Int32 × TS), gd (5 : Int32) 9 k = k := fun _ => rfl
  have g6 : ∀ k : Option (Int32 × TS), gd (6 : Int32) 9 k = k := fun _ => rfl
  have z3 : (3 : Int32).toNatClampNeg = 3 := rfl
  have z4 : (4 : Int32).toNatClampNeg = 4 := rfl
  have z5 : (5 : Int32).toNatClampNeg = 5 := rfl
  have z6 : (6 : Int32).toNatClampNeg = 6 := rfl
  have ch0 : (¬ nt how = 0) = ¬ how = 0 := congrArg Not (eq_nt (n := 0) (by omega) (by omega))
  have h08 : ∀ u : TS, frm (ko 6) t u → tL u 3208 0 = 9 ∧ tA u 3208 = tA t 3208 := fun u hu => ⟨Ilen_f hu hL 3208 rfl, (hu.1 3208 rfl).2.2.2.2.1⟩
  obtain ⟨a, ha⟩ : ∃ a, a = uI (uR (uR (uR (uI (uI (uO t 6 nM) 609 nM 1) 600 nM (nt nM)) 601 nM (some p)) 602 nM (some co)) 603 nM (some c)) 604 nM f := ⟨_, rfl⟩
  have fa : frm (ko 6) t a := by rw [ha]; exact frm_tr (frm_uO (fun k h => h)) (frm_tr (frm_uI rfl) (frm_tr (frm_uI rfl) (frm_tr (frm_uR rfl) (frm_tr (frm_uR rfl) (frm_tr (frm_uR rfl) (frm_uI rfl))))))
  have e1101 : tR (uO t 6 nM) 1101 = tR t 1101 := R_uO_n (by omega)
  have e1207 : tI (uO t 6 nM) 1207 0 = nt nM := by rw [I_uO_n (by omega)]; exact m2
  have ein : F_X6_init (uO t 6 nM) nM (nt nM) (some p) (some co) (some c) f = some a := by rw [ha]; rfl
  unfold F_X12_makeSale
  rw [oc_s, hday, X1_owning_eq hS hp, ob_s, ho, oc_s, m2, nt_cl (by omega), hE6, gE_0, nxt_e, e1101, hco, nxt_e, e1207, ein, ob_s, (h08 a fa).1, (h08 a fa).2, g3, z3, nxt_e]
  have f1 : frm (ko 6) t (uI a 609 nM (tA t 3208 0 3)) := frm_tr fa (frm_uI rfl)
  rw [(h08 _ f1).1, (h08 _ f1).2, g6, z6, nxt_e]
  have f2 : frm (ko 6) t (uI (uI a 609 nM (tA t 3208 0 3)) 617 nM (tA t 3208 0 6)) := frm_tr f1 (frm_uI rfl)
  rw [ifP ch0]
  by_cases e : how = 0
  · rw [if_neg (fun q => q e), if_pos e, if_pos e, (h08 _ f2).1, (h08 _ f2).2, g4, z4, nxt_e]
    have f3 : frm (ko 6) t (uI (uI (uI a 609 nM (tA t 3208 0 3)) 617 nM (tA t 3208 0 6)) 610 nM (tA t 3208 0 4)) := frm_tr f2 (frm_uI rfl)
    rw [(h08 _ f3).1, (h08 _ f3).2, g5, z5, nxt_e, ha]
    rfl
  · rw [if_pos e, if_neg e, if_neg e]
    have z : tI (uI (uI a 609 nM (tA t 3208 0 3)) 617 nM (tA t 3208 0 6)) 610 nM = 0 := by rw [ha]; simp (disch := omega) only [I_uI, I_uI_n, R_uR, R_uR_n, A_uA, A_uA_n, J_uJ, J_uJ_n, Q_uQ, Q_uQ_n, E_uO, E_uO_n, I_uO, I_uO_n, R_uO, R_uO_n, E_uN, E_uN_n, L_uN, L_uN_n, A_uN, A_uN_n, J_uN, J_uN_n, Q_uN, Q_uN_n, A_uCA, A_uCA_n, J_uCJ, J_uCJ_n, E_uI, R_uI, L_uI, A_uI, J_uI, Q_uI, E_uR, I_uR, L_uR, A_uR, J_uR, Q_uR, E_uA, I_uA, R_uA, L_uA, J_uA, Q_uA, E_uJ, I_uJ, R_uJ, L_uJ, A_uJ, Q_uJ, E_uQ, I_uQ, R_uQ, L_uQ, A_uQ, J_uQ, L_uO, A_uO, J_uO, Q_uO, I_uN, R_uN, E_uCA, I_uCA, R_uCA, L_uCA, J_uCA, Q_uCA, E_uCJ, I_uCJ, R_uCJ, L_uCJ, A_uCJ, Q_uCJ, m1_s]
    have z' : tI (uI (uI a 609 nM (tA t 3208 0 3)) 617 nM (tA t 3208 0 6)) 616 nM = 0 := by rw [ha]; simp (disch := omega) only [I_uI, I_uI_n, R_uR, R_uR_n, A_uA, A_uA_n, J_uJ, J_uJ_n, Q_uQ, Q_uQ_n, E_uO, E_uO_n, I_uO, I_uO_n, R_uO, R_uO_n, E_uN, E_uN_n, L_uN, L_uN_n, A_uN, A_uN_n, J_uN, J_uN_n, Q_uN, Q_uN_n, A_uCA, A_uCA_n, J_uCJ, J_uCJ_n, E_uI, R_uI, L_uI, A_uI, J_uI, Q_uI, E_uR, I_uR, L_uR, A_uR, J_uR, Q_uR, E_uA, I_uA, R_uA, L_uA, J_uA, Q_uA, E_uJ, I_uJ, R_uJ, L_uJ, A_uJ, Q_uJ, E_uQ, I_uQ, R_uQ, L_uQ, A_uQ, J_uQ, L_uO, A_uO, J_uO, Q_uO, I_uN, R_uN, E_uCA, I_uCA, R_uCA, L_uCA, J_uCA, Q_uCA, E_uCJ, I_uCJ, R_uCJ, L_uCJ, A_uCJ, Q_uCJ, m1_s]
    have ez : slA t nM p co c f (tA t 3208 0 3) (tA t 3208 0 6) 0 0 = uI (uI (uI (uI a 609 nM (tA t 3208 0 3)) 617 nM (tA t 3208 0 6)) 610 nM 0) 616 nM 0 := by rw [ha]; rfl
    rw [ez, uI_id (t := uI (uI a 609 nM (tA t 3208 0 3)) 617 nM (tA t 3208 0 6)) (f := 610) z, uI_id z']
def kSv : Nat → Bool := k2 scr (k2 (ko 6) (ks [2614, 103]))
theorem kSv_s {k : Nat} (h : kSv k = false) : scr k = false ∧ ko 6 k = false ∧ ks [2614, 103] k = false := by
  unfold kSv k2 at h
  simp only [Bool.or_eq_false_iff] at h
  exact ⟨h.1, h.2.1, h.2.2⟩
theorem kSv_kLn {k : Nat} (h : kLn k = false) : kSv k = false := by
  unfold kLn k2 at h
  simp only [Bool.or_eq_false_iff] at h
  unfold kSv k2
  simp only [Bool.or_eq_false_iff]
  exact ⟨h.1, h.2.1, ks_sb rfl k h.2.2.2⟩
theorem ks6 {L : List Nat} {k : Nat} (hL : L.all kSv = true) (h : kSv k = false) : ks L k = false := ks_sb hL k h
/-- the class's state just before the new span -/
theorem sale_c (hL : Ilen t) (hB : Ibody nB t) (hS : Ispan nB nS nM t) (hM : Imove nB nS nM t) (hp : p < nB) (hc : c < nB) (hco : co < nB) (hday : tI t 1200 0 = nt d) (hd : d ≤ 2999) (hlM : nM < 200) (hlS : nS < 600) {so : Nat} (ho : own t nS p (nt d) = some so) (hcs : tR t 1101 so = some co) (hf : fee ≤ 999999) {how : Nat} (hhow : how < 3) {kc : Option (Nat × Nat)} (hk1 : ∀ x, kc = some x → x.1 < nB ∧ x.2 ≤ 500000) (hkc : ∀ V : TS, (∀ a, ¬ a = nM → tI V 604 a = tI t 604 a ∧ tI V 610 a = tI t 610 a ∧ tR V 602 a = tR t 602 a) → tI V 604 nM = nt fee → F_X12_payKept V (some nM) (tR t 1107 so) = some (pkC V nM kc)) {ag : Nat} (hag : ∀ (V : TS) (v2 : Option Nat) (v6 : Nat), tR V 107 = tR t 107 → nxt (tR V 107 p) (fun o24 => (oc o24 (B_X12_makeSale_123 V p v2 (nt fee) v6 0 v6) (fun j25 => (Option.bind (F_X12_hundredths V 3 (nt fee)) (fun r26 => (B_X12_makeSale_123 V p v2 (nt fee) v6 r26 v6)))))) = B_X12_makeSale_123 V p v2 (nt fee) v6 (nt ag) v6) :
    ∃ V, F_X12_makeSale t (some p) (some c) (nt fee) (nt how) = some (nt nM, slC (cS V p c nS 1 (nt d) (tA t 3208 0 1)) nM nS (tA t 3208 0 2)) ∧ frm kSv t V ∧ (∀ m, ¬ m = nM → agm t V m) ∧
    (tE V 6 nM = true ∧ tI V 600 nM = nt nM ∧ tR V 601 nM = some p ∧ tR V 602 nM = some co ∧ tR V 603 nM = some c ∧ tI V 604 nM = nt fee ∧ tI V 605 nM = 0 ∧ tI V 606 nM = 0 ∧ tI V 608 nM = 0 ∧ tI V 609 nM = tA t 3208 0 3 ∧ tI V 610 nM = (if how = 0 then tA t 3208 0 4 else 0) ∧ tI V 611 nM = nt (kv1 kc) ∧ tR V 612 nM = ko1 kc ∧ tI V 613 nM = nt (shW nB fee co (tch t nS p d)) ∧ tI V 615 nM = nt ag ∧ tI V 616 nM = (if how = 0 then tA t 3208 0 5 else 0) ∧ tI V 617 nM = tA t 3208 0 6 ∧ tI V 618 nM = 0 ∧ tI V 619 nM = 0) ∧
    ((tR V 614 nM = none ∧ ∀ i, i < nB → shr nB fee co (tch t nS p d) i = 0) ∨ (tR V 614 nM = some nM ∧ tL V 2614 nM = nB ∧ ∀ i, i < nB → tA V 2614 nM i = nt (shr nB fee co (tch t nS p d) i))) ∧
    ∀ i, i < nB → tI V 103 i = tI t 103 i + kk1 kc i + nt (shr nB fee co (tch t nS p d) i) + (if i = co then nt fee - nt (kv1 kc) - nt (shW nB fee co (tch t nS p d)) else 0) + (if i = c then -(nt fee + nt ag) else 0) := by
  have hnB := hB.1
  have hE26 := (hM.2.2.2.2 nM (Nat.le_refl _)).2.1
  obtain ⟨V0, hV0⟩ : ∃ V0, V0 = slA t nM p co c (nt fee) (tA t 3208 0 3) (tA t 3208 0 6) (if how = 0 then tA t 3208 0 4 else 0) (if how = 0 then tA t 3208 0 5 else 0) := ⟨_, rfl⟩
  have f0 : frm (ko 6) t V0 := by rw [hV0]; exact slA_f
  have g0 : ∀ m, ¬ m = nM → agm t V0 m := fun m hm => by rw [hV0]; exact slA_agr hm
  have n0 := slA_new (t := t) (nM := nM) (p := p) (co := co) (c := c) (f := nt fee) (sp := tA t 3208 0 3) (ne := tA t 3208 0 6) (kp := if how = 0 then tA t 3208 0 4 else 0) (bo := if how = 0 then tA t 3208 0 5 else 0)
  rw [← hV0] at n0
  obtain ⟨n6, n600, n601, n602, n603, n604, n605, n606, n608, n609, n610, n611, n612, n613, n614, n616, n617, n618, n619⟩ := n0
  have e1107 : tR V0 1107 = tR t 1107 := (f0.1 1107 rfl).2.2.1
  obtain ⟨V1, hV1⟩ : ∃ V1, V1 = pkC V0 nM kc := ⟨_, rfl⟩
  have hpk : F_X12_payKept V0 (some nM) (tR V0 1107 so) = some V1 := by
    rw [e1107, hV1]
    refine hkc V0 (fun a ha => ?_) n604
    have g := g0 a ha
    unfold agm at g
    simp only [g, and_self]
  have f1 : frm (ks [103, 611, 612]) V0 V1 := by
    rw [hV1]
    cases kc with
    | none => exact frm_rf
    | some x => exact frm_tr (frm_uI rfl) (frm_tr (frm_uR rfl) (frm_uI rfl))
  have g1 : ∀ m, ¬ m = nM → agm V0 V1 m := fun m hm => by
    rw [hV1]
    cases kc with
    | none => exact agm_f (D := fun _ => false) frm_rf (by decide)
    | some x =>
      unfold agm pkC
      simp (disch := omega) only [I_uI, I_uI_n, R_uR, R_uR_n, A_uA, A_uA_n, J_uJ, J_uJ_n, Q_uQ, Q_uQ_n, E_uO, E_uO_n, I_uO, I_uO_n, R_uO, R_uO_n, E_uN, E_uN_n, L_uN, L_uN_n, A_uN, A_uN_n, J_uN, J_uN_n, Q_uN, Q_uN_n, A_uCA, A_uCA_n, J_uCJ, J_uCJ_n, E_uI, R_uI, L_uI, A_uI, J_uI, Q_uI, E_uR, I_uR, L_uR, A_uR, J_uR, Q_uR, E_uA, I_uA, R_uA, L_uA, J_uA, Q_uA, E_uJ, I_uJ, R_uJ, L_uJ, A_uJ, Q_uJ, E_uQ, I_uQ, R_uQ, L_uQ, A_uQ, J_uQ, L_uO, A_uO, J_uO, Q_uO, I_uN, R_uN, E_uCA, I_uCA, R_uCA, L_uCA, J_uCA, Q_uCA, E_uCJ, I_uCJ, R_uCJ, L_uCJ, A_uCJ, Q_uCJ, m1_s, m1_n, implies_true, and_self]
  have r611 : tI V1 611 nM = nt (kv1 kc) := by
    rw [hV1]
    cases kc with
    | none => exact n611
    | some x => show tI (uI (uR (uI V0 611 nM (nt x.2)) 612 nM (some x.1)) 103 x.1 (tI V0 103 x.1 + nt x.2)) 611 nM = nt x.2; simp (disch := omega) only [I_uI, I_uI_n, R_uR, R_uR_n, A_uA, A_uA_n, J_uJ, J_uJ_n, Q_uQ, Q_uQ_n, E_uO, E_uO_n, I_uO, I_uO_n, R_uO, R_uO_n, E_uN, E_uN_n, L_uN, L_uN_n, A_uN, A_uN_n, J_uN, J_uN_n, Q_uN, Q_uN_n, A_uCA, A_uCA_n, J_uCJ, J_uCJ_n, E_uI, R_uI, L_uI, A_uI, J_uI, Q_uI, E_uR, I_uR, L_uR, A_uR, J_uR, Q_uR, E_uA, I_uA, R_uA, L_uA, J_uA, Q_uA, E_uJ, I_uJ, R_uJ, L_uJ, A_uJ, Q_uJ, E_uQ, I_uQ, R_uQ, L_uQ, A_uQ, J_uQ, L_uO, A_uO, J_uO, Q_uO, I_uN, R_uN, E_uCA, I_uCA, R_uCA, L_uCA, J_uCA, Q_uCA, E_uCJ, I_uCJ, R_uCJ, L_uCJ, A_uCJ, Q_uCJ, m1_s]
  have r612 : tR V1 612 nM = ko1 kc := by
    rw [hV1]
    cases kc with
    | none => exact n612
    | some x => show tR (uI (uR (uI V0 611 nM (nt x.2)) 612 nM (some x.1)) 103 x.1 (tI V0 103 x.1 + nt x.2)) 612 nM = some x.1; simp (disch := omega) only [I_uI, I_uI_n, R_uR, R_uR_n, A_uA, A_uA_n, J_uJ, J_uJ_n, Q_uQ, Q_uQ_n, E_uO, E_uO_n, I_uO, I_uO_n, R_uO, R_uO_n, E_uN, E_uN_n, L_uN, L_uN_n, A_uN, A_uN_n, J_uN, J_uN_n, Q_uN, Q_uN_n, A_uCA, A_uCA_n, J_uCJ, J_uCJ_n, E_uI, R_uI, L_uI, A_uI, J_uI, Q_uI, E_uR, I_uR, L_uR, A_uR, J_uR, Q_uR, E_uA, I_uA, R_uA, L_uA, J_uA, Q_uA, E_uJ, I_uJ, R_uJ, L_uJ, A_uJ, Q_uJ, E_uQ, I_uQ, R_uQ, L_uQ, A_uQ, J_uQ, L_uO, A_uO, J_uO, Q_uO, I_uN, R_uN, E_uCA, I_uCA, R_uCA, L_uCA, J_uCA, Q_uCA, E_uCJ, I_uCJ, R_uCJ, L_uCJ, A_uCJ, Q_uCJ, m1_s]
  have r103 : ∀ i, tI V1 103 i = tI V0 103 i + kk1 kc i := fun i => by
    rw [hV1]
    cases kc with
    | none => exact (Int32.add_zero _).symm
    | some x =>
      show tI (uI (uR (uI V0 611 nM (nt x.2)) 612 nM (some x.1)) 103 x.1 (tI V0 103 x.1 + nt x.2)) 103 i = tI V0 103 i + (if i = x.1 then nt x.2 else 0)
      simp (disch := omega) only [I_uI, I_uI_n, R_uR, R_uR_n, A_uA, A_uA_n, J_uJ, J_uJ_n, Q_uQ, Q_uQ_n, E_uO, E_uO_n, I_uO, I_uO_n, R_uO, R_uO_n, E_uN, E_uN_n, L_uN, L_uN_n, A_uN, A_uN_n, J_uN, J_uN_n, Q_uN, Q_uN_n, A_uCA, A_uCA_n, J_uCJ, J_uCJ_n, E_uI, R_uI, L_uI, A_uI, J_uI, Q_uI, E_uR, I_uR, L_uR, A_uR, J_uR, Q_uR, E_uA, I_uA, R_uA, L_uA, J_uA, Q_uA, E_uJ, I_uJ, R_uJ, L_uJ, A_uJ, Q_uJ, E_uQ, I_uQ, R_uQ, L_uQ, A_uQ, J_uQ, L_uO, A_uO, J_uO, Q_uO, I_uN, R_uN, E_uCA, I_uCA, R_uCA, L_uCA, J_uCA, Q_uCA, E_uCJ, I_uCJ, R_uCJ, L_uCJ, A_uCJ, Q_uCJ, m1_s]
      by_cases e : i = x.1
      · rw [if_pos e, e, m1_s]
      · rw [if_neg e, m1_n e, Int32.add_zero]
  have ft1 : frm (k2 (ko 6) (ks [103, 611, 612])) t V1 := frm_tr (frm_sb f0 k2_l) (frm_sb f1 (fun k hk => (Bool.or_eq_false_iff.mp hk).2))
  have hL1 := Ilen_f ft1 hL
  have e14 : tR V1 614 nM = none := by rw [(f1.1 614 rfl).2.2.1]; exact n614
  obtain ⟨V2, a1, a2, a3, a4, a5, a6⟩ := cs_all (t := V1) (d := d) (fee := fee) hL1 (Ibody_f ft1 (by decide) hB) (Ispan_f ft1 (by decide) hS) (by rw [(ft1.1 1200 rfl).2.1]; exact hday) hd hp hco (by rw [(f1.1 601 rfl).2.2.1]; exact n601) (by rw [(f1.1 602 rfl).2.2.1]; exact n602) hf (by rw [(f1.1 604 rfl).2.1]; exact n604) (by rw [(f1.1 613 rfl).2.1]; exact n613) e14 (by rw [(ft1.1 2614 rfl).1]; exact hE26)
  have etc : tch V1 nS p d = tch t nS p d := by
    funext k
    unfold tch D0 NN lastZ
    have hcz : cz V1 nS p = cz t nS p := by funext z; exact cz_f ft1 (by decide)
    have h12 : tA V1 3312 = tA t 3312 := (ft1.1 3312 rfl).2.2.2.2.1
    unfold D0
    rw [hcz, h12]
  rw [etc] at a3 a4 a6
  have b1_ : ∀ {k : Nat}, k2 scr (ks [103, 613, 614, 2614]) k = false → scr k = false := fun h => (Bool.or_eq_false_iff.mp h).1
  have hsub : ∀ k, kSv k = false → k2 scr (ks [103, 613, 614, 2614]) k = false := fun k hk => by
    unfold k2
    rw [(kSv_s hk).1, ks6 (L := [103, 613, 614, 2614]) rfl hk]; rfl
  have g2 : ∀ m, ¬ m = nM → agm V1 V2 m := fun m hm => by
    obtain ⟨q1, q2, q3, q4⟩ := a5 m hm
    have q5 := a4 m
    rw [m1_n hm] at q5
    unfold agm
    simp only [q1, q2, q3, q4, q5, (a2.1 3206 rfl).2.2.2.2.2.2, (a2.1 6 rfl).1, (a2.1 600 rfl).2.1, (a2.1 604 rfl).2.1, (a2.1 605 rfl).2.1, (a2.1 606 rfl).2.1, (a2.1 608 rfl).2.1, (a2.1 609 rfl).2.1, (a2.1 610 rfl).2.1, (a2.1 611 rfl).2.1, (a2.1 615 rfl).2.1, (a2.1 616 rfl).2.1, (a2.1 617 rfl).2.1, (a2.1 618 rfl).2.1, (a2.1 619 rfl).2.1, (a2.1 601 rfl).2.2.1, (a2.1 602 rfl).2.2.1, (a2.1 603 rfl).2.2.1, (a2.1 607 rfl).2.2.1, (a2.1 612 rfl).2.2.1, (a2.1 3328 rfl).2.2.2.2.1, (a2.1 3329 rfl).2.2.2.2.1, (a2.1 3330 rfl).2.2.2.2.1, (a2.1 3331 rfl).2.2.2.2.1, (a2.1 3332 rfl).2.2.2.2.1, (a2.1 3333 rfl).2.2.2.2.1, (a2.1 3334 rfl).2.2.2.2.1, (a2.1 3335 rfl).2.2.2.2.1, (a2.1 3336 rfl).2.2.2.2.1, (a2.1 3337 rfl).2.2.2.2.1, (a2.1 3338 rfl).2.2.2.2.1, (a2.1 3339 rfl).2.2.2.2.1, (a2.1 3340 rfl).2.2.2.2.1, (a2.1 3341 rfl).2.2.2.2.1, (a2.1 3342 rfl).2.2.2.2.1, (a2.1 3343 rfl).2.2.2.2.1, (a2.1 3344 rfl).2.2.2.2.1, (a2.1 3345 rfl).2.2.2.2.1, (a2.1 3346 rfl).2.2.2.2.1, (a2.1 3347 rfl).2.2.2.2.1, implies_true, and_self]
  have e107 : tR V2 107 = tR t 107 := by rw [(a2.1 107 rfl).2.2.1, (ft1.1 107 rfl).2.2.1]
  obtain ⟨X, hX⟩ : ∃ X, X = nt fee - nt (kv1 kc) - nt (shW nB fee co (tch t nS p d)) := ⟨_, rfl⟩
  obtain ⟨V3, hV3⟩ : ∃ V3, V3 = uI (uI (uI V2 615 nM (nt ag)) 103 co (tI V2 103 co + X)) 103 c (mm_u1 (tI V2 103) co (tI V2 103 co + X) c - (nt fee + nt ag)) := ⟨_, rfl⟩
  have f3 : frm (ks [615, 103]) V2 V3 := by rw [hV3]; exact frm_tr (frm_uI rfl) (frm_tr (frm_uI rfl) (frm_uI rfl))
  have g3 : ∀ m, ¬ m = nM → agm V2 V3 m := fun m hm => by
    rw [hV3]
    unfold agm
    simp (disch := omega) only [I_uI, I_uI_n, R_uR, R_uR_n, A_uA, A_uA_n, J_uJ, J_uJ_n, Q_uQ, Q_uQ_n, E_uO, E_uO_n, I_uO, I_uO_n, R_uO, R_uO_n, E_uN, E_uN_n, L_uN, L_uN_n, A_uN, A_uN_n, J_uN, J_uN_n, Q_uN, Q_uN_n, A_uCA, A_uCA_n, J_uCJ, J_uCJ_n, E_uI, R_uI, L_uI, A_uI, J_uI, Q_uI, E_uR, I_uR, L_uR, A_uR, J_uR, Q_uR, E_uA, I_uA, R_uA, L_uA, J_uA, Q_uA, E_uJ, I_uJ, R_uJ, L_uJ, A_uJ, Q_uJ, E_uQ, I_uQ, R_uQ, L_uQ, A_uQ, J_uQ, L_uO, A_uO, J_uO, Q_uO, I_uN, R_uN, E_uCA, I_uCA, R_uCA, L_uCA, J_uCA, Q_uCA, E_uCJ, I_uCJ, R_uCJ, L_uCJ, A_uCJ, Q_uCJ, m1_s, m1_n, implies_true, and_self]
  have ft3 : frm kSv t V3 := frm_tr (frm_sb ft1 (fun k hk => by
    unfold k2
    rw [(kSv_s hk).2.1, ks6 (L := [103, 611, 612]) rfl hk]; rfl)) (frm_tr (frm_sb a2 hsub) (frm_sb f3 (fun k hk => ks6 (L := [615, 103]) rfl hk)))
  have hL2 : Ilen V2 := Ilen_f a2 hL1
  have hL3 : Ilen V3 := Ilen_f f3 hL2
  have r2_602 : tR V2 602 nM = some co := by rw [(a2.1 602 rfl).2.2.1, (f1.1 602 rfl).2.2.1]; exact n602
  have r2_611 : tI V2 611 nM = nt (kv1 kc) := by rw [(a2.1 611 rfl).2.1]; exact r611
  have r2_613 : tI V2 613 nM = nt (shW nB fee co (tch t nS p d)) := by rw [a4, m1_s]
  have e08 : tA V3 3208 = tA t 3208 := (ft3.1 3208 rfl).2.2.2.2.1
  have e1200 : tI V3 1200 0 = nt d := by rw [(ft3.1 1200 rfl).2.1]; exact hday
  have hspan := addSpan_c0 (t := V3) (p := p) (c := c) (so := 1) (fr := nt d) (to := tA t 3208 0 1) (by rw [(ft3.1 1205 rfl).2.1]; exact hS.2.1) (by rw [(ft3.1 11 rfl).1]; exact hS.2.2.2.2.1 nS (Nat.le_refl _)) hlS
  obtain ⟨C, hC⟩ : ∃ C, C = cS V3 p c nS 1 (nt d) (tA t 3208 0 1) := ⟨_, rfl⟩
  rw [← hC] at hspan
  have fc : frm kCs V3 C := by rw [hC]; exact cS_f2
  have hLC : Ilen C := Ilen_f fc hL3
  have e08C : tA C 3208 = tA t 3208 := by rw [(fc.1 3208 rfl).2.2.2.2.1, e08]
  have gd1 : ∀ k : Option (Int32 × TS), gd (1 : Int32) 9 k = k := fun _ => rfl
  have gd2 : ∀ k : Option (Int32 × TS), gd (2 : Int32) 9 k = k := fun _ => rfl
  have z1 : (1 : Int32).toNatClampNeg = 1 := rfl
  have z2 : (2 : Int32).toNatClampNeg = 2 := rfl
  have r615 : tI V3 615 nM = nt ag := by rw [hV3]; simp (disch := omega) only [I_uI, I_uI_n, R_uR, R_uR_n, A_uA, A_uA_n, J_uJ, J_uJ_n, Q_uQ, Q_uQ_n, E_uO, E_uO_n, I_uO, I_uO_n, R_uO, R_uO_n, E_uN, E_uN_n, L_uN, L_uN_n, A_uN, A_uN_n, J_uN, J_uN_n, Q_uN, Q_uN_n, A_uCA, A_uCA_n, J_uCJ, J_uCJ_n, E_uI, R_uI, L_uI, A_uI, J_uI, Q_uI, E_uR, I_uR, L_uR, A_uR, J_uR, Q_uR, E_uA, I_uA, R_uA, L_uA, J_uA, Q_uA, E_uJ, I_uJ, R_uJ, L_uJ, A_uJ, Q_uJ, E_uQ, I_uQ, R_uQ, L_uQ, A_uQ, J_uQ, L_uO, A_uO, J_uO, Q_uO, I_uN, R_uN, E_uCA, I_uCA, R_uCA, L_uCA, J_uCA, Q_uCA, E_uCJ, I_uCJ, R_uCJ, L_uCJ, A_uCJ, Q_uCJ, m1_s]
  have c207 : tI C 1207 0 = nt nM := by rw [(fc.1 1207 rfl).2.1, (ft3.1 1207 rfl).2.1]; exact hM.2.1
  have c600 : tI C 600 nM = nt nM := by rw [(fc.1 600 rfl).2.1, (f3.1 600 rfl).2.1, (a2.1 600 rfl).2.1, (f1.1 600 rfl).2.1]; exact n600
  refine ⟨V3, ?_, ft3, fun m hm => agm_tr (g0 m hm) (agm_tr (g1 m hm) (agm_tr (g2 m hm) (g3 m hm))), ?_, ?_, fun i hi => ?_⟩
  · rw [sale_pre hL hS hM hp hday hlM ho hcs (nt fee) hhow, ← hV0]
    unfold B_X12_makeSale_89
    rw [nxt_e, hpk, ob_s, a1, ob_s, hag V2 (some c) nM e107, ← hC]
    unfold B_X12_makeSale_123
    have s1 : tR (uI V2 615 nM (nt ag)) 602 nM = some co := r2_602
    have s2 : tI (uI V2 615 nM (nt ag)) 611 nM = nt (kv1 kc) := by simp (disch := omega) only [I_uI, I_uI_n, R_uR, R_uR_n, A_uA, A_uA_n, J_uJ, J_uJ_n, Q_uQ, Q_uQ_n, E_uO, E_uO_n, I_uO, I_uO_n, R_uO, R_uO_n, E_uN, E_uN_n, L_uN, L_uN_n, A_uN, A_uN_n, J_uN, J_uN_n, Q_uN, Q_uN_n, A_uCA, A_uCA_n, J_uCJ, J_uCJ_n, E_uI, R_uI, L_uI, A_uI, J_uI, Q_uI, E_uR, I_uR, L_uR, A_uR, J_uR, Q_uR, E_uA, I_uA, R_uA, L_uA, J_uA, Q_uA, E_uJ, I_uJ, R_uJ, L_uJ, A_uJ, Q_uJ, E_uQ, I_uQ, R_uQ, L_uQ, A_uQ, J_uQ, L_uO, A_uO, J_uO, Q_uO, I_uN, R_uN, E_uCA, I_uCA, R_uCA, L_uCA, J_uCA, Q_uCA, E_uCJ, I_uCJ, R_uCJ, L_uCJ, A_uCJ, Q_uCJ, m1_s]; exact r2_611
    have s3 : tI (uI V2 615 nM (nt ag)) 613 nM = nt (shW nB fee co (tch t nS p d)) := by simp (disch := omega) only [I_uI, I_uI_n, R_uR, R_uR_n, A_uA, A_uA_n, J_uJ, J_uJ_n, Q_uQ, Q_uQ_n, E_uO, E_uO_n, I_uO, I_uO_n, R_uO, R_uO_n, E_uN, E_uN_n, L_uN, L_uN_n, A_uN, A_uN_n, J_uN, J_uN_n, Q_uN, Q_uN_n, A_uCA, A_uCA_n, J_uCJ, J_uCJ_n, E_uI, R_uI, L_uI, A_uI, J_uI, Q_uI, E_uR, I_uR, L_uR, A_uR, J_uR, Q_uR, E_uA, I_uA, R_uA, L_uA, J_uA, Q_uA, E_uJ, I_uJ, R_uJ, L_uJ, A_uJ, Q_uJ, E_uQ, I_uQ, R_uQ, L_uQ, A_uQ, J_uQ, L_uO, A_uO, J_uO, Q_uO, I_uN, R_uN, E_uCA, I_uCA, R_uCA, L_uCA, J_uCA, Q_uCA, E_uCJ, I_uCJ, R_uCJ, L_uCJ, A_uCJ, Q_uCJ, m1_s]; exact r2_613
    have s4 : tI (uI V2 615 nM (nt ag)) 103 = tI V2 103 := by simp (disch := omega) only [I_uI, I_uI_n, R_uR, R_uR_n, A_uA, A_uA_n, J_uJ, J_uJ_n, Q_uQ, Q_uQ_n, E_uO, E_uO_n, I_uO, I_uO_n, R_uO, R_uO_n, E_uN, E_uN_n, L_uN, L_uN_n, A_uN, A_uN_n, J_uN, J_uN_n, Q_uN, Q_uN_n, A_uCA, A_uCA_n, J_uCJ, J_uCJ_n, E_uI, R_uI, L_uI, A_uI, J_uI, Q_uI, E_uR, I_uR, L_uR, A_uR, J_uR, Q_uR, E_uA, I_uA, R_uA, L_uA, J_uA, Q_uA, E_uJ, I_uJ, R_uJ, L_uJ, A_uJ, Q_uJ, E_uQ, I_uQ, R_uQ, L_uQ, A_uQ, J_uQ, L_uO, A_uO, J_uO, Q_uO, I_uN, R_uN, E_uCA, I_uCA, R_uCA, L_uCA, J_uCA, Q_uCA, E_uCJ, I_uCJ, R_uCJ, L_uCJ, A_uCJ, Q_uCJ, m1_s]
    have s5 : ∀ v, tI (uI (uI V2 615 nM (nt ag)) 103 co v) 103 = mm_u1 (tI V2 103) co v := fun v => by rw [I_uI, s4]
    have s6 : ∀ v, tI (uI (uI V2 615 nM (nt ag)) 103 co v) 615 nM = nt ag := fun v => by simp (disch := omega) only [I_uI, I_uI_n, R_uR, R_uR_n, A_uA, A_uA_n, J_uJ, J_uJ_n, Q_uQ, Q_uQ_n, E_uO, E_uO_n, I_uO, I_uO_n, R_uO, R_uO_n, E_uN, E_uN_n, L_uN, L_uN_n, A_uN, A_uN_n, J_uN, J_uN_n, Q_uN, Q_uN_n, A_uCA, A_uCA_n, J_uCJ, J_uCJ_n, E_uI, R_uI, L_uI, A_uI, J_uI, Q_uI, E_uR, I_uR, L_uR, A_uR, J_uR, Q_uR, E_uA, I_uA, R_uA, L_uA, J_uA, Q_uA, E_uJ, I_uJ, R_uJ, L_uJ, A_uJ, Q_uJ, E_uQ, I_uQ, R_uQ, L_uQ, A_uQ, J_uQ, L_uO, A_uO, J_uO, Q_uO, I_uN, R_uN, E_uCA, I_uCA, R_uCA, L_uCA, J_uCA, Q_uCA, E_uCJ, I_uCJ, R_uCJ, L_uCJ, A_uCJ, Q_uCJ, m1_s]
    rw [nxt_e, s1, nxt_e, oc_s, s2, s3, s4, ← hX, nxt_e, oc_s, s5, s6, ← hV3, nxt_e, (show tL _ 3208 0 = 9 from hL3 3208 rfl), gd1, z1, e08, e1200, hspan, ob2_s, nxt_e]
    have u1 : ∀ u, tR (uR u 607 nM (some nS)) 607 nM = some nS := fun u => by rw [R_uR, m1_s]
    rw [u1, nxt_e, show tL (uR C 607 nM (some nS)) 3208 0 = 9 from hLC 3208 rfl, gd2, oc_s, show tA (uR C 607 nM (some nS)) 3208 = tA t 3208 from e08C, z2, nxt_e]
    unfold F_X12_enter
    have u2 : tR (uI (uR C 607 nM (some nS)) 1105 nS (tA t 3208 0 2)) 607 nM = some nS := by rw [R_uI, R_uR, m1_s]
    rw [oc_s, u2, nxt_e, oc_s, nxt_e]
    have u3 : tI (uR (uI (uR C 607 nM (some nS)) 1105 nS (tA t 3208 0 2)) 1107 nS (some nM)) 1207 0 = nt nM := by simp (disch := omega) only [I_uI, I_uI_n, R_uR, R_uR_n, A_uA, A_uA_n, J_uJ, J_uJ_n, Q_uQ, Q_uQ_n, E_uO, E_uO_n, I_uO, I_uO_n, R_uO, R_uO_n, E_uN, E_uN_n, L_uN, L_uN_n, A_uN, A_uN_n, J_uN, J_uN_n, Q_uN, Q_uN_n, A_uCA, A_uCA_n, J_uCJ, J_uCJ_n, E_uI, R_uI, L_uI, A_uI, J_uI, Q_uI, E_uR, I_uR, L_uR, A_uR, J_uR, Q_uR, E_uA, I_uA, R_uA, L_uA, J_uA, Q_uA, E_uJ, I_uJ, R_uJ, L_uJ, A_uJ, Q_uJ, E_uQ, I_uQ, R_uQ, L_uQ, A_uQ, J_uQ, L_uO, A_uO, J_uO, Q_uO, I_uN, R_uN, E_uCA, I_uCA, R_uCA, L_uCA, J_uCA, Q_uCA, E_uCJ, I_uCJ, R_uCJ, L_uCJ, A_uCJ, Q_uCJ, m1_s]; exact c207
    rw [u3, show tL (uR (uI (uR C 607 nM (some nS)) 1105 nS (tA t 3208 0 2)) 1107 nS (some nM)) 3206 0 = 200 from hLC 3206 rfl, gd_nt _ (by omega) (by omega), nt_cl (by omega), nxt_e]
    have u4 : tI (uQ (uR (uI (uR C 607 nM (some nS)) 1105 nS (tA t 3208 0 2)) 1107 nS (some nM)) 3206 0 nM (some nM)) 1207 0 = nt nM := u3
    rw [u4, nt_succ, nxt_e]
    have u5 : tI (uI (uQ (uR (uI (uR C 607 nM (some nS)) 1105 nS (tA t 3208 0 2)) 1107 nS (some nM)) 3206 0 nM (some nM)) 1207 0 (nt (nM + 1))) 600 nM = nt nM := by simp (disch := omega) only [I_uI, I_uI_n, R_uR, R_uR_n, A_uA, A_uA_n, J_uJ, J_uJ_n, Q_uQ, Q_uQ_n, E_uO, E_uO_n, I_uO, I_uO_n, R_uO, R_uO_n, E_uN, E_uN_n, L_uN, L_uN_n, A_uN, A_uN_n, J_uN, J_uN_n, Q_uN, Q_uN_n, A_uCA, A_uCA_n, J_uCJ, J_uCJ_n, E_uI, R_uI, L_uI, A_uI, J_uI, Q_uI, E_uR, I_uR, L_uR, A_uR, J_uR, Q_uR, E_uA, I_uA, R_uA, L_uA, J_uA, Q_uA, E_uJ, I_uJ, R_uJ, L_uJ, A_uJ, Q_uJ, E_uQ, I_uQ, R_uQ, L_uQ, A_uQ, J_uQ, L_uO, A_uO, J_uO, Q_uO, I_uN, R_uN, E_uCA, I_uCA, R_uCA, L_uCA, J_uCA, Q_uCA, E_uCJ, I_uCJ, R_uCJ, L_uCJ, A_uCJ, Q_uCJ, m1_s]; exact c600
    rw [u5, ob2_s]
    rfl
  · simp only [(f3.1 6 rfl).1, (f3.1 600 rfl).2.1, (f3.1 601 rfl).2.2.1, (f3.1 602 rfl).2.2.1, (f3.1 603 rfl).2.2.1, (f3.1 604 rfl).2.1, (f3.1 605 rfl).2.1, (f3.1 606 rfl).2.1, (f3.1 608 rfl).2.1, (f3.1 609 rfl).2.1, (f3.1 610 rfl).2.1, (f3.1 611 rfl).2.1, (f3.1 612 rfl).2.2.1, (f3.1 613 rfl).2.1, (f3.1 616 rfl).2.1, (f3.1 617 rfl).2.1, (f3.1 618 rfl).2.1, (f3.1 619 rfl).2.1, r615]
    simp only [(a2.1 6 rfl).1, (a2.1 600 rfl).2.1, (a2.1 601 rfl).2.2.1, (a2.1 602 rfl).2.2.1, (a2.1 603 rfl).2.2.1, (a2.1 604 rfl).2.1, (a2.1 605 rfl).2.1, (a2.1 606 rfl).2.1, (a2.1 608 rfl).2.1, (a2.1 609 rfl).2.1, (a2.1 610 rfl).2.1, (a2.1 616 rfl).2.1, (a2.1 617 rfl).2.1, (a2.1 618 rfl).2.1, (a2.1 619 rfl).2.1, r2_611, r2_613, (a2.1 612 rfl).2.2.1, r612]
    simp only [(f1.1 6 rfl).1, (f1.1 600 rfl).2.1, (f1.1 601 rfl).2.2.1, (f1.1 602 rfl).2.2.1, (f1.1 603 rfl).2.2.1, (f1.1 604 rfl).2.1, (f1.1 605 rfl).2.1, (f1.1 606 rfl).2.1, (f1.1 608 rfl).2.1, (f1.1 609 rfl).2.1, (f1.1 610 rfl).2.1, (f1.1 616 rfl).2.1, (f1.1 617 rfl).2.1, (f1.1 618 rfl).2.1, (f1.1 619 rfl).2.1]
    exact ⟨n6, n600, n601, n602, n603, n604, n605, n606, n608, n609, n610, trivial, trivial, trivial, trivial, n616, n617, n618, n619⟩
  · simp only [(f3.1 614 rfl).2.2.1, (f3.1 2614 rfl).2.2.2.1, (f3.1 2614 rfl).2.2.2.2.1]
    exact a6
  · have h1 : tI V3 103 i = tI V2 103 i + (if i = co then X else 0) + (if i = c then -(nt fee + nt ag) else 0) := by
      rw [hV3]
      simp (disch := omega) only [I_uI, I_uI_n, R_uR, R_uR_n, A_uA, A_uA_n, J_uJ, J_uJ_n, Q_uQ, Q_uQ_n, E_uO, E_uO_n, I_uO, I_uO_n, R_uO, R_uO_n, E_uN, E_uN_n, L_uN, L_uN_n, A_uN, A_uN_n, J_uN, J_uN_n, Q_uN, Q_uN_n, A_uCA, A_uCA_n, J_uCJ, J_uCJ_n, E_uI, R_uI, L_uI, A_uI, J_uI, Q_uI, E_uR, I_uR, L_uR, A_uR, J_uR, Q_uR, E_uA, I_uA, R_uA, L_uA, J_uA, Q_uA, E_uJ, I_uJ, R_uJ, L_uJ, A_uJ, Q_uJ, E_uQ, I_uQ, R_uQ, L_uQ, A_uQ, J_uQ, L_uO, A_uO, J_uO, Q_uO, I_uN, R_uN, E_uCA, I_uCA, R_uCA, L_uCA, J_uCA, Q_uCA, E_uCJ, I_uCJ, R_uCJ, L_uCJ, A_uCJ, Q_uCJ, m1_s]
      by_cases e1 : i = c
      · subst e1
        rw [m1_s, if_pos rfl, Int32.sub_eq_add_neg]
        by_cases e2 : i = co
        · subst e2; rw [m1_s, if_pos rfl]
        · rw [m1_n e2, if_neg e2, Int32.add_zero]
      · rw [m1_n e1, if_neg e1, Int32.add_zero]
        by_cases e2 : i = co
        · subst e2; rw [m1_s, if_pos rfl]
        · rw [m1_n e2, if_neg e2, Int32.add_zero]
    rw [h1, a3 i hi, r103, (f0.1 103 rfl).2.1, hX]
end
