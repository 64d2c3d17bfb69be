/-! PART f2: what a sale before left: by both. -/
def kv1 (kc : Option (Nat × Nat)) : Nat := match kc with
  | none => 0
  | some x => x.2
def ko1 (kc : Option (Nat × Nat)) : Option Nat := match kc with
  | none => none
  | some x => some x.1
def kk1 (kc : Option (Nat × Nat)) (i : Nat) : Int32 := match kc with
  | none => 0
  | some x => if i = x.1 then nt x.2 else 0
def pkC (V : TS) (m : Nat) (kc : Option (Nat × Nat)) : TS := match kc with
  | none => V
  | some x => uI (uR (uI V 611 m (nt x.2)) 612 m (some x.1)) 103 x.1 (tI V 103 x.1 + nt x.2)
def pkM (T : TS) (m : Nat) (kc : Option (Nat × Nat)) : TS := match kc with
  | none => T
  | some x => uA (uA T 3341 0 m (nt x.2)) 3342 0 m (nt x.1)
section
variable {t V T : TS} {nB nS nM p co c d fee : Nat}
def saleK (t28 : TS) (r21 x1 x2 x3 x23 : Int32) : Option (Int32 × TS) := (gd r21 (tL t28 3324 0) (if (tA t28 3324 0 r21.toNatClampNeg) < 0 then (B_X13_sale_126  t28 x1 x2 x3 x23) else (gd (tA t28 3324 0 r21.toNatClampNeg) (tL t28 3331 0) (if x3 ≤ (tA t28 3331 0 (tA t28 3324 0 r21.toNatClampNeg).toNatClampNeg) then (B_X13_sale_126  t28 x1 x2 x3 x23) else (gd (tA t28 3324 0 r21.toNatClampNeg) (tL t28 3331 0) (gd (tA t28 3324 0 r21.toNatClampNeg) (tL t28 3336 0) (Option.bind (F_X13_up t28 (x3 - (tA t28 3331 0 (tA t28 3324 0 r21.toNatClampNeg).toNatClampNeg)) (tA t28 3336 0 (tA t28 3324 0 r21.toNatClampNeg).toNatClampNeg)) (fun r29 => (gd x23 (tL t28 3341 0) (nxt (uA t28 3341 0 x23.toNatClampNeg r29) (fun t30 => (gd (tA t28 3324 0 r21.toNatClampNeg) (tL t30 3329 0) (gd x23 (tL t30 3342 0) (nxt (uA t30 3342 0 x23.toNatClampNeg (tA t30 3329 0 (tA t28 3324 0 r21.toNatClampNeg).toNatClampNeg)) (fun t31 => (B_X13_sale_126  t31 x1 x2 x3 x23))))))))))))))))
theorem kept_both (hS : Ispan nB nS nM t) (hM : Imove nB nS nM t) (hlM : nM < 200) (h150 : nB ≤ 150) {so : Nat} (hso : so < nS) (hf : fee ≤ 999999) : ∃ kc : Option (Nat × Nat), (∀ x, kc = some x → x.1 < nB ∧ isCl (tA t 3308 0 x.1) = true ∧ x.2 ≤ 500000) ∧ (∀ V : TS, (∀ a, ¬ a = nM → tI V 604 a = tI t 604 a ∧ tI V 610 a = tI t 610 a ∧ tR V 602 a = tR t 602 a) → tI V 604 nM = nt fee → F_X12_payKept V (some nM) (tR t 1107 so) = some (pkC V nM kc)) ∧ ∀ (T : TS) (x1 x2 : Int32), Ilen T → (∀ a, ¬ a = nM → tA T 3331 0 a = tA t 3331 0 a ∧ tA T 3336 0 a = tA t 3336 0 a ∧ tA T 3329 0 a = tA t 3329 0 a) → tA T 3324 0 so = tA t 3324 0 so → saleK T (nt so) x1 x2 (nt fee) (nt nM) = B_X13_sale_126 (pkM T nM kc) x1 x2 (nt fee) (nt nM) := by
  have h600 := hS.1
  obtain ⟨-, -, -, -, -, -, -, -, -, -, hmv, -⟩ := hS.2.2.2.1 so hso
  rcases hmv with ⟨e1, e2⟩ | ⟨a, ha, e1, e2⟩
  · refine ⟨none, fun x hx => (by cases hx), fun V _ _ => ?_, fun T x1 x2 hL _ h24 => ?_⟩
    · unfold F_X12_payKept
      rw [e1, oc_n]
      rfl
    · unfold saleK
      rw [(show tL _ 3324 0 = 600 from hL 3324 rfl), gd_nt _ (by omega) (by omega), nt_cl (by omega), h24, e2, if_pos (by decide)]
      rfl
  · obtain ⟨-, -, -, -, ⟨sa, hsa, hsa2, s1, s2⟩, -, ⟨fa, hfa, f1, f2⟩, -, -, -, -, -, ⟨ka, hka, k1, k2⟩, -⟩ := hM.2.2.2.1 a ha
    by_cases hlt : fa < fee
    · have hb : ka * (fee - fa) ≤ 50 * 999999 := Nat.mul_le_mul hka (by omega)
      refine ⟨some (sa, (ka * (fee - fa) + 99) / 100), fun x hx => ?_, fun V hV h4 => ?_, fun T x1 x2 hL hT h24 => ?_⟩
      · rw [← Option.some.inj hx]; exact ⟨hsa, hsa2, by show (ka * (fee - fa) + 99) / 100 ≤ 500000; omega⟩
      · obtain ⟨v1, v2, v3⟩ := hV a (by omega)
        unfold F_X12_payKept
        have hn6 : ∀ (u : TS) (v : Int32), tR (uI u 611 nM v) 602 = tR u 602 := fun _ _ => rfl
        have c0 : (nt fa < nt fee) = (fa < fee) := lt_nt (by omega) (by omega)
        rw [e1, oc_s, oc_s, v1, h4, f1, ifP c0, if_pos hlt, v2, k1, nt_sub (by omega), hun_eq V (by omega), ob_s, nxt_e, hn6, v3, s1, nxt_e, nxt_e, R_uR, m1_s, nxt_e, oc_s, nxt_e]
        simp (disch := omega) only [I_uI, I_uI_n, R_uR, R_uR_n, A_uA, A_uA_n, J_uJ, J_uJ_n, Q_uQ, Q_uQ_n, E_uO, E_uO_n, I_uO, I_uO_n, R_uO, R_uO_n, E_uN, E_uN_n, L_uN, L_uN_n, A_uN, A_uN_n, J_uN, J_uN_n, Q_uN, Q_uN_n, A_uCA, A_uCA_n, J_uCJ, J_uCJ_n, E_uI, R_uI, L_uI, A_uI, J_uI, Q_uI, E_uR, I_uR, L_uR, A_uR, J_uR, Q_uR, E_uA, I_uA, R_uA, L_uA, J_uA, Q_uA, E_uJ, I_uJ, R_uJ, L_uJ, A_uJ, Q_uJ, E_uQ, I_uQ, R_uQ, L_uQ, A_uQ, J_uQ, L_uO, A_uO, J_uO, Q_uO, I_uN, R_uN, E_uCA, I_uCA, R_uCA, L_uCA, J_uCA, Q_uCA, E_uCJ, I_uCJ, R_uCJ, L_uCJ, A_uCJ, Q_uCJ, m1_s, m1_s, pkC]
      · obtain ⟨v1, v2, v3⟩ := hT a (by omega)
        have c0 : (nt fee ≤ nt fa) = (fee ≤ fa) := ge_nt (by omega) (by omega)
        have hmc : (fee - fa) * ka = ka * (fee - fa) := Nat.mul_comm _ _
        unfold saleK
        rw [(show tL _ 3324 0 = 600 from hL 3324 rfl), (show tL _ 3331 0 = 200 from hL 3331 rfl), (show tL _ 3336 0 = 200 from hL 3336 rfl), (show tL _ 3341 0 = 200 from hL 3341 rfl), gd_nt _ (by omega) (by omega), nt_cl (by omega), h24, e2, if_neg (nt_neg (by omega)), gd_nt _ (by omega) (by omega), nt_cl (show a < 2147483648 by omega), v1, f2, ifP c0, if_neg (by omega), gd_nt _ (by omega) (by omega), gd_nt _ (by omega) (by omega), v2, k2, nt_sub (by omega), up_eq T (by omega), ob_s, hmc, gd_nt _ (by omega) (by omega), nxt_e, nt_cl (by omega), show tL (uA T 3341 0 nM (nt ((ka * (fee - fa) + 99) / 100))) 3329 0 = 200 from hL 3329 rfl, show tL (uA T 3341 0 nM (nt ((ka * (fee - fa) + 99) / 100))) 3342 0 = 200 from hL 3342 rfl, gd_nt _ (by omega) (by omega), gd_nt _ (by omega) (by omega), nxt_e, A_uA_n (by decide), v3, s2]
        rfl
    · refine ⟨none, fun x hx => (by cases hx), fun V hV h4 => ?_, fun T x1 x2 hL hT h24 => ?_⟩
      · obtain ⟨v1, v2, v3⟩ := hV a (by omega)
        have c0 : (nt fa < nt fee) = (fa < fee) := lt_nt (by omega) (by omega)
        unfold F_X12_payKept
        rw [e1, oc_s, oc_s, v1, h4, f1, ifP c0, if_neg hlt]
        rfl
      · obtain ⟨v1, v2, v3⟩ := hT a (by omega)
        have c0 : (nt fee ≤ nt fa) = (fee ≤ fa) := ge_nt (by omega) (by omega)
        unfold saleK
        rw [(show tL _ 3324 0 = 600 from hL 3324 rfl), (show tL _ 3331 0 = 200 from hL 3331 rfl), gd_nt _ (by omega) (by omega), nt_cl (by omega), h24, e2, if_neg (nt_neg (by omega)), gd_nt _ (by omega) (by omega), nt_cl (show a < 2147483648 by omega), v1, f2, ifP c0, if_pos (by omega)]
        rfl
/-- the agent's part -/
theorem agent_both (hB : Ibody nB t) (hp : p < nB) (hf : fee ≤ 999999) : ∃ ag : Nat, ag ≤ 30000 ∧ (∀ (V : TS) (v2 : Option Nat) (v6 : Nat), tR V 107 = tR t 107 → nxt (tR V 107 p) (fun o24 => (oc o24 (B_X12_makeSale_123 V p v2 (nt fee) v6 0 v6) (fun j25 => (Option.bind (F_X12_hundredths V 3 (nt fee)) (fun r26 => (B_X12_makeSale_123 V p v2 (nt fee) v6 r26 v6)))))) = B_X12_makeSale_123 V p v2 (nt fee) v6 (nt ag) v6) ∧ ∀ (T : TS) (v2 v8 : Int32), Ilen T → tA T 3314 = tA t 3314 → (gd (nt p) (tL T 3314 0) (if 0 ≤ (tA T 3314 0 (nt p).toNatClampNeg) then (Option.bind (F_X13_up T (nt fee) 3) (fun r22 => (B_X13_sale_156 T v2 (nt fee) v8 r22 v8))) else (B_X13_sale_156 T v2 (nt fee) v8 0 v8))) = B_X13_sale_156 T v2 (nt fee) v8 (nt ag) v8 := by
  have h150 := hB.1
  obtain ⟨-, -, -, -, -, -, -, hag, -⟩ := hB.2.2.2.1 p hp
  rcases hag with ⟨e1, e2⟩ | ⟨j, hj, e1, e2⟩
  · refine ⟨0, by omega, fun V v2 v6 h => ?_, fun T v2 v8 hL h => ?_⟩
    · rw [nxt_e, h, e1, oc_n]; rfl
    · rw [(show tL _ 3314 0 = 150 from hL 3314 rfl), gd_nt _ (by omega) (by omega), nt_cl (by omega), h, e2, if_neg (by decide)]; rfl
  · refine ⟨(fee * 3 + 99) / 100, by omega, fun V v2 v6 h => ?_, fun T v2 v8 hL h => ?_⟩
    · rw [nxt_e, h, e1, oc_s, show (3 : Int32) = nt 3 from rfl, hun_eq V (by omega), ob_s, Nat.mul_comm]
    · rw [(show tL _ 3314 0 = 150 from hL 3314 rfl), gd_nt _ (by omega) (by omega), nt_cl (by omega), h, e2, if_pos (nt_nn (by omega)), show (3 : Int32) = nt 3 from rfl, up_eq T (by omega), ob_s]
end
