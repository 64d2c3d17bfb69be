/-! PART 19: rows of calls by what they answer (by program). -/
abbrev irm (x y : Int32) : Int32 := x - x / y * y
abbrev jrm (x y : Int64) : Int64 := x - x / y * y
/-- fields that never change once the constructors are through -/
def mm_fx (f : Nat) : Bool := [0, 200, 201, 202, 203, 300, 301, 303, 305, 400, 401, 402, 403, 404, 500, 501, 700, 702, 800, 802, 804, 1004, 1202, 1203, 1206, 1208, 1209, 1210, 1211, 1213, 1214, 1215, 1216, 1217, 1218, 1219, 1303, 1304, 1305, 1306, 1308, 1309, 1310, 1311, 1312, 1313, 1314, 1315, 1317, 1318, 1319, 1320, 1321, 1322, 1323, 1324, 1325, 1326, 1328, 1329, 1330, 1331, 1332, 1333, 1334, 1335, 1336, 1337, 1338, 1339, 1340, 1341, 1342, 1343, 1344, 1345, 1346, 1347, 1348, 1349, 1353, 1356, 1357, 1358, 1359, 1360, 1361, 1362, 1368, 1369, 1371, 1372, 1373, 1374, 1376, 1377, 1378, 1382, 1383, 1384, 1385, 1387, 1388, 1389, 1392, 1393, 1394, 1395, 1396].contains f
theorem mm_fx_no {c : Nat} (hc : c = 1 ∨ c = 6 ∨ c = 9 ∨ c = 11) : ∀ f, f / 100 = c → mm_fx f = false := by
  intro f hf
  unfold mm_fx
  rw [← Bool.not_eq_true, List.contains_iff_mem]
  intro hm
  simp only [List.mem_cons, List.not_mem_nil, or_false] at hm
  omega
section NCR
variable {W : NW} {d : Nat} {T : Nat → Option En} {Q : Option NV → TS → Prop} {a0 : Nat → Nat → Nat} {e0 : Nat → Nat → Bool} {pc : Nat} {q : En} {ls : List (Option NV)} {st : List NV} {t : TS} {bc bs : Nat}
theorem nx_iinc2 (m : Int32) (hT : T pc = some q) {x : Int32} {i : Nat} {n : Int} {ls' : List (Option NV)} (hs2 : mm_sem W.1 q = mm_iinc i n) (hm : Int32.ofInt n = m) (hx : ls[i]? = some (some (eI x))) (hl : nn_set1 ls i (eI (x + m)) = ls') (k : nX W d T Q a0 e0 (pc + 3) ls' st t bc bs) : nX W d T Q a0 e0 pc ls st t bc bs := by
  subst hm
  exact nx_iinc hT hs2 hx hl k
theorem nx_cSI (hT : T pc = some q) {x y : Nat} {as st' : List NV} (hs2 : mm_sem W.1 q = mm_call x y) (hy : y ≤ st.length) (ha : (st.take y).reverse = as) (hr : st.drop y = st') (hl4 : st'.length ≤ 4) {β : Type} {e : Option (Int32)} {kk : Int32 → Option β} {Qp : β → Prop} (H : wp (e.bind kk) Qp) (hC : ∀ Q1 : Option NV → TS → Prop, wp e (fun r => Q1 (some (eI r)) t) → nC W d x as t 0 0 Q1) (k : ∀ r, wp (kk r) Qp → nX W d T Q a0 e0 (pc + 3) ls (eI r :: st') t bc bs) : nX W d T Q a0 e0 pc ls st t bc bs := by
  obtain ⟨b, hb, hQ⟩ := H
  obtain ⟨a, ha2, hk⟩ : ∃ a, e = some a ∧ kk a = some b := by
    cases he : e with
    | none => rw [he] at hb; cases hb
    | some a => exact ⟨a, rfl, by rw [he] at hb; exact hb⟩
  refine nx_call hT hs2 hy ha hr hl4 (Nat.zero_le _) (Nat.zero_le _) (Q1 := fun r t' => ∃ x, e = some x ∧ r = (fun r : Int32 => (some (eI r) : Option NV)) x ∧ t' = (fun r : Int32 => (t : TS)) x) (hC _ ⟨a, ha2, ⟨a, ha2, rfl, rfl⟩⟩) ?_
  rintro r' t' ⟨x, hx, hr', ht'⟩
  have hxa : x = a := Option.some.inj (hx.symm.trans ha2)
  have hkk := k x ⟨b, by rw [hxa]; exact hk, hQ⟩
  rw [hr', ht']
  exact hkk
theorem nx_cSIt (hT : T pc = some q) {x y : Nat} {as st' : List NV} (hs2 : mm_sem W.1 q = mm_call x y) (hy : y ≤ st.length) (ha : (st.take y).reverse = as) (hr : st.drop y = st') (hl4 : st'.length ≤ 4) {β : Type} {e : Option (Int32 × TS)} {kk : Int32 × TS → Option β} {Qp : β → Prop} (H : wp (e.bind kk) Qp) (hC : ∀ Q1 : Option NV → TS → Prop, wp e (fun r => Q1 (some (eI r.1)) r.2) → nC W d x as t 0 0 Q1) (k : ∀ r, wp (kk r) Qp → nX W d T Q a0 e0 (pc + 3) ls (eI r.1 :: st') r.2 bc bs) : nX W d T Q a0 e0 pc ls st t bc bs := by
  obtain ⟨b, hb, hQ⟩ := H
  obtain ⟨a, ha2, hk⟩ : ∃ a, e = some a ∧ kk a = some b := by
    cases he : e with
    | none => rw [he] at hb; cases hb
    | some a => exact ⟨a, rfl, by rw [he] at hb; exact hb⟩
  refine nx_call hT hs2 hy ha hr hl4 (Nat.zero_le _) (Nat.zero_le _) (Q1 := fun r t' => ∃ x, e = some x ∧ r = (fun r : Int32 × TS => (some (eI r.1) : Option NV)) x ∧ t' = (fun r : Int32 × TS => (r.2 : TS)) x) (hC _ ⟨a, ha2, ⟨a, ha2, rfl, rfl⟩⟩) ?_
  rintro r' t' ⟨x, hx, hr', ht'⟩
  have hxa : x = a := Option.some.inj (hx.symm.trans ha2)
  have hkk := k x ⟨b, by rw [hxa]; exact hk, hQ⟩
  rw [hr', ht']
  exact hkk
theorem nx_aSIt (c1 s1 : Nat) (hT : T pc = some q) {x y : Nat} {as st' : List NV} (hs2 : mm_sem W.1 q = mm_call x y) (hy : y ≤ st.length) (ha : (st.take y).reverse = as) (hr : st.drop y = st') (hl4 : st'.length ≤ 4) (h1 : c1 ≤ bc) (h2 : s1 ≤ bs) {β : Type} {e : Option (Int32 × TS)} {kk : Int32 × TS → Option β} {Qp : β → Prop} (H : wp (e.bind kk) Qp) (hC : ∀ Q1 : Option NV → TS → Prop, wp e (fun r => Q1 (some (eI r.1)) r.2) → nC W d x as t c1 s1 Q1) (k : ∀ r, wp (kk r) Qp → nX W d T Q a0 e0 (pc + 3) ls (eI r.1 :: st') r.2 (bc - c1) (bs - s1)) : nX W d T Q a0 e0 pc ls st t bc bs := by
  obtain ⟨b, hb, hQ⟩ := H
  obtain ⟨a, ha2, hk⟩ : ∃ a, e = some a ∧ kk a = some b := by
    cases he : e with
    | none => rw [he] at hb; cases hb
    | some a => exact ⟨a, rfl, by rw [he] at hb; exact hb⟩
  refine nx_call hT hs2 hy ha hr hl4 h1 h2 (Q1 := fun r t' => ∃ x, e = some x ∧ r = (fun r : Int32 × TS => (some (eI r.1) : Option NV)) x ∧ t' = (fun r : Int32 × TS => (r.2 : TS)) x) (hC _ ⟨a, ha2, ⟨a, ha2, rfl, rfl⟩⟩) ?_
  rintro r' t' ⟨x, hx, hr', ht'⟩
  have hxa : x = a := Option.some.inj (hx.symm.trans ha2)
  have hkk := k x ⟨b, by rw [hxa]; exact hk, hQ⟩
  rw [hr', ht']
  exact hkk
theorem nx_cSJ (hT : T pc = some q) {x y : Nat} {as st' : List NV} (hs2 : mm_sem W.1 q = mm_call x y) (hy : y ≤ st.length) (ha : (st.take y).reverse = as) (hr : st.drop y = st') (hl4 : st'.length ≤ 4) {β : Type} {e : Option (Int64)} {kk : Int64 → Option β} {Qp : β → Prop} (H : wp (e.bind kk) Qp) (hC : ∀ Q1 : Option NV → TS → Prop, wp e (fun r => Q1 (some (eJ r)) t) → nC W d x as t 0 0 Q1) (k : ∀ r, wp (kk r) Qp → nX W d T Q a0 e0 (pc + 3) ls (eJ r :: st') t bc bs) : nX W d T Q a0 e0 pc ls st t bc bs := by
  obtain ⟨b, hb, hQ⟩ := H
  obtain ⟨a, ha2, hk⟩ : ∃ a, e = some a ∧ kk a = some b := by
    cases he : e with
    | none => rw [he] at hb; cases hb
    | some a => exact ⟨a, rfl, by rw [he] at hb; exact hb⟩
  refine nx_call hT hs2 hy ha hr hl4 (Nat.zero_le _) (Nat.zero_le _) (Q1 := fun r t' => ∃ x, e = some x ∧ r = (fun r : Int64 => (some (eJ r) : Option NV)) x ∧ t' = (fun r : Int64 => (t : TS)) x) (hC _ ⟨a, ha2, ⟨a, ha2, rfl, rfl⟩⟩) ?_
  rintro r' t' ⟨x, hx, hr', ht'⟩
  have hxa : x = a := Option.some.inj (hx.symm.trans ha2)
  have hkk := k x ⟨b, by rw [hxa]; exact hk, hQ⟩
  rw [hr', ht']
  exact hkk
theorem nx_cSJt (hT : T pc = some q) {x y : Nat} {as st' : List NV} (hs2 : mm_sem W.1 q = mm_call x y) (hy : y ≤ st.length) (ha : (st.take y).reverse = as) (hr : st.drop y = st') (hl4 : st'.length ≤ 4) {β : Type} {e : Option (Int64 × TS)} {kk : Int64 × TS → Option β} {Qp : β → Prop} (H : wp (e.bind kk) Qp) (hC : ∀ Q1 : Option NV → TS → Prop, wp e (fun r => Q1 (some (eJ r.1)) r.2) → nC W d x as t 0 0 Q1) (k : ∀ r, wp (kk r) Qp → nX W d T Q a0 e0 (pc + 3) ls (eJ r.1 :: st') r.2 bc bs) : nX W d T Q a0 e0 pc ls st t bc bs := by
  obtain ⟨b, hb, hQ⟩ := H
  obtain ⟨a, ha2, hk⟩ : ∃ a, e = some a ∧ kk a = some b := by
    cases he : e with
    | none => rw [he] at hb; cases hb
    | some a => exact ⟨a, rfl, by rw [he] at hb; exact hb⟩
  refine nx_call hT hs2 hy ha hr hl4 (Nat.zero_le _) (Nat.zero_le _) (Q1 := fun r t' => ∃ x, e = some x ∧ r = (fun r : Int64 × TS => (some (eJ r.1) : Option NV)) x ∧ t' = (fun r : Int64 × TS => (r.2 : TS)) x) (hC _ ⟨a, ha2, ⟨a, ha2, rfl, rfl⟩⟩) ?_
  rintro r' t' ⟨x, hx, hr', ht'⟩
  have hxa : x = a := Option.some.inj (hx.symm.trans ha2)
  have hkk := k x ⟨b, by rw [hxa]; exact hk, hQ⟩
  rw [hr', ht']
  exact hkk
theorem nx_aSJt (c1 s1 : Nat) (hT : T pc = some q) {x y : Nat} {as st' : List NV} (hs2 : mm_sem W.1 q = mm_call x y) (hy : y ≤ st.length) (ha : (st.take y).reverse = as) (hr : st.drop y = st') (hl4 : st'.length ≤ 4) (h1 : c1 ≤ bc) (h2 : s1 ≤ bs) {β : Type} {e : Option (Int64 × TS)} {kk : Int64 × TS → Option β} {Qp : β → Prop} (H : wp (e.bind kk) Qp) (hC : ∀ Q1 : Option NV → TS → Prop, wp e (fun r => Q1 (some (eJ r.1)) r.2) → nC W d x as t c1 s1 Q1) (k : ∀ r, wp (kk r) Qp → nX W d T Q a0 e0 (pc + 3) ls (eJ r.1 :: st') r.2 (bc - c1) (bs - s1)) : nX W d T Q a0 e0 pc ls st t bc bs := by
  obtain ⟨b, hb, hQ⟩ := H
  obtain ⟨a, ha2, hk⟩ : ∃ a, e = some a ∧ kk a = some b := by
    cases he : e with
    | none => rw [he] at hb; cases hb
    | some a => exact ⟨a, rfl, by rw [he] at hb; exact hb⟩
  refine nx_call hT hs2 hy ha hr hl4 h1 h2 (Q1 := fun r t' => ∃ x, e = some x ∧ r = (fun r : Int64 × TS => (some (eJ r.1) : Option NV)) x ∧ t' = (fun r : Int64 × TS => (r.2 : TS)) x) (hC _ ⟨a, ha2, ⟨a, ha2, rfl, rfl⟩⟩) ?_
  rintro r' t' ⟨x, hx, hr', ht'⟩
  have hxa : x = a := Option.some.inj (hx.symm.trans ha2)
  have hkk := k x ⟨b, by rw [hxa]; exact hk, hQ⟩
  rw [hr', ht']
  exact hkk
theorem nx_cSO (ck : Nat) (hT : T pc = some q) {x y : Nat} {as st' : List NV} (hs2 : mm_sem W.1 q = mm_call x y) (hy : y ≤ st.length) (ha : (st.take y).reverse = as) (hr : st.drop y = st') (hl4 : st'.length ≤ 4) {β : Type} {e : Option (Option Nat)} {kk : Option Nat → Option β} {Qp : β → Prop} (H : wp (e.bind kk) Qp) (hC : ∀ Q1 : Option NV → TS → Prop, wp e (fun r => Q1 (some (eO ck r)) t) → nC W d x as t 0 0 Q1) (k : ∀ r, wp (kk r) Qp → nX W d T Q a0 e0 (pc + 3) ls (eO ck r :: st') t bc bs) : nX W d T Q a0 e0 pc ls st t bc bs := by
  obtain ⟨b, hb, hQ⟩ := H
  obtain ⟨a, ha2, hk⟩ : ∃ a, e = some a ∧ kk a = some b := by
    cases he : e with
    | none => rw [he] at hb; cases hb
    | some a => exact ⟨a, rfl, by rw [he] at hb; exact hb⟩
  refine nx_call hT hs2 hy ha hr hl4 (Nat.zero_le _) (Nat.zero_le _) (Q1 := fun r t' => ∃ x, e = some x ∧ r = (fun r : Option Nat => (some (eO ck r) : Option NV)) x ∧ t' = (fun r : Option Nat => (t : TS)) x) (hC _ ⟨a, ha2, ⟨a, ha2, rfl, rfl⟩⟩) ?_
  rintro r' t' ⟨x, hx, hr', ht'⟩
  have hxa : x = a := Option.some.inj (hx.symm.trans ha2)
  have hkk := k x ⟨b, by rw [hxa]; exact hk, hQ⟩
  rw [hr', ht']
  exact hkk
theorem nx_cSOt (ck : Nat) (hT : T pc = some q) {x y : Nat} {as st' : List NV} (hs2 : mm_sem W.1 q = mm_call x y) (hy : y ≤ st.length) (ha : (st.take y).reverse = as) (hr : st.drop y = st') (hl4 : st'.length ≤ 4) {β : Type} {e : Option (Option Nat × TS)} {kk : Option Nat × TS → Option β} {Qp : β → Prop} (H : wp (e.bind kk) Qp) (hC : ∀ Q1 : Option NV → TS → Prop, wp e (fun r => Q1 (some (eO ck r.1)) r.2) → nC W d x as t 0 0 Q1) (k : ∀ r, wp (kk r) Qp → nX W d T Q a0 e0 (pc + 3) ls (eO ck r.1 :: st') r.2 bc bs) : nX W d T Q a0 e0 pc ls st t bc bs := by
  obtain ⟨b, hb, hQ⟩ := H
  obtain ⟨a, ha2, hk⟩ : ∃ a, e = some a ∧ kk a = some b := by
    cases he : e with
    | none => rw [he] at hb; cases hb
    | some a => exact ⟨a, rfl, by rw [he] at hb; exact hb⟩
  refine nx_call hT hs2 hy ha hr hl4 (Nat.zero_le _) (Nat.zero_le _) (Q1 := fun r t' => ∃ x, e = some x ∧ r = (fun r : Option Nat × TS => (some (eO ck r.1) : Option NV)) x ∧ t' = (fun r : Option Nat × TS => (r.2 : TS)) x) (hC _ ⟨a, ha2, ⟨a, ha2, rfl, rfl⟩⟩) ?_
  rintro r' t' ⟨x, hx, hr', ht'⟩
  have hxa : x = a := Option.some.inj (hx.symm.trans ha2)
  have hkk := k x ⟨b, by rw [hxa]; exact hk, hQ⟩
  rw [hr', ht']
  exact hkk
theorem nx_aSOt (ck : Nat) (c1 s1 : Nat) (hT : T pc = some q) {x y : Nat} {as st' : List NV} (hs2 : mm_sem W.1 q = mm_call x y) (hy : y ≤ st.length) (ha : (st.take y).reverse = as) (hr : st.drop y = st') (hl4 : st'.length ≤ 4) (h1 : c1 ≤ bc) (h2 : s1 ≤ bs) {β : Type} {e : Option (Option Nat × TS)} {kk : Option Nat × TS → Option β} {Qp : β → Prop} (H : wp (e.bind kk) Qp) (hC : ∀ Q1 : Option NV → TS → Prop, wp e (fun r => Q1 (some (eO ck r.1)) r.2) → nC W d x as t c1 s1 Q1) (k : ∀ r, wp (kk r) Qp → nX W d T Q a0 e0 (pc + 3) ls (eO ck r.1 :: st') r.2 (bc - c1) (bs - s1)) : nX W d T Q a0 e0 pc ls st t bc bs := by
  obtain ⟨b, hb, hQ⟩ := H
  obtain ⟨a, ha2, hk⟩ : ∃ a, e = some a ∧ kk a = some b := by
    cases he : e with
    | none => rw [he] at hb; cases hb
    | some a => exact ⟨a, rfl, by rw [he] at hb; exact hb⟩
  refine nx_call hT hs2 hy ha hr hl4 h1 h2 (Q1 := fun r t' => ∃ x, e = some x ∧ r = (fun r : Option Nat × TS => (some (eO ck r.1) : Option NV)) x ∧ t' = (fun r : Option Nat × TS => (r.2 : TS)) x) (hC _ ⟨a, ha2, ⟨a, ha2, rfl, rfl⟩⟩) ?_
  rintro r' t' ⟨x, hx, hr', ht'⟩
  have hxa : x = a := Option.some.inj (hx.symm.trans ha2)
  have hkk := k x ⟨b, by rw [hxa]; exact hk, hQ⟩
  rw [hr', ht']
  exact hkk
theorem nx_cSVt (hT : T pc = some q) {x y : Nat} {as st' : List NV} (hs2 : mm_sem W.1 q = mm_call x y) (hy : y ≤ st.length) (ha : (st.take y).reverse = as) (hr : st.drop y = st') (hl4 : st'.length ≤ 4) {β : Type} {e : Option (TS)} {kk : TS → Option β} {Qp : β → Prop} (H : wp (e.bind kk) Qp) (hC : ∀ Q1 : Option NV → TS → Prop, wp e (fun r => Q1 (none) r) → nC W d x as t 0 0 Q1) (k : ∀ r, wp (kk r) Qp → nX W d T Q a0 e0 (pc + 3) ls (st') r bc bs) : nX W d T Q a0 e0 pc ls st t bc bs := by
  obtain ⟨b, hb, hQ⟩ := H
  obtain ⟨a, ha2, hk⟩ : ∃ a, e = some a ∧ kk a = some b := by
    cases he : e with
    | none => rw [he] at hb; cases hb
    | some a => exact ⟨a, rfl, by rw [he] at hb; exact hb⟩
  refine nx_call hT hs2 hy ha hr hl4 (Nat.zero_le _) (Nat.zero_le _) (Q1 := fun r t' => ∃ x, e = some x ∧ r = (fun r : TS => (none : Option NV)) x ∧ t' = (fun r : TS => (r : TS)) x) (hC _ ⟨a, ha2, ⟨a, ha2, rfl, rfl⟩⟩) ?_
  rintro r' t' ⟨x, hx, hr', ht'⟩
  have hxa : x = a := Option.some.inj (hx.symm.trans ha2)
  have hkk := k x ⟨b, by rw [hxa]; exact hk, hQ⟩
  rw [hr', ht']
  exact hkk
theorem nx_aSVt (c1 s1 : Nat) (hT : T pc = some q) {x y : Nat} {as st' : List NV} (hs2 : mm_sem W.1 q = mm_call x y) (hy : y ≤ st.length) (ha : (st.take y).reverse = as) (hr : st.drop y = st') (hl4 : st'.length ≤ 4) (h1 : c1 ≤ bc) (h2 : s1 ≤ bs) {β : Type} {e : Option (TS)} {kk : TS → Option β} {Qp : β → Prop} (H : wp (e.bind kk) Qp) (hC : ∀ Q1 : Option NV → TS → Prop, wp e (fun r => Q1 (none) r) → nC W d x as t c1 s1 Q1) (k : ∀ r, wp (kk r) Qp → nX W d T Q a0 e0 (pc + 3) ls (st') r (bc - c1) (bs - s1)) : nX W d T Q a0 e0 pc ls st t bc bs := by
  obtain ⟨b, hb, hQ⟩ := H
  obtain ⟨a, ha2, hk⟩ : ∃ a, e = some a ∧ kk a = some b := by
    cases he : e with
    | none => rw [he] at hb; cases hb
    | some a => exact ⟨a, rfl, by rw [he] at hb; exact hb⟩
  refine nx_call hT hs2 hy ha hr hl4 h1 h2 (Q1 := fun r t' => ∃ x, e = some x ∧ r = (fun r : TS => (none : Option NV)) x ∧ t' = (fun r : TS => (r : TS)) x) (hC _ ⟨a, ha2, ⟨a, ha2, rfl, rfl⟩⟩) ?_
  rintro r' t' ⟨x, hx, hr', ht'⟩
  have hxa : x = a := Option.some.inj (hx.symm.trans ha2)
  have hkk := k x ⟨b, by rw [hxa]; exact hk, hQ⟩
  rw [hr', ht']
  exact hkk
theorem nx_cVI (hT : T pc = some q) {x y : Nat} {as st' : List NV} {c0 i0 : Nat} {v : Int} (hs2 : mm_sem W.1 q = mm_callV x y v) (hy : y ≤ st.length) (ha : (st.take y).reverse = eR (some (c0, i0)) :: as) (hr : st.drop y = st') (hl4 : st'.length ≤ 4) (hv : v = (c0 : Int)) (hc : c0 < 20) {β : Type} {e : Option (Int32)} {kk : Int32 → Option β} {Qp : β → Prop} (H : wp (e.bind kk) Qp) (hC : ∀ Q1 : Option NV → TS → Prop, wp e (fun r => Q1 (some (eI r)) t) → nC W d x (eR (some (c0, i0)) :: as) t 0 0 Q1) (k : ∀ r, wp (kk r) Qp → nX W d T Q a0 e0 (pc + 3) ls (eI r :: st') t bc bs) : nX W d T Q a0 e0 pc ls st t bc bs := by
  obtain ⟨b, hb, hQ⟩ := H
  obtain ⟨a, ha2, hk⟩ : ∃ a, e = some a ∧ kk a = some b := by
    cases he : e with
    | none => rw [he] at hb; cases hb
    | some a => exact ⟨a, rfl, by rw [he] at hb; exact hb⟩
  refine nx_callV hT hs2 hy ha hr (Or.inl hl4) hv hc (Nat.zero_le _) (Nat.zero_le _) (Q1 := fun r t' => ∃ x, e = some x ∧ r = (fun r : Int32 => (some (eI r) : Option NV)) x ∧ t' = (fun r : Int32 => (t : TS)) x) (hC _ ⟨a, ha2, ⟨a, ha2, rfl, rfl⟩⟩) ?_
  rintro r' t' ⟨x, hx, hr', ht'⟩
  have hxa : x = a := Option.some.inj (hx.symm.trans ha2)
  have hkk := k x ⟨b, by rw [hxa]; exact hk, hQ⟩
  rw [hr', ht']
  exact hkk
theorem nx_cVIt (hT : T pc = some q) {x y : Nat} {as st' : List NV} {c0 i0 : Nat} {v : Int} (hs2 : mm_sem W.1 q = mm_callV x y v) (hy : y ≤ st.length) (ha : (st.take y).reverse = eR (some (c0, i0)) :: as) (hr : st.drop y = st') (hl4 : st'.length ≤ 4) (hv : v = (c0 : Int)) (hc : c0 < 20) {β : Type} {e : Option (Int32 × TS)} {kk : Int32 × TS → Option β} {Qp : β → Prop} (H : wp (e.bind kk) Qp) (hC : ∀ Q1 : Option NV → TS → Prop, wp e (fun r => Q1 (some (eI r.1)) r.2) → nC W d x (eR (some (c0, i0)) :: as) t 0 0 Q1) (k : ∀ r, wp (kk r) Qp → nX W d T Q a0 e0 (pc + 3) ls (eI r.1 :: st') r.2 bc bs) : nX W d T Q a0 e0 pc ls st t bc bs := by
  obtain ⟨b, hb, hQ⟩ := H
  obtain ⟨a, ha2, hk⟩ : ∃ a, e = some a ∧ kk a = some b := by
    cases he : e with
    | none => rw [he] at hb; cases hb
    | some a => exact ⟨a, rfl, by rw [he] at hb; exact hb⟩
  refine nx_callV hT hs2 hy ha hr (Or.inl hl4) hv hc (Nat.zero_le _) (Nat.zero_le _) (Q1 := fun r t' => ∃ x, e = some x ∧ r = (fun r : Int32 × TS => (some (eI r.1) : Option NV)) x ∧ t' = (fun r : Int32 × TS => (r.2 : TS)) x) (hC _ ⟨a, ha2, ⟨a, ha2, rfl, rfl⟩⟩) ?_
  rintro r' t' ⟨x, hx, hr', ht'⟩
  have hxa : x = a := Option.some.inj (hx.symm.trans ha2)
  have hkk := k x ⟨b, by rw [hxa]; exact hk, hQ⟩
  rw [hr', ht']
  exact hkk
theorem nx_aVIt (c1 s1 : Nat) (hT : T pc = some q) {x y : Nat} {as st' : List NV} {c0 i0 : Nat} {v : Int} (hs2 : mm_sem W.1 q = mm_callV x y v) (hy : y ≤ st.length) (ha : (st.take y).reverse = eR (some (c0, i0)) :: as) (hr : st.drop y = st') (hl4 : st'.length ≤ 4) (hv : v = (c0 : Int)) (hc : c0 < 20) (h1 : c1 ≤ bc) (h2 : s1 ≤ bs) {β : Type} {e : Option (Int32 × TS)} {kk : Int32 × TS → Option β} {Qp : β → Prop} (H : wp (e.bind kk) Qp) (hC : ∀ Q1 : Option NV → TS → Prop, wp e (fun r => Q1 (some (eI r.1)) r.2) → nC W d x (eR (some (c0, i0)) :: as) t c1 s1 Q1) (k : ∀ r, wp (kk r) Qp → nX W d T Q a0 e0 (pc + 3) ls (eI r.1 :: st') r.2 (bc - c1) (bs - s1)) : nX W d T Q a0 e0 pc ls st t bc bs := by
  obtain ⟨b, hb, hQ⟩ := H
  obtain ⟨a, ha2, hk⟩ : ∃ a, e = some a ∧ kk a = some b := by
    cases he : e with
    | none => rw [he] at hb; cases hb
    | some a => exact ⟨a, rfl, by rw [he] at hb; exact hb⟩
  refine nx_callV hT hs2 hy ha hr (Or.inl hl4) hv hc h1 h2 (Q1 := fun r t' => ∃ x, e = some x ∧ r = (fun r : Int32 × TS => (some (eI r.1) : Option NV)) x ∧ t' = (fun r : Int32 × TS => (r.2 : TS)) x) (hC _ ⟨a, ha2, ⟨a, ha2, rfl, rfl⟩⟩) ?_
  rintro r' t' ⟨x, hx, hr', ht'⟩
  have hxa : x = a := Option.some.inj (hx.symm.trans ha2)
  have hkk := k x ⟨b, by rw [hxa]; exact hk, hQ⟩
  rw [hr', ht']
  exact hkk
theorem nx_cVJ (hT : T pc = some q) {x y : Nat} {as st' : List NV} {c0 i0 : Nat} {v : Int} (hs2 : mm_sem W.1 q = mm_callV x y v) (hy : y ≤ st.length) (ha : (st.take y).reverse = eR (some (c0, i0)) :: as) (hr : st.drop y = st') (hl4 : st'.length ≤ 4) (hv : v = (c0 : Int)) (hc : c0 < 20) {β : Type} {e : Option (Int64)} {kk : Int64 → Option β} {Qp : β → Prop} (H : wp (e.bind kk) Qp) (hC : ∀ Q1 : Option NV → TS → Prop, wp e (fun r => Q1 (some (eJ r)) t) → nC W d x (eR (some (c0, i0)) :: as) t 0 0 Q1) (k : ∀ r, wp (kk r) Qp → nX W d T Q a0 e0 (pc + 3) ls (eJ r :: st') t bc bs) : nX W d T Q a0 e0 pc ls st t bc bs := by
  obtain ⟨b, hb, hQ⟩ := H
  obtain ⟨a, ha2, hk⟩ : ∃ a, e = some a ∧ kk a = some b := by
    cases he : e with
    | none => rw [he] at hb; cases hb
    | some a => exact ⟨a, rfl, by rw [he] at hb; exact hb⟩
  refine nx_callV hT hs2 hy ha hr (Or.inl hl4) hv hc (Nat.zero_le _) (Nat.zero_le _) (Q1 := fun r t' => ∃ x, e = some x ∧ r = (fun r : Int64 => (some (eJ r) : Option NV)) x ∧ t' = (fun r : Int64 => (t : TS)) x) (hC _ ⟨a, ha2, ⟨a, ha2, rfl, rfl⟩⟩) ?_
  rintro r' t' ⟨x, hx, hr', ht'⟩
  have hxa : x = a := Option.some.inj (hx.symm.trans ha2)
  have hkk := k x ⟨b, by rw [hxa]; exact hk, hQ⟩
  rw [hr', ht']
  exact hkk
theorem nx_cVJt (hT : T pc = some q) {x y : Nat} {as st' : List NV} {c0 i0 : Nat} {v : Int} (hs2 : mm_sem W.1 q = mm_callV x y v) (hy : y ≤ st.length) (ha : (st.take y).reverse = eR (some (c0, i0)) :: as) (hr : st.drop y = st') (hl4 : st'.length ≤ 4) (hv : v = (c0 : Int)) (hc : c0 < 20) {β : Type} {e : Option (Int64 × TS)} {kk : Int64 × TS → Option β} {Qp : β → Prop} (H : wp (e.bind kk) Qp) (hC : ∀ Q1 : Option NV → TS → Prop, wp e (fun r => Q1 (some (eJ r.1)) r.2) → nC W d x (eR (some (c0, i0)) :: as) t 0 0 Q1) (k : ∀ r, wp (kk r) Qp → nX W d T Q a0 e0 (pc + 3) ls (eJ r.1 :: st') r.2 bc bs) : nX W d T Q a0 e0 pc ls st t bc bs := by
  obtain ⟨b, hb, hQ⟩ := H
  obtain ⟨a, ha2, hk⟩ : ∃ a, e = some a ∧ kk a = some b := by
    cases he : e with
    | none => rw [he] at hb; cases hb
    | some a => exact ⟨a, rfl, by rw [he] at hb; exact hb⟩
  refine nx_callV hT hs2 hy ha hr (Or.inl hl4) hv hc (Nat.zero_le _) (Nat.zero_le _) (Q1 := fun r t' => ∃ x, e = some x ∧ r = (fun r : Int64 × TS => (some (eJ r.1) : Option NV)) x ∧ t' = (fun r : Int64 × TS => (r.2 : TS)) x) (hC _ ⟨a, ha2, ⟨a, ha2, rfl, rfl⟩⟩) ?_
  rintro r' t' ⟨x, hx, hr', ht'⟩
  have hxa : x = a := Option.some.inj (hx.symm.trans ha2)
  have hkk := k x ⟨b, by rw [hxa]; exact hk, hQ⟩
  rw [hr', ht']
  exact hkk
theorem nx_aVJt (c1 s1 : Nat) (hT : T pc = some q) {x y : Nat} {as st' : List NV} {c0 i0 : Nat} {v : Int} (hs2 : mm_sem W.1 q = mm_callV x y v) (hy : y ≤ st.length) (ha : (st.take y).reverse = eR (some (c0, i0)) :: as) (hr : st.drop y = st') (hl4 : st'.length ≤ 4) (hv : v = (c0 : Int)) (hc : c0 < 20) (h1 : c1 ≤ bc) (h2 : s1 ≤ bs) {β : Type} {e : Option (Int64 × TS)} {kk : Int64 × TS → Option β} {Qp : β → Prop} (H : wp (e.bind kk) Qp) (hC : ∀ Q1 : Option NV → TS → Prop, wp e (fun r => Q1 (some (eJ r.1)) r.2) → nC W d x (eR (some (c0, i0)) :: as) t c1 s1 Q1) (k : ∀ r, wp (kk r) Qp → nX W d T Q a0 e0 (pc + 3) ls (eJ r.1 :: st') r.2 (bc - c1) (bs - s1)) : nX W d T Q a0 e0 pc ls st t bc bs := by
  obtain ⟨b, hb, hQ⟩ := H
  obtain ⟨a, ha2, hk⟩ : ∃ a, e = some a ∧ kk a = some b := by
    cases he : e with
    | none => rw [he] at hb; cases hb
    | some a => exact ⟨a, rfl, by rw [he] at hb; exact hb⟩
  refine nx_callV hT hs2 hy ha hr (Or.inl hl4) hv hc h1 h2 (Q1 := fun r t' => ∃ x, e = some x ∧ r = (fun r : Int64 × TS => (some (eJ r.1) : Option NV)) x ∧ t' = (fun r : Int64 × TS => (r.2 : TS)) x) (hC _ ⟨a, ha2, ⟨a, ha2, rfl, rfl⟩⟩) ?_
  rintro r' t' ⟨x, hx, hr', ht'⟩
  have hxa : x = a := Option.some.inj (hx.symm.trans ha2)
  have hkk := k x ⟨b, by rw [hxa]; exact hk, hQ⟩
  rw [hr', ht']
  exact hkk
theorem nx_cVO (ck : Nat) (hT : T pc = some q) {x y : Nat} {as st' : List NV} {c0 i0 : Nat} {v : Int} (hs2 : mm_sem W.1 q = mm_callV x y v) (hy : y ≤ st.length) (ha : (st.take y).reverse = eR (some (c0, i0)) :: as) (hr : st.drop y = st') (hl4 : st'.length ≤ 4) (hv : v = (c0 : Int)) (hc : c0 < 20) {β : Type} {e : Option (Option Nat)} {kk : Option Nat → Option β} {Qp : β → Prop} (H : wp (e.bind kk) Qp) (hC : ∀ Q1 : Option NV → TS → Prop, wp e (fun r => Q1 (some (eO ck r)) t) → nC W d x (eR (some (c0, i0)) :: as) t 0 0 Q1) (k : ∀ r, wp (kk r) Qp → nX W d T Q a0 e0 (pc + 3) ls (eO ck r :: st') t bc bs) : nX W d T Q a0 e0 pc ls st t bc bs := by
  obtain ⟨b, hb, hQ⟩ := H
  obtain ⟨a, ha2, hk⟩ : ∃ a, e = some a ∧ kk a = some b := by
    cases he : e with
    | none => rw [he] at hb; cases hb
    | some a => exact ⟨a, rfl, by rw [he] at hb; exact hb⟩
  refine nx_callV hT hs2 hy ha hr (Or.inl hl4) hv hc (Nat.zero_le _) (Nat.zero_le _) (Q1 := fun r t' => ∃ x, e = some x ∧ r = (fun r : Option Nat => (some (eO ck r) : Option NV)) x ∧ t' = (fun r : Option Nat => (t : TS)) x) (hC _ ⟨a, ha2, ⟨a, ha2, rfl, rfl⟩⟩) ?_
  rintro r' t' ⟨x, hx, hr', ht'⟩
  have hxa : x = a := Option.some.inj (hx.symm.trans ha2)
  have hkk := k x ⟨b, by rw [hxa]; exact hk, hQ⟩
  rw [hr', ht']
  exact hkk
theorem nx_cVOt (ck : Nat) (hT : T pc = some q) {x y : Nat} {as st' : List NV} {c0 i0 : Nat} {v : Int} (hs2 : mm_sem W.1 q = mm_callV x y v) (hy : y ≤ st.length) (ha : (st.take y).reverse = eR (some (c0, i0)) :: as) (hr : st.drop y = st') (hl4 : st'.length ≤ 4) (hv : v = (c0 : Int)) (hc : c0 < 20) {β : Type} {e : Option (Option Nat × TS)} {kk : Option Nat × TS → Option β} {Qp : β → Prop} (H : wp (e.bind kk) Qp) (hC : ∀ Q1 : Option NV → TS → Prop, wp e (fun r => Q1 (some (eO ck r.1)) r.2) → nC W d x (eR (some (c0, i0)) :: as) t 0 0 Q1) (k : ∀ r, wp (kk r) Qp → nX W d T Q a0 e0 (pc + 3) ls (eO ck r.1 :: st') r.2 bc bs) : nX W d T Q a0 e0 pc ls st t bc bs := by
  obtain ⟨b, hb, hQ⟩ := H
  obtain ⟨a, ha2, hk⟩ : ∃ a, e = some a ∧ kk a = some b := by
    cases he : e with
    | none => rw [he] at hb; cases hb
    | some a => exact ⟨a, rfl, by rw [he] at hb; exact hb⟩
  refine nx_callV hT hs2 hy ha hr (Or.inl hl4) hv hc (Nat.zero_le _) (Nat.zero_le _) (Q1 := fun r t' => ∃ x, e = some x ∧ r = (fun r : Option Nat × TS => (some (eO ck r.1) : Option NV)) x ∧ t' = (fun r : Option Nat × TS => (r.2 : TS)) x) (hC _ ⟨a, ha2, ⟨a, ha2, rfl, rfl⟩⟩) ?_
  rintro r' t' ⟨x, hx, hr', ht'⟩
  have hxa : x = a := Option.some.inj (hx.symm.trans ha2)
  have hkk := k x ⟨b, by rw [hxa]; exact hk, hQ⟩
  rw [hr', ht']
  exact hkk
theorem nx_aVOt (ck : Nat) (c1 s1 : Nat) (hT : T pc = some q) {x y : Nat} {as st' : List NV} {c0 i0 : Nat} {v : Int} (hs2 : mm_sem W.1 q = mm_callV x y v) (hy : y ≤ st.length) (ha : (st.take y).reverse = eR (some (c0, i0)) :: as) (hr : st.drop y = st') (hl4 : st'.length ≤ 4) (hv : v = (c0 : Int)) (hc : c0 < 20) (h1 : c1 ≤ bc) (h2 : s1 ≤ bs) {β : Type} {e : Option (Option Nat × TS)} {kk : Option Nat × TS → Option β} {Qp : β → Prop} (H : wp (e.bind kk) Qp) (hC : ∀ Q1 : Option NV → TS → Prop, wp e (fun r => Q1 (some (eO ck r.1)) r.2) → nC W d x (eR (some (c0, i0)) :: as) t c1 s1 Q1) (k : ∀ r, wp (kk r) Qp → nX W d T Q a0 e0 (pc + 3) ls (eO ck r.1 :: st') r.2 (bc - c1) (bs - s1)) : nX W d T Q a0 e0 pc ls st t bc bs := by
  obtain ⟨b, hb, hQ⟩ := H
  obtain ⟨a, ha2, hk⟩ : ∃ a, e = some a ∧ kk a = some b := by
    cases he : e with
    | none => rw [he] at hb; cases hb
    | some a => exact ⟨a, rfl, by rw [he] at hb; exact hb⟩
  refine nx_callV hT hs2 hy ha hr (Or.inl hl4) hv hc h1 h2 (Q1 := fun r t' => ∃ x, e = some x ∧ r = (fun r : Option Nat × TS => (some (eO ck r.1) : Option NV)) x ∧ t' = (fun r : Option Nat × TS => (r.2 : TS)) x) (hC _ ⟨a, ha2, ⟨a, ha2, rfl, rfl⟩⟩) ?_
  rintro r' t' ⟨x, hx, hr', ht'⟩
  have hxa : x = a := Option.some.inj (hx.symm.trans ha2)
  have hkk := k x ⟨b, by rw [hxa]; exact hk, hQ⟩
  rw [hr', ht']
  exact hkk
theorem nx_cVVt (hT : T pc = some q) {x y : Nat} {as st' : List NV} {c0 i0 : Nat} {v : Int} (hs2 : mm_sem W.1 q = mm_callV x y v) (hy : y ≤ st.length) (ha : (st.take y).reverse = eR (some (c0, i0)) :: as) (hr : st.drop y = st') (hl4 : st'.length ≤ 4) (hv : v = (c0 : Int)) (hc : c0 < 20) {β : Type} {e : Option (TS)} {kk : TS → Option β} {Qp : β → Prop} (H : wp (e.bind kk) Qp) (hC : ∀ Q1 : Option NV → TS → Prop, wp e (fun r => Q1 (none) r) → nC W d x (eR (some (c0, i0)) :: as) t 0 0 Q1) (k : ∀ r, wp (kk r) Qp → nX W d T Q a0 e0 (pc + 3) ls (st') r bc bs) : nX W d T Q a0 e0 pc ls st t bc bs := by
  obtain ⟨b, hb, hQ⟩ := H
  obtain ⟨a, ha2, hk⟩ : ∃ a, e = some a ∧ kk a = some b := by
    cases he : e with
    | none => rw [he] at hb; cases hb
    | some a => exact ⟨a, rfl, by rw [he] at hb; exact hb⟩
  refine nx_callV hT hs2 hy ha hr (Or.inl hl4) hv hc (Nat.zero_le _) (Nat.zero_le _) (Q1 := fun r t' => ∃ x, e = some x ∧ r = (fun r : TS => (none : Option NV)) x ∧ t' = (fun r : TS => (r : TS)) x) (hC _ ⟨a, ha2, ⟨a, ha2, rfl, rfl⟩⟩) ?_
  rintro r' t' ⟨x, hx, hr', ht'⟩
  have hxa : x = a := Option.some.inj (hx.symm.trans ha2)
  have hkk := k x ⟨b, by rw [hxa]; exact hk, hQ⟩
  rw [hr', ht']
  exact hkk
theorem nx_aVVt (c1 s1 : Nat) (hT : T pc = some q) {x y : Nat} {as st' : List NV} {c0 i0 : Nat} {v : Int} (hs2 : mm_sem W.1 q = mm_callV x y v) (hy : y ≤ st.length) (ha : (st.take y).reverse = eR (some (c0, i0)) :: as) (hr : st.drop y = st') (hl4 : st'.length ≤ 4) (hv : v = (c0 : Int)) (hc : c0 < 20) (h1 : c1 ≤ bc) (h2 : s1 ≤ bs) {β : Type} {e : Option (TS)} {kk : TS → Option β} {Qp : β → Prop} (H : wp (e.bind kk) Qp) (hC : ∀ Q1 : Option NV → TS → Prop, wp e (fun r => Q1 (none) r) → nC W d x (eR (some (c0, i0)) :: as) t c1 s1 Q1) (k : ∀ r, wp (kk r) Qp → nX W d T Q a0 e0 (pc + 3) ls (st') r (bc - c1) (bs - s1)) : nX W d T Q a0 e0 pc ls st t bc bs := by
  obtain ⟨b, hb, hQ⟩ := H
  obtain ⟨a, ha2, hk⟩ : ∃ a, e = some a ∧ kk a = some b := by
    cases he : e with
    | none => rw [he] at hb; cases hb
    | some a => exact ⟨a, rfl, by rw [he] at hb; exact hb⟩
  refine nx_callV hT hs2 hy ha hr (Or.inl hl4) hv hc h1 h2 (Q1 := fun r t' => ∃ x, e = some x ∧ r = (fun r : TS => (none : Option NV)) x ∧ t' = (fun r : TS => (r : TS)) x) (hC _ ⟨a, ha2, ⟨a, ha2, rfl, rfl⟩⟩) ?_
  rintro r' t' ⟨x, hx, hr', ht'⟩
  have hxa : x = a := Option.some.inj (hx.symm.trans ha2)
  have hkk := k x ⟨b, by rw [hxa]; exact hk, hQ⟩
  rw [hr', ht']
  exact hkk
theorem nx_cTI (hT : T pc = some q) {x y : Nat} {as st' : List NV} (hs2 : mm_sem W.1 q = mm_callT W.1 x y) (hy : y ≤ st.length) (ha : (st.take y).reverse = eR (some (5100, 0)) :: as) (hr : st.drop y = st') (hl4 : st'.length ≤ 4) {β : Type} {e : Option (Int32)} {kk : Int32 → Option β} {Qp : β → Prop} (H : wp (e.bind kk) Qp) (hC : ∀ Q1 : Option NV → TS → Prop, wp e (fun r => Q1 (some (eI r)) t) → nC W d x (eR (some (5100, 0)) :: as) t 0 0 Q1) (k : ∀ r, wp (kk r) Qp → nX W d T Q a0 e0 (pc + 3) ls (eI r :: st') t bc bs) : nX W d T Q a0 e0 pc ls st t bc bs := by
  obtain ⟨b, hb, hQ⟩ := H
  obtain ⟨a, ha2, hk⟩ : ∃ a, e = some a ∧ kk a = some b := by
    cases he : e with
    | none => rw [he] at hb; cases hb
    | some a => exact ⟨a, rfl, by rw [he] at hb; exact hb⟩
  refine nx_callT hT hs2 hy ha hr hl4 (Nat.zero_le _) (Nat.zero_le _) (Q1 := fun r t' => ∃ x, e = some x ∧ r = (fun r : Int32 => (some (eI r) : Option NV)) x ∧ t' = (fun r : Int32 => (t : TS)) x) (hC _ ⟨a, ha2, ⟨a, ha2, rfl, rfl⟩⟩) ?_
  rintro r' t' ⟨x, hx, hr', ht'⟩
  have hxa : x = a := Option.some.inj (hx.symm.trans ha2)
  have hkk := k x ⟨b, by rw [hxa]; exact hk, hQ⟩
  rw [hr', ht']
  exact hkk
end NCR
