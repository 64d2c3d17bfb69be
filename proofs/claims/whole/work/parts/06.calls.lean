/-! PART 06: calls. -/
def mm_mL (i : Nat) : Nat := (mm_md.getD i mm_dm).2.1
def mm_mR (i : Nat) : Option FieldType := (mm_md.getD i mm_dm).2.2.1
def mm_ws (i : Nat) : List Jvm.Cond := Jvm.Cond.code (mm_mn i) (mm_mc i) (mm_mL i) (mm_mR i) :: mm_T
def mm_rm (d bc bs : Nat) : Room := { frames := d + 1, cells := bc, slots := bs, locals := 60 * d + 40 }
def mm_Pc (D : va_G) (cA : Nat → ClassId) (B : Nat) (z : Rm) (as : List MV) (hs : Nat) (h : Hp) : Array Value → State → Prop := va_Pc (as.map mm_v) (fun U => U.heap.size = hs ∧ hp_W D cA B h U.heap ∧ mm_Kn D cA B z U U.heap ∧ B ≤ hs)
/-- the calls that C allows are met -/
def mm_CS (l : Launch) (D : va_G) (cA : Nat → ClassId) (B : Nat) (z : Rm) (d : Nat) (C : Ct) : Prop := ∀ x as hs h bc bs Q, C x as hs h bc bs Q → x < 284 ∧ ¬ x = 273 ∧ Met l (mm_mn x) (mm_ws x) (mm_rm d bc bs) (mm_Pc D cA B z as hs h) (mm_Qc D cA B Q) bc bs (fun q => B ≤ q)
theorem mm_blind {D : va_G} {cA : Nat → ClassId} {B : Nat} {z : Rm} {as : List MV} {hs : Nat} {h : Hp} : FrameBlind (mm_Pc D cA B z as hs h) := fun a U g mk q => ⟨q.1, q.2.1, q.2.2.1, mm_Kn.same (s := U) (U := U.calling g mk a) rfl q.2.2.2.1, q.2.2.2.2⟩
section MMC
variable {p : Program} {l : Launch} {e : Env} {R : Room} {s : State} {m : MethodId} {args : Array Value} {below : List Frame} {meth : Method} {c : Code} {D : va_G} {cA : Nat → ClassId} {B : Nat} {QQ : State → Prop}
variable {cc : ByteArray} {nL own : Nat} {z : Rm} {pc : Nat} {ls : List (Option MV)} {st : List MV} {hs : Nat} {h : Hp} {bc bs : Nat} {C : Ct} {Q : Qt} {k : Kt}
/-- behind a call -/
theorem mm_after {H : Heap} {locs : List Loc} {cells slots c1 s1 : Nat} {A : Array Slot} {st0 : List Value} {rest : List MV} {a : Array Value} {Q1 : Qt} (hr : va_Run p l e R s m args below meth c H locs cells slots c1 s1 (F0 m pc A st0) (rest.map mm_v) (mm_Qc D cA B Q1 a) (fun q => B ≤ q))
    (hB : B ≤ s.heap.size) (e3 : va_S (fun q => B ≤ q) s.heap H locs) (e4 : mm_ls A ls) (e5 : ls.length = nL) (f1 : c1 ≤ bc) (f2 : s1 ≤ bs) (e6 : cells + bc ≤ R.cells) (e7 : slots + bs ≤ R.slots)
    (hk : ∀ r hs' h', Q1 r hs' h' → mm_G p l e R s m args below meth c D cA B nL QQ (pc + 3) ls (r.toList ++ rest) hs' h' (bc - c1) (bs - s1)) : W p l e R s m args below meth c H locs cells slots QQ (F0 m pc A st0) := by
  intro T hT X
  obtain ⟨v, st₀, t, T', L, h0, X', hL, e1, e2, ⟨r, hs', h', hq, hv, hz, hw, hF⟩, sg⟩ := hr T hT X
  have hv : v = r.map mm_v := by injection hv
  subst hv
  obtain ⟨hF1, hF2⟩ := hF
  rw [h0] at hF1 hF2
  have hS1 : va_S (fun q => B ≤ q) s.heap T'.heap (locs ++ L) := ⟨Nat.le_trans e3.1 (by rw [e1]; exact hF1), fun q g1 g2 => by rw [e1, hF2 q (Nat.lt_of_lt_of_le g1 e3.1) g2]; exact e3.2.1 q g1 g2, fun q hq => by
    rcases List.mem_append.mp hq with g | g
    · exact e3.2.2 q g
    · exact hL q g⟩
  obtain ⟨t2, a1, b1⟩ := hk r hs' h' hq T'.heap (locs ++ L) (cells + c1) (slots + s1) A (by rw [e1]; exact hz) (by rw [e1]; exact hw) hS1 e4 e5 (by omega) (by omega) T' rfl X'
  refine ⟨t2, sg t2 ?_, b1⟩
  have hst : (r.toList ++ rest).map mm_v = (r.map mm_v).toList ++ rest.map mm_v := by cases r <;> rfl
  rw [hst] at a1
  exact a1
theorem mm_good (x : Nat) (hx : x < 284) (hl : ¬ x = 273) : GoodIn mm_T (mm_ws x) := by
  intro w hw
  rcases List.mem_cons.mp hw with g | g
  · subst g
    exact mm_T_good _ (mm_md_ok x hx hl)
  · exact mm_T_good w g
theorem mm_take {st : List MV} {y : Nat} (h : y ≤ st.length) : st.map mm_v = (((st.take y).reverse).map mm_v).reverse ++ (st.drop y).map mm_v := by
  rw [← List.map_reverse, List.reverse_reverse, ← List.map_append, List.take_append_drop]
theorem mm_Kn_at (X : mm_Cx p s m args meth c cc nL own D cA B z) {H : Heap} {locs : List Loc} (e3 : va_S (fun q => B ≤ q) s.heap H locs) : mm_Kn D cA B z s H := X.2.2.2.2.2.1.kept fun q g1 g2 => e3.2.1 q g1 g2
set_option maxHeartbeats 16000000 in
theorem so_callS (X : mm_Cx p s m args meth c cc nL own D cA B z) {d : Nat} (hC : mm_CS l D cA B z d C) (hR : d + 2 ≤ R.frames ∧ 60 * d + 100 ≤ R.locals) {idx x kd j1 j2 j3 j4 : Nat} (hq : (own, idx, x, kd, j1, j2, j3, j4) ∈ mm_ml) (hkd : kd = 0 ∨ kd = 3) (hL : mm_mL x ≤ 41) (hd : decode cc pc = .ok (.invokestatic idx, 3)) : mm_Ok p l e R s m args below meth c D cA B nL QQ C k Q pc (mm_call x (mm_np x)) := by
  intro hk ls st hs h bc bs hf
  obtain ⟨g1, g2, c1, s1, f1, f2, hc⟩ := hf
  obtain ⟨hx, hx2, hM⟩ := hC _ _ _ _ _ _ _ hc
  obtain ⟨p1, p2, p3, p4, -⟩ := mm_np_ok x hx
  have hnest : 2 < kd → va_Nw (.methodLinkNest (mm_on own) idx (mm_mn x) RX12) s := by
    obtain ⟨-, -, -, -, -, ⟨-, -, -, -, y5, -, -, -, -⟩, -, -⟩ := X
    exact fun g => y5 (own, idx, x, kd, j1, j2, j3, j4) hq g
  obtain ⟨w1, w2, -, -, w5⟩ := mm_ml_ok _ hq
  dsimp only at w1 w2 w5
  intro H locs cells slots A e1 e2 e3 e4 e5 e6 e7
  have hpre : PreS s H (mm_Pc D cA B z (st.take (mm_np x)).reverse hs h) (((st.take (mm_np x)).reverse).map mm_v) := ⟨mm_blind, fun U hU hW => ⟨rfl, by rw [hU]; exact e1, by rw [hU]; exact e2, by rw [hU]; exact (mm_Kn_at X e3).warm hW, by rw [← e1]; exact Nat.le_trans X.2.2.2.2.2.2.1 e3.1⟩⟩
  have hfix : CallFix p m c cc nL s args mm_T (mm_on own) := ⟨X.1, X.2.1, X.2.2.1, X.2.2.2.1, X.2.2.2.2.1⟩
  have hlen : (((st.take (mm_np x)).reverse).map mm_v).length = mm_np x := by simp; omega
  have hst := mm_take g1
  have hroom : (mm_rm d c1 s1).frames + 1 ≤ R.frames ∧ 8 + (mm_mL x + 11) + (mm_rm d c1 s1).locals ≤ R.locals := ⟨by show d + 1 + 1 ≤ _; omega, by show 8 + (mm_mL x + 11) + (60 * d + 40) ≤ _; omega⟩
  have h8 := mm_cats2 g2
  have hini := mm_word X w5 rfl
  have hstt := mm_word X (w2 hkd) rfl
  rw [hst]
  have hr : va_Run p l e R s m args below meth c H locs cells slots c1 s1 (F0 m pc A ((((st.take (mm_np x)).reverse).map mm_v).reverse ++ (st.drop (mm_np x)).map mm_v)) ((st.drop (mm_np x)).map mm_v) (mm_Qc D cA B (fun r hs' h' => k (pc + 3) ls (r.toList ++ st.drop (mm_np x)) hs' h' (bc - c1) (bs - s1)) (((st.take (mm_np x)).reverse).map mm_v).toArray) (fun q => B ≤ q) := by
    rcases hkd with hkd | hkd
    · exact va_runS hfix hM ⟨callB_of (mm_np x) X.2.2.2.2.1 (mm_good x hx hx2) rfl rfl rfl hini (mm_word X (w1 (by omega)) rfl) ⟨p4.1, p4.2, p1⟩ hroom, hstt⟩ hpre rfl hlen (e4.1.trans e5) rfl (lv_room h8) hd ⟨by omega, by omega⟩
    · exact va_runSN (host := RX12) hfix hM ⟨va_cnB (mm_np x) X.2.2.2.2.1 (mm_good x hx hx2) rfl rfl rfl (hnest (by omega)) hini ⟨p4.1, p4.2, p1⟩ hroom, hstt, trivial⟩ hpre rfl hlen (e4.1.trans e5) rfl (lv_room h8) hd ⟨by omega, by omega⟩
  exact mm_after hr X.2.2.2.2.2.2.1 e3 e4 e5 f1 f2 e6 e7 fun r hs' h' g => hk _ _ _ _ _ _ _ g
set_option maxHeartbeats 16000000 in
theorem so_callV (X : mm_Cx p s m args meth c cc nL own D cA B z) {d : Nat} (hC : mm_CS l D cA B z d C) (hR : d + 2 ≤ R.frames ∧ 60 * d + 100 ≤ R.locals) {idx x kd j1 j2 j3 j4 : Nat} {zz : Int} (hq : (own, idx, x, kd, j1, j2, j3, j4) ∈ mm_ml) (hzz : zz = (mm_mcl x : Nat)) (h14 : mm_mcl x < 14) (hkd : ((kd = 1 ∨ kd = 4) ∧ decode cc pc = .ok (.invokevirtual idx, 3)) ∨ ((kd = 2 ∨ kd = 5) ∧ mm_ini x = true ∧ mm_mR x = none ∧ decode cc pc = .ok (.invokespecial idx, 3))) (hL : mm_mL x ≤ 41) : mm_Ok p l e R s m args below meth c D cA B nL QQ C k Q pc (mm_callV x (mm_np x + 1) zz) := by
  intro hk ls st hs h bc bs hf
  obtain ⟨hrv, g1, g2, c1, s1, f1, f2, hc⟩ := hf
  obtain ⟨hx, hx2, hM⟩ := hC _ _ _ _ _ _ _ hc
  obtain ⟨p1, p2, p3, p4, p5⟩ := mm_np_ok x hx
  have hnest : 2 < kd → va_Nw (.methodLinkNest (mm_on own) idx (mm_mn x) RX12) s := by
    obtain ⟨-, -, -, -, -, ⟨-, -, -, -, y5, -, -, -, -⟩, -, -⟩ := X
    exact fun g => y5 (own, idx, x, kd, j1, j2, j3, j4) hq g
  obtain ⟨w1, -, w3, w4, w5⟩ := mm_ml_ok _ hq
  dsimp only at w1 w3 w4 w5
  have htl : ((st.take (mm_np x + 1)).reverse).length = mm_np x + 1 := by simp; omega
  have hst := mm_take g1
  generalize (st.take (mm_np x + 1)).reverse = as at hrv hc hM htl hst
  cases as with
  | nil => cases htl
  | cons a0 as =>
    rcases a0 with a0 | a0 | a0
    · exact hrv.elim
    · exact hrv.elim
    · cases a0 with
      | none => exact hrv.elim
      | some b =>
        have hkb : hp_K h b = mm_mcl x + 1 := by
          have h2 : (hp_K h b : Int) = zz + 1 := hrv
          omega
        intro H locs cells slots A e1 e2 e3 e4 e5 e6 e7
        obtain ⟨q, hq1, hq2⟩ := mm_c_at _ h14
        have hcell : ∃ cellB : Cell, H[b]? = some cellB ∧ cellB.vm.isStatics = false ∧ s.vm.findClass (mm_mn x).cls = some cellB.cls := by
          rw [p2, ← mm_c_on _ _ hq1]
          exact va_recv X.2.2.2.2.2.1.1 (hp_obj e2 hkb hq1) hq1 (q0 := 0) rfl
        have hpre : ∀ U : State, U.heap = H → s.WarmedH U.vm → mm_Pc D cA B z (vR (some b) :: as) hs h (Value.ref b :: as.map mm_v).toArray U := fun U hU hW => ⟨rfl, by rw [hU]; exact e1, by rw [hU]; exact e2, by rw [hU]; exact (mm_Kn_at X e3).warm hW, by rw [← e1]; exact Nat.le_trans X.2.2.2.2.2.2.1 e3.1⟩
        have hfix : CallFix p m c cc nL s args mm_T (mm_on own) := ⟨X.1, X.2.1, X.2.2.1, X.2.2.2.1, X.2.2.2.2.1⟩
        have hlen : (as.map mm_v).length = mm_np x := by simpa using htl
        have hroom : (mm_rm d c1 s1).frames + 1 ≤ R.frames ∧ 8 + (mm_mL x + 11) + (mm_rm d c1 s1).locals ≤ R.locals := ⟨by show d + 1 + 1 ≤ _; omega, by show 8 + (mm_mL x + 11) + (60 * d + 40) ≤ _; omega⟩
        have h8 := mm_cats2 g2
        have hini := mm_word X w5 rfl
        have hnm : ¬ (kd = 0 ∨ kd = 3) := by omega
        have hins := mm_word X (w3 hnm) rfl
        have hst2 : st.map mm_v = (as.map mm_v).reverse ++ .ref b :: (st.drop (mm_np x + 1)).map mm_v := by
          rw [hst]
          simp [mm_v, va_rf]
        rw [hst2]
        have hr : va_Run p l e R s m args below meth c H locs cells slots c1 s1 (F0 m pc A ((as.map mm_v).reverse ++ .ref b :: (st.drop (mm_np x + 1)).map mm_v)) ((st.drop (mm_np x + 1)).map mm_v) (mm_Qc D cA B (fun r hs' h' => k (pc + 3) ls (r.toList ++ st.drop (mm_np x + 1)) hs' h' (bc - c1) (bs - s1)) (Value.ref b :: as.map mm_v).toArray) (fun q => B ≤ q) := by
          rcases hkd with ⟨hkd, hd⟩ | ⟨hkd, hi, hrn, hd⟩
          · have hsel := mm_word X (w4 hkd) rfl
            rcases hkd with hkd | hkd
            · exact va_runV (C := (mm_mn x).cls) hfix hM ⟨callB_of (mm_np x) X.2.2.2.2.1 (mm_good x hx hx2) rfl rfl rfl hini (mm_word X (w1 (by omega)) rfl) ⟨p4.1, p4.2, p1⟩ hroom, hins, hsel⟩ ⟨mm_blind, hcell, hpre⟩ rfl hlen (e4.1.trans e5) rfl (lv_room h8) hd ⟨by omega, by omega⟩
            · exact va_runVN (C := (mm_mn x).cls) (host := RX12) hfix hM ⟨va_cnB (mm_np x) X.2.2.2.2.1 (mm_good x hx hx2) rfl rfl rfl (hnest (by omega)) hini ⟨p4.1, p4.2, p1⟩ hroom, hins, hsel⟩ ⟨mm_blind, hcell, hpre⟩ rfl hlen (e4.1.trans e5) rfl (lv_room h8) hd ⟨by omega, by omega⟩
          · have hw : mm_ws x = Jvm.Cond.code (mm_mn x) (mm_mc x) (mm_mL x) none :: mm_T := by unfold mm_ws; rw [hrn]
            rcases hkd with hkd | hkd
            · exact va_runI hfix hM ⟨callB_of (mm_np x) X.2.2.2.2.1 (mm_good x hx hx2) hw rfl rfl hini (mm_word X (w1 (by omega)) rfl) ⟨p4.1, p4.2, p1⟩ hroom, p5 hi, hins⟩ ⟨mm_blind, hpre⟩ rfl hlen (e4.1.trans e5) rfl (lv_room h8) hd ⟨by omega, by omega⟩
            · exact va_runIN (host := RX12) hfix hM ⟨va_cnB (mm_np x) X.2.2.2.2.1 (mm_good x hx hx2) hw rfl rfl (hnest (by omega)) hini ⟨p4.1, p4.2, p1⟩ hroom, p5 hi, hins⟩ ⟨mm_blind, hpre⟩ rfl hlen (e4.1.trans e5) rfl (lv_room h8) hd ⟨by omega, by omega⟩
        exact mm_after hr X.2.2.2.2.2.2.1 e3 e4 e5 f1 f2 e6 e7 fun r hs' h' g => hk _ _ _ _ _ _ _ g
set_option maxHeartbeats 16000000 in
theorem so_callT (X : mm_Cx p s m args meth c cc nL own D cA B z) {d : Nat} (hC : mm_CS l D cA B z d C) (hR : d + 2 ≤ R.frames ∧ 60 * d + 100 ≤ R.locals) {idx x kd j1 j2 j3 j4 : Nat} (hq : (own, idx, x, kd, j1, j2, j3, j4) ∈ mm_ml) (h14 : mm_mcl x = 16) (hkd : kd = 1 ∨ kd = 4) (hd : decode cc pc = .ok (.invokevirtual idx, 3)) (hL : mm_mL x ≤ 41) : mm_Ok p l e R s m args below meth c D cA B nL QQ C k Q pc (mm_callT z x (mm_np x + 1)) := by
  intro hk ls st hs h bc bs hf
  obtain ⟨hrv, g1, g2, c1, s1, f1, f2, hc⟩ := hf
  obtain ⟨hx, hx2, hM⟩ := hC _ _ _ _ _ _ _ hc
  obtain ⟨p1, p2, p3, p4, p5⟩ := mm_np_ok x hx
  have hnest : 2 < kd → va_Nw (.methodLinkNest (mm_on own) idx (mm_mn x) RX12) s := by
    obtain ⟨-, -, -, -, -, ⟨-, -, -, -, y5, -, -, -, -⟩, -, -⟩ := X
    exact fun g => y5 (own, idx, x, kd, j1, j2, j3, j4) hq g
  obtain ⟨w1, -, w3, w4, w5⟩ := mm_ml_ok _ hq
  dsimp only at w1 w3 w4 w5
  have htl : ((st.take (mm_np x + 1)).reverse).length = mm_np x + 1 := by simp; omega
  have hst := mm_take g1
  generalize (st.take (mm_np x + 1)).reverse = as at hrv hc hM htl hst
  cases as with
  | nil => cases htl
  | cons a0 as =>
    rcases a0 with a0 | a0 | a0
    · exact hrv.elim
    · exact hrv.elim
    · cases a0 with
      | none => exact hrv.elim
      | some b =>
        have hbz : b = z.2 100 := hrv
        subst hbz
        intro H locs cells slots A e1 e2 e3 e4 e5 e6 e7
        have hcell : ∃ cellB : Cell, H[z.2 100]? = some cellB ∧ cellB.vm.isStatics = false ∧ s.vm.findClass (mm_mn x).cls = some cellB.cls := by
          rw [p2, h14]
          obtain ⟨-, -, -, -, -, -, -, h8, -⟩ := X.2.2.2.2.2.1
          exact vk_recv (i := 0) h8 (by decide) e3
        have hpre : ∀ U : State, U.heap = H → s.WarmedH U.vm → mm_Pc D cA B z (vR (some (z.2 100)) :: as) hs h (Value.ref (z.2 100) :: as.map mm_v).toArray U := fun U hU hW => ⟨rfl, by rw [hU]; exact e1, by rw [hU]; exact e2, by rw [hU]; exact (mm_Kn_at X e3).warm hW, by rw [← e1]; exact Nat.le_trans X.2.2.2.2.2.2.1 e3.1⟩
        have hfix : CallFix p m c cc nL s args mm_T (mm_on own) := ⟨X.1, X.2.1, X.2.2.1, X.2.2.2.1, X.2.2.2.2.1⟩
        have hlen : (as.map mm_v).length = mm_np x := by simpa using htl
        have hroom : (mm_rm d c1 s1).frames + 1 ≤ R.frames ∧ 8 + (mm_mL x + 11) + (mm_rm d c1 s1).locals ≤ R.locals := ⟨by show d + 1 + 1 ≤ _; omega, by show 8 + (mm_mL x + 11) + (60 * d + 40) ≤ _; omega⟩
        have h8 := mm_cats2 g2
        have hini := mm_word X w5 rfl
        have hnm : ¬ (kd = 0 ∨ kd = 3) := by omega
        have hins := mm_word X (w3 hnm) rfl
        have hst2 : st.map mm_v = (as.map mm_v).reverse ++ .ref (z.2 100) :: (st.drop (mm_np x + 1)).map mm_v := by
          rw [hst]
          simp [mm_v, va_rf]
        rw [hst2]
        have hr : va_Run p l e R s m args below meth c H locs cells slots c1 s1 (F0 m pc A ((as.map mm_v).reverse ++ .ref (z.2 100) :: (st.drop (mm_np x + 1)).map mm_v)) ((st.drop (mm_np x + 1)).map mm_v) (mm_Qc D cA B (fun r hs' h' => k (pc + 3) ls (r.toList ++ st.drop (mm_np x + 1)) hs' h' (bc - c1) (bs - s1)) (Value.ref (z.2 100) :: as.map mm_v).toArray) (fun q => B ≤ q) := by
          have hsel := mm_word X (w4 hkd) rfl
          rcases hkd with hkd | hkd
          · exact va_runV (C := (mm_mn x).cls) hfix hM ⟨callB_of (mm_np x) X.2.2.2.2.1 (mm_good x hx hx2) rfl rfl rfl hini (mm_word X (w1 (by omega)) rfl) ⟨p4.1, p4.2, p1⟩ hroom, hins, hsel⟩ ⟨mm_blind, hcell, hpre⟩ rfl hlen (e4.1.trans e5) rfl (lv_room h8) hd ⟨by omega, by omega⟩
          · exact va_runVN (C := (mm_mn x).cls) (host := RX12) hfix hM ⟨va_cnB (mm_np x) X.2.2.2.2.1 (mm_good x hx hx2) rfl rfl rfl (hnest (by omega)) hini ⟨p4.1, p4.2, p1⟩ hroom, hins, hsel⟩ ⟨mm_blind, hcell, hpre⟩ rfl hlen (e4.1.trans e5) rfl (lv_room h8) hd ⟨by omega, by omega⟩
        exact mm_after hr X.2.2.2.2.2.2.1 e3 e4 e5 f1 f2 e6 e7 fun r hs' h' g => hk _ _ _ _ _ _ _ g
end MMC
/-! arguments as locals -/
theorem mm_args_at : ∀ (as : List MV) (o i : Nat) (v : MV), (mm_args as)[i]? = some (some v) → (o + i, mm_v v) ∈ lv_args o (as.map mm_v)
  | [], o, i, v, h => by simp [mm_args] at h
  | .inl x :: r, o, i, v, h => by
    cases i with
    | zero =>
      have : some (some (vI x)) = some (some v) := h
      cases this
      exact List.mem_cons_self
    | succ i =>
      have h1 := mm_args_at r (o + 1) i v h
      refine List.mem_cons_of_mem _ ?_
      show (o + (i + 1), mm_v v) ∈ lv_args (o + 1) (r.map mm_v)
      rw [show o + (i + 1) = o + 1 + i by omega]
      exact h1
  | .inr (.inl x) :: r, o, i, v, h => by
    match i, h with
    | 0, h =>
      have : some (some (vJ x)) = some (some v) := h
      cases this
      exact List.mem_cons_self
    | 1, h => cases h
    | i + 2, h =>
      have h1 := mm_args_at r (o + 2) i v h
      refine List.mem_cons_of_mem _ ?_
      show (o + (i + 2), mm_v v) ∈ lv_args (o + 2) (r.map mm_v)
      rw [show o + (i + 2) = o + 2 + i by omega]
      exact h1
  | .inr (.inr x) :: r, o, i, v, h => by
    have hcat : (mm_v (vR x)).category = 1 := by cases x <;> rfl
    cases i with
    | zero =>
      have : some (some (vR x)) = some (some v) := h
      cases this
      exact List.mem_cons_self
    | succ i =>
      have h1 := mm_args_at r (o + 1) i v h
      refine List.mem_cons_of_mem _ ?_
      show (o + (i + 1), mm_v v) ∈ lv_args (if (mm_v (vR x)).category = 2 then o + 2 else o + 1) (r.map mm_v)
      rw [hcat, if_neg (by decide), show o + (i + 1) = o + 1 + i by omega]
      exact h1
theorem mm_args_len : ∀ (as : List MV), (lg_sl (as.map mm_v)).length = (mm_args as).length
  | [] => rfl
  | .inl x :: r => by
    have := mm_args_len r
    simp only [lg_sl, List.map_cons, List.flatMap_cons, List.length_append, mm_args, List.length_cons] at this ⊢
    rw [this]
    simp [mm_v, Value.category]
    omega
  | .inr (.inl x) :: r => by
    have := mm_args_len r
    simp only [lg_sl, List.map_cons, List.flatMap_cons, List.length_append, mm_args, List.length_cons] at this ⊢
    rw [this]
    simp [mm_v, Value.category]
    omega
  | .inr (.inr x) :: r => by
    have := mm_args_len r
    simp only [lg_sl, List.map_cons, List.flatMap_cons, List.length_append, mm_args, List.length_cons] at this ⊢
    rw [this]
    cases x <;> simp [mm_v, va_rf, Value.category] <;> omega
theorem mm_loc_ok {as : List MV} {n : Nat} (h : (mm_args as).length ≤ n) : mm_ls ((lg_sl (as.map mm_v) ++ List.replicate (n - (lg_sl (as.map mm_v)).length) Slot.unset).toArray) (mm_loc as n) ∧ (mm_loc as n).length = n := by
  have hlen : (mm_loc as n).length = n := by unfold mm_loc; simp; omega
  have h1 := lv_entry (as.map mm_v) (n := n) (by rw [mm_args_len]; exact h)
  refine ⟨⟨by rw [hlen]; exact h1.1, h1.2.1, fun i v hi => ?_⟩, hlen⟩
  unfold mm_loc at hi
  rcases Nat.lt_or_ge i (mm_args as).length with g | g
  · rw [List.getElem?_append_left g] at hi
    have := mm_args_at as 0 i v hi
    rw [Nat.zero_add] at this
    exact h1.2.2 (i, mm_v v) this
  · rw [List.getElem?_append_right g, List.getElem?_replicate] at hi
    split at hi <;> cases hi
