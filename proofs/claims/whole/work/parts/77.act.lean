/-! PART 77: acts, the class's whole calls. -/
section
variable {t : TS} {b own c : Nat} {bn w l : Int32}
def vY (own : Nat) (bn w l x : Int32) : Int32 := if own = 2 ∨ own = 3 then vP own bn x + 4 - w else if own = 4 then (vP own bn x + 4 - w) * 3 else if own = 5 then (vP own bn x + 4) ^^^ l else if own = 7 then ((vP own bn x + 4) ^^^ l) + -(x ^^^ bn) else vP own bn x + 4
def lY (own : Nat) : List Int32 := if own = 2 ∨ own = 3 then 30 :: 10 :: lP own else if own = 4 then 50 :: 30 :: 10 :: lP own else if own = 5 then 61 :: 10 :: lP own else if own = 7 then (80 :: 61 :: 10 :: lP own) ++ [60, 11] else 10 :: lP own
def vS (own : Nat) (bn x : Int32) : Int32 := if own = 3 then (x ^^^ bn) + vP own bn 0 else if own = 5 ∨ own = 7 then -(x ^^^ bn) else x ^^^ bn
def lS (own : Nat) : List Int32 := if own = 3 then [41, 11] ++ lP own else if own = 5 ∨ own = 7 then [60, 11] else [11]
def lT0 (own : Nat) : List Int32 := 2 :: (lY own ++ lS own)
def vT (own : Nat) (bn w l x : Int32) : Int32 := if own = 2 ∨ own = 3 ∨ own = 4 then vS own bn (vY own bn w l x) + 1 else if own = 6 then vS own bn (vY own bn w l x) - vP own bn 1 else vS own bn (vY own bn w l x)
def lT (own : Nat) : List Int32 := if own = 2 ∨ own = 3 ∨ own = 4 then 31 :: lT0 own else if own = 6 then (70 :: lT0 own) ++ lP own else lT0 own
theorem l_len : ∀ own, own < 8 → (lY own).length ≤ 9 ∧ (lS own).length ≤ 9 ∧ (lT0 own).length ≤ 30 ∧ (lT own).length ≤ 40 := by decide
theorem pays_own {n e : Nat} {x : Int32} (h : cOk b own bn w l c t) (hc : c < 400) (he : e < 35) (hw : own < 8) : G_X0_perform (n + 12) 0 t (some b) (nt own) (nt 1) x (nt e) = some (vY own bn w l x, (lY own).foldl cR t) := by
  have hk' : own = 0 ∨ own = 1 ∨ own = 2 ∨ own = 3 ∨ own = 4 ∨ own = 5 ∨ own = 6 ∨ own = 7 := by omega
  rcases hk' with rfl | rfl | rfl | rfl | rfl | rfl | rfl | rfl
  · exact py0 (n := n + 4) h (by omega) (by omega) (by omega) hw rfl
  · exact py0 (n := n + 4) h (by omega) (by omega) (by omega) hw rfl
  · exact py2 (n := n + 2) h (by omega) (by omega) (by omega) hw rfl
  · exact py2 (n := n + 2) h (by omega) (by omega) (by omega) hw rfl
  · exact py4 (n := n) h (by omega) (by omega) (by omega) hw rfl
  · exact py5 (n := n + 2) h (by omega) (by omega) (by omega) hw rfl
  · exact py0 (n := n + 4) h (by omega) (by omega) (by omega) hw rfl
  · exact py7 (n := n) h (by omega) (by omega) (by omega) hw rfl
theorem signs_own {n e : Nat} {x : Int32} (h : cOk b own bn w l c t) (hc : c < 400) (he : e < 35) (hw : own < 8) : G_X0_perform (n + 8) 0 t (some b) (nt own) (nt 2) x (nt e) = some (vS own bn x, (lS own).foldl cR t) := by
  have hk' : own = 0 ∨ own = 1 ∨ own = 2 ∨ own = 3 ∨ own = 4 ∨ own = 5 ∨ own = 6 ∨ own = 7 := by omega
  rcases hk' with rfl | rfl | rfl | rfl | rfl | rfl | rfl | rfl
  · exact sg0 (n := n + 6) h (by omega) (by omega) (by omega) rfl
  · exact sg0 (n := n + 6) h (by omega) (by omega) (by omega) rfl
  · exact sg0 (n := n + 6) h (by omega) (by omega) (by omega) rfl
  · exact sg3 (n := n) h (by omega) (by omega) (by omega) hw rfl
  · exact sg0 (n := n + 6) h (by omega) (by omega) (by omega) rfl
  · exact sg5 (n := n + 4) h (by omega) (by omega) (by omega) rfl
  · exact sg0 (n := n + 6) h (by omega) (by omega) (by omega) rfl
  · exact sg5 (n := n + 4) h (by omega) (by omega) (by omega) rfl
theorem tl0 {n k e : Nat} {x : Int32} (h : cOk b own bn w l c t) (hc : c < 300) (he : e < 34) (hk : k < 8) (hw : own < 8) (h0 : ow k 3 = 0) : G_X0_perform (n + 14) 0 t (some b) (nt k) (nt 3) x (nt e) = some (vS own bn (vY own bn w l x), (lT0 own).foldl cR t) := by
  obtain ⟨l1, l2, -⟩ := l_len own hw
  rw [perf_step h (by omega) hk (by omega) (by omega), (nu_of h0).1]
  show Fb_X0_run (G_X0_perform (n + 12)) (cR t 2) (some b) 2 _ x _ = _
  rw [run_2, (cOk_R h).2.2.1, pays_own (cOk_R h) (by omega) (by omega) hw, ob2_s, signs_own (n := n + 4) (cOk_L (lY own) (cOk_R h)) (by omega) (by omega) hw, ob2_s]
  unfold lT0
  rw [List.foldl_cons, List.foldl_append]
theorem tl2 {n k e : Nat} {x : Int32} (h : cOk b own bn w l c t) (hc : c < 200) (he : e < 33) (hk : k < 8) (hw : own < 8) (h0 : ow k 3 = 2) : G_X0_perform (n + 16) 0 t (some b) (nt k) (nt 3) x (nt e) = some (vS own bn (vY own bn w l x) + 1, (31 :: lT0 own).foldl cR t) := by
  rw [perf_step h (by omega) hk (by omega) (by omega), (nu_of h0).1]
  show Fb_X0_run (G_X0_perform (n + 14)) (cR t 31) (some b) 31 _ x _ = _
  rw [run_31, tl0 (cOk_R h) (by omega) (by omega) (by omega) hw rfl]
  rfl
theorem tl6 {n k e : Nat} {x : Int32} (h : cOk b own bn w l c t) (hc : c < 200) (he : e < 33) (hk : k < 8) (hw : own < 8) (h0 : ow k 3 = 6) : G_X0_perform (n + 16) 0 t (some b) (nt k) (nt 3) x (nt e) = some (vS own bn (vY own bn w l x) - vP own bn 1, ((70 :: lT0 own) ++ lP own).foldl cR t) := by
  obtain ⟨-, -, l3, -⟩ := l_len own hw
  rw [perf_step h (by omega) hk (by omega) (by omega), (nu_of h0).1, (nu_of h0).2]
  show Fb_X0_run (G_X0_perform (n + 14)) (cR t 70) (some b) 70 (nt 1) x _ = _
  rw [run_70, tl0 (cOk_R h) (by omega) (by omega) (by omega) hw rfl, ob2_s, (cOk_R h).2.2.1, plays_own (n := n + 8) (cOk_L (lT0 own) (cOk_R h)) (by omega) (by omega) hw, ob2_s, List.foldl_append]
  rfl
theorem tells_own {n e : Nat} {x : Int32} (h : cOk b own bn w l c t) (hc : c < 200) (he : e < 33) (hw : own < 8) : G_X0_perform (n + 16) 0 t (some b) (nt own) (nt 3) x (nt e) = some (vT own bn w l x, (lT own).foldl cR t) := by
  have hk' : own = 0 ∨ own = 1 ∨ own = 2 ∨ own = 3 ∨ own = 4 ∨ own = 5 ∨ own = 6 ∨ own = 7 := by omega
  rcases hk' with rfl | rfl | rfl | rfl | rfl | rfl | rfl | rfl
  · exact tl0 (n := n + 2) h (by omega) (by omega) (by omega) hw rfl
  · exact tl0 (n := n + 2) h (by omega) (by omega) (by omega) hw rfl
  · exact tl2 (n := n) h (by omega) (by omega) (by omega) hw rfl
  · exact tl2 (n := n) h (by omega) (by omega) (by omega) hw rfl
  · exact tl2 (n := n) h (by omega) (by omega) (by omega) hw rfl
  · exact tl0 (n := n + 2) h (by omega) (by omega) (by omega) hw rfl
  · exact tl6 (n := n) h (by omega) (by omega) (by omega) hw rfl
  · exact tl0 (n := n + 2) h (by omega) (by omega) (by omega) hw rfl
def vA (own a : Nat) (bn w l x : Int32) : Int32 := if a = 0 then vP own bn x else if a = 1 then vY own bn w l x else if a = 2 then vS own bn x else vT own bn w l x
def lA (own a : Nat) : List Int32 := if a = 0 then lP own else if a = 1 then lY own else if a = 2 then lS own else lT own
theorem X0_perform_eq {a : Nat} {x : Int32} (h : cOk b own bn w l c t) (hc : c < 100) (hw : own < 8) (ha : a < 4) : F_X0_perform t (some b) (nt own) (nt a) x 0 = some (vA own a bn w l x, (lA own a).foldl cR t) := by
  unfold F_X0_perform
  have ha' : a = 0 ∨ a = 1 ∨ a = 2 ∨ a = 3 := by omega
  rcases ha' with rfl | rfl | rfl | rfl
  · exact plays_own (n := 94) (e := 0) h (by omega) (by omega) hw
  · exact pays_own (n := 88) (e := 0) h (by omega) (by omega) hw
  · exact signs_own (n := 92) (e := 0) h (by omega) (by omega) hw
  · exact tells_own (n := 84) (e := 0) h (by omega) (by omega) hw
end
