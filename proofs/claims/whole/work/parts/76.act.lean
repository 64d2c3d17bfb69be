/-! PART 76: acts, the class's bodies. -/
section
variable {t : TS} {b own c : Nat} {bn w l : Int32}
def vP (own : Nat) (bn x : Int32) : Int32 := if own = 3 then (x + 1 - bn) * 2 else if own = 1 ∨ own = 2 ∨ own = 4 ∨ own = 6 then (x - bn) * 2 else x - bn
def lP (own : Nat) : List Int32 := if own = 3 then [40, 20, 1] else if own = 1 ∨ own = 2 ∨ own = 4 ∨ own = 6 then [20, 1] else [1]
theorem pl0 {n k e : Nat} {x : Int32} (h : cOk b own bn w l c t) (hc : c < 900) (he : e < 40) (hk : k < 8) (h0 : ow k 0 = 0) : G_X0_perform (n + 2) 0 t (some b) (nt k) (nt 0) x (nt e) = some (x - bn, [1].foldl cR t) := by
  rw [perf_step h (by omega) hk (by omega) he, (nu_of h0).1]
  show Fb_X0_run (G_X0_perform n) (cR t 1) (some b) 1 _ x _ = _
  rw [run_1, (cOk_R h).2.2.2.1]
  rfl
theorem pl1 {n k e : Nat} {x : Int32} (h : cOk b own bn w l c t) (hc : c < 800) (he : e < 39) (hk : k < 8) (h0 : ow k 0 = 1) : G_X0_perform (n + 4) 0 t (some b) (nt k) (nt 0) x (nt e) = some ((x - bn) * 2, [20, 1].foldl cR t) := by
  rw [perf_step h (by omega) hk (by omega) (by omega), (nu_of h0).1, (nu_of h0).2]
  show Fb_X0_run (G_X0_perform (n + 2)) (cR t 20) (some b) 20 (nt 0) x _ = _
  rw [run_20, pl0 (cOk_R h) (by omega) (by omega) (by omega) rfl]
  rfl
theorem pl3 {n k e : Nat} {x : Int32} (h : cOk b own bn w l c t) (hc : c < 700) (he : e < 38) (hk : k < 8) (h0 : ow k 0 = 3) : G_X0_perform (n + 6) 0 t (some b) (nt k) (nt 0) x (nt e) = some ((x + 1 - bn) * 2, [40, 20, 1].foldl cR t) := by
  rw [perf_step h (by omega) hk (by omega) (by omega), (nu_of h0).1, (nu_of h0).2]
  show Fb_X0_run (G_X0_perform (n + 4)) (cR t 40) (some b) 40 (nt 2) x _ = _
  rw [run_40, pl1 (cOk_R h) (by omega) (by omega) (by omega) rfl]
  rfl
theorem plays_own {n e : Nat} {x : Int32} (h : cOk b own bn w l c t) (hc : c < 700) (he : e < 38) (hk : own < 8) : G_X0_perform (n + 6) 0 t (some b) (nt own) (nt 0) x (nt e) = some (vP own bn x, (lP own).foldl cR t) := by
  have hk' : own = 0 ∨ own = 1 ∨ own = 2 ∨ own = 3 ∨ own = 4 ∨ own = 5 ∨ own = 6 ∨ own = 7 := by omega
  rcases hk' with rfl | rfl | rfl | rfl | rfl | rfl | rfl | rfl
  · exact pl0 (n := n + 4) h (by omega) (by omega) (by omega) rfl
  · exact pl1 (n := n + 2) h (by omega) (by omega) (by omega) rfl
  · exact pl1 (n := n + 2) h (by omega) (by omega) (by omega) rfl
  · exact pl3 (n := n) h (by omega) (by omega) (by omega) rfl
  · exact pl1 (n := n + 2) h (by omega) (by omega) (by omega) rfl
  · exact pl0 (n := n + 4) h (by omega) (by omega) (by omega) rfl
  · exact pl1 (n := n + 2) h (by omega) (by omega) (by omega) rfl
  · exact pl0 (n := n + 4) h (by omega) (by omega) (by omega) rfl
theorem lP_len : ∀ own, own < 8 → (lP own).length ≤ 3 := by decide
theorem py0 {n k e : Nat} {x : Int32} (h : cOk b own bn w l c t) (hc : c < 600) (he : e < 37) (hk : k < 8) (hw : own < 8) (h0 : ow k 1 = 0) : G_X0_perform (n + 8) 0 t (some b) (nt k) (nt 1) x (nt e) = some (vP own bn x + 4, (10 :: lP own).foldl cR t) := by
  rw [perf_step h (by omega) hk (by omega) (by omega), (nu_of h0).1]
  show Fb_X0_run (G_X0_perform (n + 6)) (cR t 10) (some b) 10 _ x _ = _
  rw [run_10, (cOk_R h).2.2.1, plays_own (cOk_R h) (by omega) (by omega) hw]
  rfl
theorem py2 {n k e : Nat} {x : Int32} (h : cOk b own bn w l c t) (hc : c < 500) (he : e < 36) (hk : k < 8) (hw : own < 8) (h0 : ow k 1 = 2) : G_X0_perform (n + 10) 0 t (some b) (nt k) (nt 1) x (nt e) = some (vP own bn x + 4 - w, (30 :: 10 :: lP own).foldl cR t) := by
  rw [perf_step h (by omega) hk (by omega) (by omega), (nu_of h0).1, (nu_of h0).2]
  show Fb_X0_run (G_X0_perform (n + 8)) (cR t 30) (some b) 30 (nt 1) x _ = _
  rw [run_30, py0 (cOk_R h) (by omega) (by omega) (by omega) hw rfl, ob2_s, (cOk_L (10 :: lP own) (cOk_R h)).2.2.2.2.1]
  rfl
theorem py4 {n k e : Nat} {x : Int32} (h : cOk b own bn w l c t) (hc : c < 400) (he : e < 35) (hk : k < 8) (hw : own < 8) (h0 : ow k 1 = 4) : G_X0_perform (n + 12) 0 t (some b) (nt k) (nt 1) x (nt e) = some ((vP own bn x + 4 - w) * 3, (50 :: 30 :: 10 :: lP own).foldl cR t) := by
  rw [perf_step h (by omega) hk (by omega) (by omega), (nu_of h0).1, (nu_of h0).2]
  show Fb_X0_run (G_X0_perform (n + 10)) (cR t 50) (some b) 50 (nt 2) x _ = _
  rw [run_50, py2 (cOk_R h) (by omega) (by omega) (by omega) hw rfl]
  rfl
theorem py5 {n k e : Nat} {x : Int32} (h : cOk b own bn w l c t) (hc : c < 500) (he : e < 36) (hk : k < 8) (hw : own < 8) (h0 : ow k 1 = 5) : G_X0_perform (n + 10) 0 t (some b) (nt k) (nt 1) x (nt e) = some ((vP own bn x + 4) ^^^ l, (61 :: 10 :: lP own).foldl cR t) := by
  rw [perf_step h (by omega) hk (by omega) (by omega), (nu_of h0).1, (nu_of h0).2]
  show Fb_X0_run (G_X0_perform (n + 8)) (cR t 61) (some b) 61 (nt 0) x _ = _
  rw [run_61, py0 (cOk_R h) (by omega) (by omega) (by omega) hw rfl, ob2_s, (cOk_L (10 :: lP own) (cOk_R h)).2.2.2.2.2]
  rfl
theorem sg0 {n k e : Nat} {x : Int32} (h : cOk b own bn w l c t) (hc : c < 900) (he : e < 40) (hk : k < 8) (h0 : ow k 2 = 0) : G_X0_perform (n + 2) 0 t (some b) (nt k) (nt 2) x (nt e) = some (x ^^^ bn, [11].foldl cR t) := by
  rw [perf_step h (by omega) hk (by omega) he, (nu_of h0).1]
  show Fb_X0_run (G_X0_perform n) (cR t 11) (some b) 11 _ x _ = _
  rw [run_11, (cOk_R h).2.2.2.1]
  rfl
theorem sg5 {n k e : Nat} {x : Int32} (h : cOk b own bn w l c t) (hc : c < 800) (he : e < 39) (hk : k < 8) (h0 : ow k 2 = 5) : G_X0_perform (n + 4) 0 t (some b) (nt k) (nt 2) x (nt e) = some (-(x ^^^ bn), [60, 11].foldl cR t) := by
  rw [perf_step h (by omega) hk (by omega) (by omega), (nu_of h0).1, (nu_of h0).2]
  show Fb_X0_run (G_X0_perform (n + 2)) (cR t 60) (some b) 60 (nt 0) x _ = _
  rw [run_60, sg0 (cOk_R h) (by omega) (by omega) (by omega) rfl]
  rfl
theorem sg3 {n k e : Nat} {x : Int32} (h : cOk b own bn w l c t) (hc : c < 600) (he : e < 37) (hk : k < 8) (hw : own < 8) (h0 : ow k 2 = 3) : G_X0_perform (n + 8) 0 t (some b) (nt k) (nt 2) x (nt e) = some ((x ^^^ bn) + vP own bn 0, ([41, 11] ++ lP own).foldl cR t) := by
  rw [perf_step h (by omega) hk (by omega) (by omega), (nu_of h0).1, (nu_of h0).2]
  show Fb_X0_run (G_X0_perform (n + 6)) (cR t 41) (some b) 41 (nt 2) x _ = _
  rw [run_41, sg0 (n := n + 4) (cOk_R h) (by omega) (by omega) (by omega) rfl, ob2_s, (cOk_R h).2.2.1, plays_own (cOk_L [11] (cOk_R h)) (by show c + 1 + 1 < 700; omega) (by omega) hw]
  rfl
theorem py7 {n k e : Nat} {x : Int32} (h : cOk b own bn w l c t) (hc : c < 400) (he : e < 35) (hk : k < 8) (hw : own < 8) (h0 : ow k 1 = 7) : G_X0_perform (n + 12) 0 t (some b) (nt k) (nt 1) x (nt e) = some (((vP own bn x + 4) ^^^ l) + -(x ^^^ bn), ((80 :: 61 :: 10 :: lP own) ++ [60, 11]).foldl cR t) := by
  have hl := lP_len own hw
  rw [perf_step h (by omega) hk (by omega) (by omega), (nu_of h0).1, (nu_of h0).2]
  show Fb_X0_run (G_X0_perform (n + 10)) (cR t 80) (some b) 80 (nt 5) x _ = _
  rw [run_80, py5 (cOk_R h) (by omega) (by omega) (by omega) hw rfl, ob2_s, sg5 (n := n + 6) (cOk_L (61 :: 10 :: lP own) (cOk_R h)) (by simp only [List.length_cons]; omega) (by omega) (by omega) rfl, ob2_s, List.foldl_append]
  rfl
end
