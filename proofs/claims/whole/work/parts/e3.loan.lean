/-! PART e3: the model adds a move. -/
section
variable {t : TS} {nB nS nM p c co d : Nat}
def lmA (t : TS) (nM p co c d : Nat) (fee : Int32) (loan : Bool) : TS := uI (uA (uA (uA (uA (uA (uA (uA (uA t 3328 0 nM (nt p)) 3329 0 nM (nt co)) 3330 0 nM (nt c)) 3331 0 nM fee) 3332 0 nM (nt d)) 3333 0 nM (b1 loan)) 3334 0 nM 0) 3342 0 nM (-1)) 1327 0 (nt (nM + 1))
theorem addMove_m (hL : Ilen t) (hS : Mspan nB nS t) (h27 : tI t 1327 0 = nt nM) (hlM : nM < 200) (hday : tI t 1301 0 = nt d) {so : Nat} (ho : own t nS p (nt d) = some so) (hco : tA t 3318 0 so = nt co) (fee : Int32) (loan : Bool) : F_X13_addMove t (nt p) (nt c) fee (b1 loan) = some (nt nM, lmA t nM p co c d fee loan) := by
  have f1 : frm (ks [3328]) t (uA t 3328 0 nM (nt p)) := frm_uA rfl
  have how : F_X13_ownerOn (uA t 3328 0 nM (nt p)) (nt p) (tI (uA t 3328 0 nM (nt p)) 1301 0) = some (nt co) := by
    rw [(f1.1 1301 rfl).2.1, hday, ownerOn_eqM (Ilen_f f1 hL) (Mspan_f f1 (by decide) hS), own_f f1 (by decide), ho, oel_s, (f1.1 3318 rfl).2.2.2.2.1, hco]
  have hb : ∀ b : Bool, vp_nar .boolean (b1 b) = b1 b := fun b => by cases b <;> rfl
  have h0 : vp_nar .boolean 0 = 0 := rfl
  have w : ∀ (u : TS) k (x : Int32) (K : TS → Option (Int32 × TS)), tL u k 0 = 200 → gd (nt nM) (tL u k 0) (nxt (uA u k 0 (nt nM).toNatClampNeg x) K) = K (uA u k 0 nM x) := fun u k x K h => by
    rw [h, gd_nt _ (by omega) (by omega), nxt_e, nt_cl (by omega)]
  unfold F_X13_addMove
  rw [h27]
  refine (w _ 3328 _ _ (by exact hL 3328 rfl)).trans ?_
  rw [how, ob_s]
  refine (w _ 3329 _ _ (by exact hL 3329 rfl)).trans ?_
  refine (w _ 3330 _ _ (by exact hL 3330 rfl)).trans ?_
  refine (w _ 3331 _ _ (by exact hL 3331 rfl)).trans ?_
  refine (w _ 3332 _ _ (by exact hL 3332 rfl)).trans ?_
  refine (w _ 3333 _ _ (by exact hL 3333 rfl)).trans ?_
  refine (w _ 3334 _ _ (by exact hL 3334 rfl)).trans ?_
  refine (w _ 3342 _ _ (by exact hL 3342 rfl)).trans ?_
  have e27 : ∀ a b cc dd e f g h : Int32, tI (uA (uA (uA (uA (uA (uA (uA (uA t 3328 0 nM a) 3329 0 nM b) 3330 0 nM cc) 3331 0 nM dd) 3332 0 nM e) 3333 0 nM f) 3334 0 nM g) 3342 0 nM h) = tI t := fun _ _ _ _ _ _ _ _ => rfl
  have e01 : tI (uA (uA (uA (uA t 3328 0 nM (nt p)) 3329 0 nM (nt co)) 3330 0 nM (nt c)) 3331 0 nM fee) 1301 0 = nt d := hday
  rw [e27, h27, nxt_e, nt_succ, hb, h0, e01]
  rfl
/-- the span of a move, by the model -/
def lmS (t : TS) (nM p c nS : Nat) (d : Nat) (to so : Int32) : TS := uA (uA (mS t p c nS so (nt d) to) 3340 0 nM (nt nS)) 3324 0 nS (nt nM)
theorem addMoveSpan_m (hL : Ilen t) (h16 : tI t 1316 0 = nt nS) (hlS : nS < 600) (hlM : nM < 200) (hday : tI t 1301 0 = nt d) (hp : tA t 3328 0 nM = nt p) (hc : tA t 3330 0 nM = nt c) (to so : Int32) : F_X13_addMoveSpan t (nt nM) to so = some (lmS t nM p c nS d to so) := by
  have hLm : Ilen (mS t p c nS so (nt d) to) := Ilen_f mS_f hL
  have hLn : Ilen (uA (mS t p c nS so (nt d) to) 3340 0 nM (nt nS)) := Ilen_f (frm_uA rfl : frm (ks [3340]) _ _) hLm
  have e40 : tA (uA (mS t p c nS so (nt d) to) 3340 0 nM (nt nS)) 3340 0 nM = nt nS := by rw [A_uA, m1_s, m1_s]
  unfold F_X13_addMoveSpan
  rw [(show tL _ 3328 0 = 200 from hL 3328 rfl), (show tL _ 3330 0 = 200 from hL 3330 rfl), gd_nt _ (by omega) (by omega), gd_nt _ (by omega) (by omega), nt_cl (by omega), hp, hc, hday, addSpan_m hL h16 hlS, ob2_s, show tL (mS t p c nS so (nt d) to) 3340 0 = 200 from hLm 3340 rfl, gd_nt _ (by omega) (by omega), nxt_e, show tL (uA (mS t p c nS so (nt d) to) 3340 0 nM (nt nS)) 3340 0 = 200 from hLn 3340 rfl, gd_nt _ (by omega) (by omega), e40, show tL (uA (mS t p c nS so (nt d) to) 3340 0 nM (nt nS)) 3324 0 = 600 from hLn 3324 rfl, gd_nt _ (by omega) (by omega), nxt_e, nt_cl (by omega)]
  rfl
end
