/-! THE LAW: what a call of it does -/
/-- the script -/
def Sc (w : PW) (n : Nat) (f : Nat → Int32) : Prop := w.2.2 pSC = .inl (7, n, .inl f)
section SCR
variable {M pc np : Nat} {cc : ByteArray} {L : PL} {S : List Value} {w : PW} {Q : PO → PW → Prop}
theorem w_scl {sn : Nat} {sf : Nat → Int32} {z : Int} (hB : mB M = cc) (hd : decode cc pc = .ok (.iaload, 1)) (hn : np = pc + 1) (hS : Sc w sn sf) (hb : bd z) (hz : 0 ≤ z ∧ z < sn) (h : pX M np L (iv (sf z.toNat).toInt :: S) w Q) : pX M pc L (iv z :: .ref pSC :: S) w Q := by
  obtain ⟨h1, h2⟩ := iv_idx hb hz
  have e0 : pai w pSC 0 = none := by unfold pai; rw [hS]; rfl
  have e7 : pai w pSC 7 = some (sn, sf) := by unfold pai; rw [hS]; rfl
  rw [iv_toInt, ← h2] at h
  refine (pX_l hB hd rfl (ln := 1) (w' := w) ?_ hn Q).mpr h
  unfold pld
  dsimp only
  rw [e0]
  dsimp only
  rw [e7]
  dsimp only
  rw [if_neg h1]
theorem w_scn {sn : Nat} {sf : Nat → Int32} (hB : mB M = cc) (hd : decode cc pc = .ok (.arraylength, 1)) (hn : np = pc + 1) (hS : Sc w sn sf) (h : pX M np L (iv sn :: S) w Q) : pX M pc L (.ref pSC :: S) w Q := by
  have e : iv (sn : Int) = .int (Int32.ofNat sn) := congrArg Value.int Int32.ofInt_eq_ofNat
  rw [e] at h
  refine (pX_l hB hd rfl (ln := 1) (w' := w) ?_ hn Q).mpr h
  unfold pld
  dsimp only
  unfold pal
  rw [hS]
end SCR
