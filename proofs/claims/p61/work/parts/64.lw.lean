/-! THE LAW's WORLD: its script, its text; what lies between two calls of the law -/
/-- the script -/
def Sc (w : PW) (n : Nat) (f : Nat → Int32) : Prop := w.2.2 pSC = .inl (7, n, .inl f)
/-- the text -/
def Tx (w : PW) (l : List Nat) : Prop := w.2.2 pTX = .inr (98, pTf l)
section SCR
variable {M pc np a n idx : Nat} {cc : ByteArray} {L : PL} {S : List Value} {w : PW} {Q : PO → PW → Prop}
theorem w_scl {sn : Nat} {sf : Nat → Int32} {z : Int} (hB : mB M = cc) (hd : decode cc pc = .ok (.iaload, 1)) (hn : np = pc + 1) (hS : Sc w sn sf) (hb : bd z) (hz : 0 ≤ z ∧ z < sn) (h : pX M np L (iv (sf z.toNat).toInt :: S) w Q) : pX M pc L (iv z :: .ref pSC :: S) w Q := by
  obtain ⟨h1, h2⟩ := iv_idx hb hz
  have e0 : pai w pSC 0 = none := by unfold pai; rw [hS]; rfl
  have e7 : pai w pSC 7 = some (sn, sf) := by unfold pai; rw [hS]; rfl
  rw [iv_toInt, ← h2] at h
  refine (pX_l hB hd rfl (ln := 1) (w' := w) ?_ hn Q).mpr h
  unfold pld
  dsimp only
  rw [e0]
  dsimp only
  rw [e7]
  dsimp only
  rw [if_neg h1]
theorem w_scn {sn : Nat} {sf : Nat → Int32} (hB : mB M = cc) (hd : decode cc pc = .ok (.arraylength, 1)) (hn : np = pc + 1) (hS : Sc w sn sf) (h : pX M np L (iv sn :: S) w Q) : pX M pc L (.ref pSC :: S) w Q := by
  have e : iv (sn : Int) = .int (Int32.ofNat sn) := congrArg Value.int Int32.ofInt_eq_ofNat
  rw [e] at h
  refine (pX_l hB hd rfl (ln := 1) (w' := w) ?_ hn Q).mpr h
  unfold pld
  dsimp only
  unfold pal
  rw [hS]
theorem w_abs {x : Int} (hB : mB M = cc) (hd : decode cc pc = .ok (.invokestatic idx, 3)) (hl : plk idx (kM (mC M)) = some (a, n, 11)) (hn : np = pc + 3) (hm : (Nat.ble 1 (mF M) && Nat.ble 21 (mLo M) && Nat.ble S.length 4) = true) (hx : -100000 < x ∧ x < 100000) (h : pX M np L (iv (if 0 ≤ x then x else -x) :: S) w Q) : pX M pc L (iv x :: S) w Q := by
  simp only [Bool.and_eq_true] at hm
  have hb : bd x := ⟨by omega, by omega⟩
  have e : iv (if 0 ≤ x then x else -x) = .int (if 0 ≤ Int32.ofInt x then Int32.ofInt x else 0 - Int32.ofInt x) := by
    have h0 : (0 : Int32) ≤ Int32.ofInt x ↔ 0 ≤ x := iv_le (x := 0) ⟨by decide, by decide⟩ hb
    by_cases q : 0 ≤ x
    · rw [if_pos (h0.mpr q), if_pos q]
    · rw [if_neg (fun z => q (h0.mp z)), if_neg q]
      refine congrArg Value.int (Int32.toInt_inj.mp ?_)
      have e1 : (0 : Int32) - Int32.ofInt x = Int32.ofInt (0 - x) := by
        have := pf_isub (L := []) (S := []) 0 x
        have h2 : pf .isub [] [iv x, iv 0] = some (1, [], [.int (Int32.ofInt 0 - Int32.ofInt x)]) := rfl
        rw [h2] at this
        simp only [Option.some.injEq, Prod.mk.injEq, List.cons.injEq, Value.int.injEq, and_true, true_and] at this
        exact this
      rw [e1, Int.zero_sub]
  rw [e] at h
  refine w_n hB hd rfl ?_ (S' := .int _ :: S) (w' := w) ?_ hn h
  · unfold pcl
    simp only [hl]
  · unfold pna
    simp only [hl]
    rw [if_pos (by simp)]
    show (if 1 ≤ mF M ∧ 21 ≤ mLo M ∧ S.length ≤ 4 then _ else none) = _
    rw [if_pos ⟨Nat.le_of_ble_eq_true hm.1.1, Nat.le_of_ble_eq_true hm.1.2, Nat.le_of_ble_eq_true hm.2⟩]
theorem ptx_at {l : List Nat} (hT : Tx w l) : ptx w pTX = some (pTf l) := by
  unfold ptx
  rw [hT]
  exact if_pos ⟨rfl, rfl⟩
theorem w_txn {l : List Nat} (hB : mB M = cc) (hd : decode cc pc = .ok (.invokevirtual idx, 3)) (hl : plk idx (kM (mC M)) = some (a, n, 9)) (hn : np = pc + 3) (hT : Tx w l) (hm : (Nat.ble 3 (mF M) && Nat.ble 100 (mLo M) && Nat.ble S.length 4) = true) (h : pX M np L (iv (l.length : Nat) :: S) w Q) : pX M pc L (.ref pTX :: S) w Q := by
  simp only [Bool.and_eq_true] at hm
  have e : iv (l.length : Int) = .int (Int32.ofNat (pTf l).length) := by
    unfold pTf
    rw [List.length_map]
    exact congrArg Value.int Int32.ofInt_eq_ofNat
  rw [e] at h
  refine w_n hB hd rfl ?_ (S' := .int _ :: S) (w' := w) ?_ hn h
  · unfold pcl
    simp only [hl]
  · unfold pna
    simp only [hl]
    rw [if_pos (by simp)]
    simp only [pnat]
    rw [if_neg (fun q => absurd q.2.1 (show ¬ pTX < pSB + sTx.length by decide)), ptx_at hT]
    show (if 3 ≤ mF M ∧ 100 ≤ mLo M ∧ S.length ≤ 4 then _ else none) = _
    rw [if_pos ⟨Nat.le_of_ble_eq_true hm.1.1, Nat.le_of_ble_eq_true hm.1.2, Nat.le_of_ble_eq_true hm.2⟩]
theorem w_txc {l : List Nat} {z : Int} (hB : mB M = cc) (hd : decode cc pc = .ok (.invokevirtual idx, 3)) (hl : plk idx (kM (mC M)) = some (a, n, 10)) (hn : np = pc + 3) (hT : Tx w l) (hm : (Nat.ble 6 (mF M) && Nat.ble 160 (mLo M) && Nat.ble S.length 4) = true) (hb : bd z) (hz : 0 ≤ z ∧ z < (l.length : Nat)) (h : pX M np L (iv (l.getD z.toNat 0 : Nat) :: S) w Q) : pX M pc L (iv z :: .ref pTX :: S) w Q := by
  simp only [Bool.and_eq_true] at hm
  obtain ⟨e3, e4⟩ := iv_nn hb hz.1
  have hz2 : z.toNat < l.length := by omega
  have e : iv ((l.getD z.toNat 0 : Nat) : Int) = (pTf l).getD (Int32.ofInt z).toNatClampNeg (.int 0) := by
    rw [e4]
    unfold pTf
    rw [getD_map (fun c => Value.int (Int32.ofNat c)) l hz2 0]
    exact congrArg Value.int Int32.ofInt_eq_ofNat
  rw [e] at h
  refine w_n hB hd rfl ?_ (S' := _ :: S) (w' := w) ?_ hn h
  · unfold pcl
    simp only [hl]
  · unfold pna
    simp only [hl]
    rw [if_pos (by simp)]
    simp only [pnat]
    rw [if_neg (fun q => absurd q.2.1 (show ¬ pTX < pSB + sTx.length by decide)), ptx_at hT]
    show (if 6 ≤ mF M ∧ 160 ≤ mLo M ∧ S.length ≤ 4 ∧ ¬ Int32.ofInt z < 0 ∧ (Int32.ofInt z).toNatClampNeg < (pTf l).length then _ else none) = _
    rw [if_pos ⟨Nat.le_of_ble_eq_true hm.1.1, Nat.le_of_ble_eq_true hm.1.2, Nat.le_of_ble_eq_true hm.2, e3, by rw [e4]; unfold pTf; rw [List.length_map]; exact hz2⟩]
end SCR
/-- between two calls: the box's row, the history, the snapshot of slot 0, the script -/
def LW (w : PW) (m : Row) (H : Nat → Row) (n : Nat) (k0 : Option Row) (sn : Nat) (sf : Nat → Int32) : Prop :=
  Sh w ∧ BR w 1 m ∧ HR w H n ∧ Sc w sn sf ∧ ∀ r, k0 = some r → gI w 134 0 = 1 ∧ BR w 143 r
section LWS
variable {w w' : PW} {m : Row} {H : Nat → Row} {n : Nat} {k0 : Option Row} {sn : Nat} {sf : Nat → Int32}
theorem LW.sh (h : LW w m H n k0 sn sf) : Sh w := h.1
theorem LW.br (h : LW w m H n k0 sn sf) : BR w 1 m := h.2.1
theorem LW.ok (h : LW w m H n k0 sn sf) : RowOK m := h.2.1.ok
theorem LW.hr (h : LW w m H n k0 sn sf) : HR w H n := h.2.2.1
theorem LW.sc (h : LW w m H n k0 sn sf) : Sc w sn sf := h.2.2.2.1
theorem LW.cf (h : LW w m H n k0 sn sf) (hC : CF w w') : LW w' m H n k0 sn sf :=
  ⟨hC.1, hC.b1 h.br, h.hr.cells (fun c hc => hC.2 c (by omega) (by omega)), (hC.2 pSC (by decide) (by decide)).trans h.sc, fun r hr => ⟨(gI_cell (hC.2 134 (by decide) (by decide)) 0).trans (h.2.2.2.2 r hr).1, (h.2.2.2.2 r hr).2.cells (fun k hk => hC.2 _ (by omega) (by omega))⟩⟩
theorem LW.ao {o : Option Row} (h : LW w m H n k0 sn sf) (hA : AO w H n m o w') : LW w' (aM m o) (aH H n m o) (aN n o) k0 sn sf :=
  ⟨hA.1, hA.2.2.1, hA.2.2.2, (hA.2.1 pSC (by decide) (by decide)).trans h.sc, fun r hr => ⟨(gI_cell (hA.2.1 134 (by decide) (by decide)) 0).trans (h.2.2.2.2 r hr).1, (h.2.2.2.2 r hr).2.cells (fun k hk => hA.2.1 _ (by omega) (by omega))⟩⟩
end LWS
