/-! CHANGES: one note more or less, one tooth more, one pin, a new box: the class -/
def rDrop (m : Row) (k : Nat) : Row := fun j => if j = 5 then m 5 - 1 else if 71 + 3 * k ≤ j ∧ (j : Int) < 71 + 3 * (m 5 - 1) then m (j + 3) else m j
def rNote (m : Row) (u s p : Int) : Row := fun j => if j = 5 then m 5 + 1 else if j = 71 + 3 * (m 5).toNat then u else if j = 71 + 3 * (m 5).toNat + 1 then s else if j = 71 + 3 * (m 5).toNat + 2 then p else m j
def rTooth (m : Row) (p r : Int) : Row := fun j => if j = 4 then m 4 + 1 else if j = 11 + 5 * (m 4).toNat then p else if j = 11 + 5 * (m 4).toNat + 1 then r else if j = 11 + 5 * (m 4).toNat + 2 then 0 else if j = 11 + 5 * (m 4).toNat + 3 then 0 else if j = 11 + 5 * (m 4).toNat + 4 then -1 else m j
def rBegin (S U G : Int) : Row := fun j => if j = 0 then S else if j = 1 then U else if j = 2 then G else if j = 3 then 1 else 0
def rPut (m : Row) (u s : Nat) (z : Int) : Row := rSetP m u (fun r => if r = s then z else m (251 + 64 * u + r))
section RCH
variable {m : Row}
theorem rDrop_lo {k j : Nat} (h : j < 71) (h5 : j ≠ 5) : rDrop m k j = m j := by unfold rDrop; rw [if_neg h5, if_neg (by omega)]
theorem rDrop_5 {k : Nat} : rDrop m k 5 = m 5 - 1 := by unfold rDrop; rw [if_pos rfl]
theorem rDrop_hi {k j : Nat} (hm : RowOK m) (h : 251 ≤ j) : rDrop m k j = m j := by
  have := hm.n
  unfold rDrop
  rw [if_neg (by omega), if_neg (by omega)]
theorem rDrop_N {k i c : Nat} (hi : (i : Int) < m 5 - 1) (hc : c < 3) : rN (rDrop m k) i c = if k ≤ i then rN m (i + 1) c else rN m i c := by
  show rDrop m k (71 + 3 * i + c) = _
  unfold rDrop
  rw [if_neg (by omega)]
  by_cases q : k ≤ i
  · rw [if_pos q, if_pos (by omega), show 71 + 3 * i + c + 3 = 71 + 3 * (i + 1) + c from by omega]; rfl
  · rw [if_neg q, if_neg (by omega)]; rfl
theorem rDrop_ok (h : RowOK m) {k : Nat} (hk : (k : Int) < m 5) : RowOK (rDrop m k) := by
  have l : ∀ j, j < 71 → j ≠ 5 → rDrop m k j = m j := fun j hj h5 => rDrop_lo hj h5
  have h5 := h.n
  unfold RowOK
  rw [l 0 (by decide) (by decide), l 1 (by decide) (by decide), l 2 (by decide) (by decide), l 3 (by decide) (by decide), l 4 (by decide) (by decide), rDrop_5, l 6 (by decide) (by decide), l 7 (by decide) (by decide), l 8 (by decide) (by decide), l 9 (by decide) (by decide), l 10 (by decide) (by decide)]
  refine ⟨h.s, h.u, h.g, h.v, h.t, ⟨by omega, by omega⟩, h.pu, h.ps, h.pt, h.pp, h.pb, ?_, fun i hi => ?_, ?_⟩
  · have := ok_T (m' := rDrop m k) h (l 4 (by decide) (by decide)) (l 8 (by decide) (by decide)) (l 9 (by decide) (by decide)) (fun t k _ _ => l _ (by omega) (by omega))
    rw [l 4 (by decide) (by decide), l 8 (by decide) (by decide), l 9 (by decide) (by decide)] at this
    exact this
  · rw [rDrop_N hi (by decide), rDrop_N hi (by decide), rDrop_N hi (by decide)]
    by_cases q : k ≤ i
    · rw [if_pos q, if_pos q, if_pos q]
      exact h.N (by omega)
    · rw [if_neg q, if_neg q, if_neg q]
      exact h.N (by omega)
  · have := ok_P (m' := rDrop m k) h (l 0 (by decide) (by decide)) (l 1 (by decide) (by decide)) (l 4 (by decide) (by decide)) (fun v s hv hs => rDrop_hi h (by omega))
    rw [l 0 (by decide) (by decide), l 1 (by decide) (by decide), l 4 (by decide) (by decide)] at this
    exact this
theorem rNote_lo {u s p : Int} {j : Nat} (h : j < 71) (h5 : j ≠ 5) : rNote m u s p j = m j := by unfold rNote; rw [if_neg h5, if_neg (by omega), if_neg (by omega), if_neg (by omega)]
theorem rNote_5 {u s p : Int} : rNote m u s p 5 = m 5 + 1 := by unfold rNote; rw [if_pos rfl]
theorem rNote_hi {u s p : Int} {j : Nat} (h5 : m 5 < 60) (h : 251 ≤ j) : rNote m u s p j = m j := by
  unfold rNote
  rw [if_neg (by omega), if_neg (by omega), if_neg (by omega), if_neg (by omega)]
theorem rNote_N {u s p : Int} {i c : Nat} (hi : (i : Int) < m 5) (hc : c < 3) : rN (rNote m u s p) i c = rN m i c := by
  show rNote m u s p (71 + 3 * i + c) = _
  unfold rNote
  rw [if_neg (by omega), if_neg (by omega), if_neg (by omega), if_neg (by omega)]; rfl
theorem rNote_new {u s p : Int} : rN (rNote m u s p) (m 5).toNat 0 = u ∧ rN (rNote m u s p) (m 5).toNat 1 = s ∧ rN (rNote m u s p) (m 5).toNat 2 = p := by
  refine ⟨?_, ?_, ?_⟩
  · show rNote m u s p (71 + 3 * (m 5).toNat) = _
    unfold rNote
    rw [if_neg (by omega), if_pos rfl]
  · show rNote m u s p (71 + 3 * (m 5).toNat + 1) = _
    unfold rNote
    rw [if_neg (by omega), if_neg (by omega), if_pos rfl]
  · show rNote m u s p (71 + 3 * (m 5).toNat + 2) = _
    unfold rNote
    rw [if_neg (by omega), if_neg (by omega), if_neg (by omega), if_pos rfl]
theorem rNote_ok {u s p : Int} (h : RowOK m) (h60 : m 5 < 60) (hu : 0 ≤ u ∧ u < m 1) (hs : 0 ≤ s ∧ s < m 0) (hp : 0 ≤ p ∧ p < 24) : RowOK (rNote m u s p) := by
  have l : ∀ j, j < 71 → j ≠ 5 → rNote m u s p j = m j := fun j hj h5 => rNote_lo hj h5
  have h5 := h.n
  unfold RowOK
  rw [l 0 (by decide) (by decide), l 1 (by decide) (by decide), l 2 (by decide) (by decide), l 3 (by decide) (by decide), l 4 (by decide) (by decide), rNote_5, l 6 (by decide) (by decide), l 7 (by decide) (by decide), l 8 (by decide) (by decide), l 9 (by decide) (by decide), l 10 (by decide) (by decide)]
  refine ⟨h.s, h.u, h.g, h.v, h.t, ⟨by omega, by omega⟩, h.pu, h.ps, h.pt, h.pp, h.pb, ?_, fun i hi => ?_, ?_⟩
  · have := ok_T (m' := rNote m u s p) h (l 4 (by decide) (by decide)) (l 8 (by decide) (by decide)) (l 9 (by decide) (by decide)) (fun t k _ _ => l _ (by omega) (by omega))
    rw [l 4 (by decide) (by decide), l 8 (by decide) (by decide), l 9 (by decide) (by decide)] at this
    exact this
  · by_cases q : (i : Int) < m 5
    · rw [rNote_N q (by decide), rNote_N q (by decide), rNote_N q (by decide)]
      exact h.N q
    · obtain ⟨n0, n1, n2⟩ := rNote_new (m := m) (u := u) (s := s) (p := p)
      rw [show i = (m 5).toNat from by omega, n0, n1, n2]
      exact ⟨hu, hs, hp⟩
  · have := ok_P (m' := rNote m u s p) h (l 0 (by decide) (by decide)) (l 1 (by decide) (by decide)) (l 4 (by decide) (by decide)) (fun v s hv hs => rNote_hi h60 (by omega))
    rw [l 0 (by decide) (by decide), l 1 (by decide) (by decide), l 4 (by decide) (by decide)] at this
    exact this
theorem rTooth_lo {p r : Int} {j : Nat} (h : j < 11) (h4 : j ≠ 4) : rTooth m p r j = m j := by unfold rTooth; rw [if_neg h4, if_neg (by omega), if_neg (by omega), if_neg (by omega), if_neg (by omega), if_neg (by omega)]
theorem rTooth_4 {p r : Int} : rTooth m p r 4 = m 4 + 1 := by unfold rTooth; rw [if_pos rfl]
theorem rTooth_hi {p r : Int} {j : Nat} (h4 : m 4 < 12) (h : 71 ≤ j) : rTooth m p r j = m j := by
  unfold rTooth
  rw [if_neg (by omega), if_neg (by omega), if_neg (by omega), if_neg (by omega), if_neg (by omega), if_neg (by omega)]
theorem rTooth_T {p r : Int} {i c : Nat} (hi : (i : Int) < m 4) (hc : c < 5) : rT (rTooth m p r) i c = rT m i c := by
  show rTooth m p r (11 + 5 * i + c) = _
  unfold rTooth
  rw [if_neg (by omega), if_neg (by omega), if_neg (by omega), if_neg (by omega), if_neg (by omega), if_neg (by omega)]; rfl
theorem rTooth_new {p r : Int} : rT (rTooth m p r) (m 4).toNat 0 = p ∧ rT (rTooth m p r) (m 4).toNat 1 = r ∧ rT (rTooth m p r) (m 4).toNat 2 = 0 ∧ rT (rTooth m p r) (m 4).toNat 3 = 0 ∧ rT (rTooth m p r) (m 4).toNat 4 = -1 := by
  refine ⟨?_, ?_, ?_, ?_, ?_⟩
  · show rTooth m p r (11 + 5 * (m 4).toNat) = _
    unfold rTooth
    rw [if_neg (by omega), if_pos rfl]
  · show rTooth m p r (11 + 5 * (m 4).toNat + 1) = _
    unfold rTooth
    rw [if_neg (by omega), if_neg (by omega), if_pos rfl]
  · show rTooth m p r (11 + 5 * (m 4).toNat + 2) = _
    unfold rTooth
    rw [if_neg (by omega), if_neg (by omega), if_neg (by omega), if_pos rfl]
  · show rTooth m p r (11 + 5 * (m 4).toNat + 3) = _
    unfold rTooth
    rw [if_neg (by omega), if_neg (by omega), if_neg (by omega), if_neg (by omega), if_pos rfl]
  · show rTooth m p r (11 + 5 * (m 4).toNat + 4) = _
    unfold rTooth
    rw [if_neg (by omega), if_neg (by omega), if_neg (by omega), if_neg (by omega), if_neg (by omega), if_pos rfl]
theorem rTooth_ok {p r : Int} (h : RowOK m) (h12 : m 4 < 12) (hp : 0 ≤ p ∧ p < 24) (hr : 1 ≤ r ∧ r ≤ 12) : RowOK (rTooth m p r) := by
  have l : ∀ j, j < 11 → j ≠ 4 → rTooth m p r j = m j := fun j hj h5 => rTooth_lo hj h5
  have h4 := h.t
  have h1 := h.u
  have h0 := h.s
  unfold RowOK
  rw [l 0 (by decide) (by decide), l 1 (by decide) (by decide), l 2 (by decide) (by decide), l 3 (by decide) (by decide), rTooth_4, l 5 (by decide) (by decide), l 6 (by decide) (by decide), l 7 (by decide) (by decide), l 8 (by decide) (by decide), l 9 (by decide) (by decide), l 10 (by decide) (by decide)]
  refine ⟨h.s, h.u, h.g, h.v, ⟨by omega, by omega⟩, h.n, h.pu, h.ps, h.pt, h.pp, h.pb, fun i hi => ?_, ?_, fun v s hv hs => ?_⟩
  · by_cases q : (i : Int) < m 4
    · rw [rTooth_T q (by decide), rTooth_T q (by decide), rTooth_T q (by decide), rTooth_T q (by decide), rTooth_T q (by decide)]
      exact h.T q
    · obtain ⟨n0, n1, n2, n3, n4⟩ := rTooth_new (m := m) (p := p) (r := r)
      have h9 := h.pp
      have h8 := h.pt
      rw [show i = (m 4).toNat from by omega, n0, n1, n2, n3, n4]
      omega
  · have := ok_N (m' := rTooth m p r) h (l 0 (by decide) (by decide)) (l 1 (by decide) (by decide)) (l 5 (by decide) (by decide)) (fun i k _ _ => rTooth_hi h12 (by omega))
    rw [l 0 (by decide) (by decide), l 1 (by decide) (by decide), l 5 (by decide) (by decide)] at this
    exact this
  · have := h.P hv hs
    unfold rPin
    rw [rTooth_hi h12 (by omega)]
    exact ⟨this.1, fun t ht q => by have := this.2 t ht q; omega⟩
theorem rBegin_ok {S U G : Int} (hS : 8 ≤ S ∧ S ≤ 64) (hU : 1 ≤ U ∧ U ≤ 3) (hG : 0 ≤ G ∧ G ≤ 3) : RowOK (rBegin S U G) := by
  have hz : ∀ j, 4 ≤ j → rBegin S U G j = 0 := fun j hj => by unfold rBegin; rw [if_neg (by omega), if_neg (by omega), if_neg (by omega), if_neg (by omega)]
  have e0 : rBegin S U G 0 = S := rfl
  have e1 : rBegin S U G 1 = U := rfl
  have e2 : rBegin S U G 2 = G := rfl
  have e3 : rBegin S U G 3 = 1 := rfl
  unfold RowOK
  rw [e0, e1, e2, e3, hz 4 (by decide), hz 5 (by decide), hz 6 (by decide), hz 7 (by decide), hz 8 (by decide), hz 9 (by decide), hz 10 (by decide)]
  refine ⟨hS, hU, hG, by decide, by decide, by decide, ⟨by decide, by omega⟩, ⟨by decide, by omega⟩, by decide, by decide, by decide, fun t ht => by omega, fun i hi => by omega, fun u s hu hs => ?_⟩
  unfold rPin
  rw [hz _ (by omega)]
  exact ⟨bd0, fun t ht q => by rw [tI_0] at q; cases q⟩
end RCH
/-! 31: PinBarrel$Box.pinOrNot(IIIZ)V -/
theorem b31 : mB 31 = cX0_pinOrNot := rfl
theorem r31 : mR 31 = none := rfl
theorem p31 (a b : Nat) : phi 31 a ≤ phi 31 b := Nat.le_refl 0
theorem d31_0 : decode cX0_pinOrNot 0 = .ok (.aload_n 0, 1) := by decide +kernel
theorem d31_1 : decode cX0_pinOrNot 1 = .ok (.iload_n 1, 1) := by decide +kernel
theorem d31_2 : decode cX0_pinOrNot 2 = .ok (.iload_n 3, 1) := by decide +kernel
theorem d31_3 : decode cX0_pinOrNot 3 = .ok (.invokevirtual 81, 3) := by decide +kernel
theorem d31_6 : decode cX0_pinOrNot 6 = .ok (.istore 5, 2) := by decide +kernel
theorem d31_8 : decode cX0_pinOrNot 8 = .ok (.lconst 1, 1) := by decide +kernel
theorem d31_9 : decode cX0_pinOrNot 9 = .ok (.iload_n 2, 1) := by decide +kernel
theorem d31_10 : decode cX0_pinOrNot 10 = .ok (.lshl, 1) := by decide +kernel
theorem d31_11 : decode cX0_pinOrNot 11 = .ok (.lstore 6, 2) := by decide +kernel
theorem d31_13 : decode cX0_pinOrNot 13 = .ok (.aload_n 0, 1) := by decide +kernel
theorem d31_14 : decode cX0_pinOrNot 14 = .ok (.iload 5, 2) := by decide +kernel
theorem d31_16 : decode cX0_pinOrNot 16 = .ok (.iload 4, 2) := by decide +kernel
theorem d31_18 : decode cX0_pinOrNot 18 = .ok (.ifCond .eq 15, 3) := by decide +kernel
theorem d31_21 : decode cX0_pinOrNot 21 = .ok (.aload_n 0, 1) := by decide +kernel
theorem d31_22 : decode cX0_pinOrNot 22 = .ok (.iload 5, 2) := by decide +kernel
theorem d31_24 : decode cX0_pinOrNot 24 = .ok (.invokevirtual 85, 3) := by decide +kernel
theorem d31_27 : decode cX0_pinOrNot 27 = .ok (.lload 6, 2) := by decide +kernel
theorem d31_29 : decode cX0_pinOrNot 29 = .ok (.lor, 1) := by decide +kernel
theorem d31_30 : decode cX0_pinOrNot 30 = .ok (.goto 16, 3) := by decide +kernel
theorem d31_33 : decode cX0_pinOrNot 33 = .ok (.aload_n 0, 1) := by decide +kernel
theorem d31_34 : decode cX0_pinOrNot 34 = .ok (.iload 5, 2) := by decide +kernel
theorem d31_36 : decode cX0_pinOrNot 36 = .ok (.invokevirtual 85, 3) := by decide +kernel
theorem d31_39 : decode cX0_pinOrNot 39 = .ok (.lload 6, 2) := by decide +kernel
theorem d31_41 : decode cX0_pinOrNot 41 = .ok (.ldc2_w 95, 3) := by decide +kernel
theorem d31_44 : decode cX0_pinOrNot 44 = .ok (.lxor, 1) := by decide +kernel
theorem d31_45 : decode cX0_pinOrNot 45 = .ok (.land, 1) := by decide +kernel
theorem d31_46 : decode cX0_pinOrNot 46 = .ok (.invokevirtual 97, 3) := by decide +kernel
theorem d31_49 : decode cX0_pinOrNot 49 = .ok (.return_, 1) := by decide +kernel
theorem v31_0 {w : PW} {Q : PO → PW → Prop} {b : Nat} {x1 : Int} {x2 : Int} {x3 : Int} {x4 : Int} (hs : Sh w) (hb : bx b) (hx1 : bd x1) (hx2 : bd x2) (hx3 : bd x3) (hx4 : bd x4) (h : (x4 = 0 → (bd ((gI w b 1) * x3 + x1)) ∧ (bd ((gI w b 1) * x3 + x1)) ∧ (0 ≤ ((gI w b 1) * x3 + x1) ∧ ((gI w b 1) * x3 + x1) < 36) ∧ ∀ w2 : PW, w2 = sL w (b + 3) (((gI w b 1) * x3 + x1)).toNat ((lP w b ((gI w b 1) * x3 + x1)) &&& ((lShl ((1 : Int64)) x2) ^^^ ((-1 : Int64)))) → Q (.inl none) w2) ∧ (x4 ≠ 0 → (bd ((gI w b 1) * x3 + x1)) ∧ (bd ((gI w b 1) * x3 + x1)) ∧ (0 ≤ ((gI w b 1) * x3 + x1) ∧ ((gI w b 1) * x3 + x1) < 36) ∧ ∀ w3 : PW, w3 = sL w (b + 3) (((gI w b 1) * x3 + x1)).toNat ((lP w b ((gI w b 1) * x3 + x1)) ||| (lShl ((1 : Int64)) x2)) → Q (.inl none) w3)) : pX 31 0 [some (.ref b), some (iv x1), some (iv x2), some (iv x3), some (iv x4), none, none, none] [] w Q :=
  w_f b31 d31_0 rfl rfl rfl <| w_f b31 d31_1 rfl rfl rfl <| w_f b31 d31_2 rfl rfl rfl <| w_cc b31 d31_3 rfl (pcl_v (n := 2) rfl rfl rfl (by decide +kernel) (sh_isOb hs (bx00 hb) (tb0 hb)) rfl rfl) rfl <| c28 hs hb hx1 hx3 <| w_f b31 d31_6 rfl rfl rfl <| w_f b31 d31_8 rfl rfl rfl <| w_f b31 d31_9 rfl rfl rfl <| w_f b31 d31_10 rfl rfl rfl <| w_f b31 d31_11 rfl rfl rfl <| w_f b31 d31_13 rfl rfl rfl <| w_f b31 d31_14 rfl rfl rfl <| w_f b31 d31_16 rfl rfl rfl <| w_ifeq b31 d31_18 rfl rfl (p31 _ _) hx4 (fun c1 => w_f b31 d31_33 rfl rfl rfl <| w_f b31 d31_34 rfl rfl rfl <| w_cc b31 d31_36 rfl (pcl_v (n := 1) rfl rfl rfl (by decide +kernel) (sh_isOb hs (bx00 hb) (tb0 hb)) rfl rfl) rfl <| c29 hs hb (h.1 c1).1 <| w_f b31 d31_39 rfl rfl rfl <| w_ldcL b31 d31_41 rfl rfl <| w_f b31 d31_44 rfl rfl rfl <| w_f b31 d31_45 rfl rfl rfl <| w_cc b31 d31_46 rfl (pcl_v (n := 2) rfl rfl rfl (by decide +kernel) (sh_isOb hs (bx00 hb) (tb0 hb)) rfl rfl) rfl <| c30 hs hb (h.1 c1).2.1 (h.1 c1).2.2.1 <| w_rv b31 d31_49 r31 ((h.1 c1).2.2.2 _ rfl)) (fun c1 => w_f b31 d31_21 rfl rfl rfl <| w_f b31 d31_22 rfl rfl rfl <| w_cc b31 d31_24 rfl (pcl_v (n := 1) rfl rfl rfl (by decide +kernel) (sh_isOb hs (bx00 hb) (tb0 hb)) rfl rfl) rfl <| c29 hs hb (h.2 c1).1 <| w_f b31 d31_27 rfl rfl rfl <| w_f b31 d31_29 rfl rfl rfl <| w_j b31 d31_30 rfl (p31 _ _) <| w_cc b31 d31_46 rfl (pcl_v (n := 2) rfl rfl rfl (by decide +kernel) (sh_isOb hs (bx00 hb) (tb0 hb)) rfl rfl) rfl <| c30 hs hb (h.2 c1).2.1 (h.2 c1).2.2.1 <| w_rv b31 d31_49 r31 ((h.2 c1).2.2.2 _ rfl))
theorem e31 {w : PW} {Q : PO → PW → Prop} {b : Nat} {x1 : Int} {x2 : Int} {x3 : Int} {x4 : Int} (hs : Sh w) (hb : bx b) (hx1 : bd x1) (hx2 : bd x2) (hx3 : bd x3) (hx4 : bd x4) (h : (x4 = 0 → (bd ((gI w b 1) * x3 + x1)) ∧ (bd ((gI w b 1) * x3 + x1)) ∧ (0 ≤ ((gI w b 1) * x3 + x1) ∧ ((gI w b 1) * x3 + x1) < 36) ∧ ∀ w2 : PW, w2 = sL w (b + 3) (((gI w b 1) * x3 + x1)).toNat ((lP w b ((gI w b 1) * x3 + x1)) &&& ((lShl ((1 : Int64)) x2) ^^^ ((-1 : Int64)))) → Q (.inl none) w2) ∧ (x4 ≠ 0 → (bd ((gI w b 1) * x3 + x1)) ∧ (bd ((gI w b 1) * x3 + x1)) ∧ (0 ≤ ((gI w b 1) * x3 + x1) ∧ ((gI w b 1) * x3 + x1) < 36) ∧ ∀ w3 : PW, w3 = sL w (b + 3) (((gI w b 1) * x3 + x1)).toNat ((lP w b ((gI w b 1) * x3 + x1)) ||| (lShl ((1 : Int64)) x2)) → Q (.inl none) w3)) : pC 31 [.ref b, iv x1, iv x2, iv x3, iv x4] w Q :=
  (pC_in (Nat.le_of_ble_eq_true rfl) rfl Q).mpr (v31_0 hs hb hx1 hx2 hx3 hx4 h)
theorem putW {w w2 : PW} {b u s t : Nat} {m : Row} {z : Int} {X : Int64} (hs : Sh w) (hB : BR w b m) (hu : (u : Int) < m 1) (hS : (s : Int) < m 0) (ht : (t : Int) < m 4) (hz : bd z) (hzb : ∀ k, k < 32 → k ≠ t → tI z k = tI (m (251 + 64 * u + s)) k) (hX : ∀ r, r < 64 → tL X r = if r = s then tI z t else tL (gL w (b + 3) ((m 1).toNat * t + u)) r) (e2 : w2 = sL w (b + 3) (m 1 * (t : Int) + (u : Int)).toNat X) : Sh w2 ∧ BR w2 b (rPut m u s z) ∧ OB b w w2 := by
  have h1 := hB.ok.u
  have h4 := hB.ok.t
  have h0 := hB.ok.s
  have a0 := bx_lt hB.bx
  have hlt := trk_lt hB.ok hu (show t < 12 by omega)
  rw [hB.trk hu, Int.toNat_natCast] at e2
  obtain ⟨s2, g2, -, k2⟩ := stL e2 hs (by omega) (tb3 hB.bx)
  refine ⟨s2, hB.setP hu k2 (fun r hr => ?_) (fun j r hj hr => ?_), fun c hc => k2 c (by omega)⟩
  · have hp := hB.ok.P hu hr
    by_cases q : r = s
    · rw [if_pos q]
      refine ⟨hz, fun k hk hq => ?_⟩
      by_cases q2 : k = t
      · rw [q2]; exact ht
      · rw [hzb k hk q2, ← q] at hq
        exact hp.2 k hk hq
    · rw [if_neg q]
      exact hp
  · rw [g2]
    have huU : u < (m 1).toNat := by omega
    by_cases q : j = (m 1).toNat * t + u
    · subst q
      have q1 : (m 1).toNat * t + u < (m 1).toNat * (m 4).toNat := by
        have : (m 1).toNat * (t + 1) ≤ (m 1).toNat * (m 4).toNat := Nat.mul_le_mul_left _ (by omega)
        rw [Nat.mul_add, Nat.mul_one] at this
        omega
      rw [if_pos ⟨rfl, rfl⟩, hX r hr, Nat.mul_add_mod, Nat.mod_eq_of_lt huU, Nat.mul_add_div (by omega), Nat.div_eq_of_lt huU, if_pos (show u = u ∧ (m 1).toNat * t + u < (m 1).toNat * (m 4).toNat from ⟨rfl, q1⟩), Nat.add_zero]
      by_cases q2 : r = s
      · rw [if_pos q2, if_pos q2, decide_eq_true (by omega)]; rfl
      · rw [if_neg q2, if_neg q2, hB.trbit hu ht hr]
        by_cases q3 : r < (m 0).toNat
        · rw [decide_eq_true q3, decide_eq_true (by omega)]; rfl
        · rw [decide_eq_false q3, decide_eq_false (by omega), Bool.false_and, Bool.false_and]
    · rw [if_neg (fun z => q z.2)]
      by_cases q1 : j % (m 1).toNat = u ∧ j < (m 1).toNat * (m 4).toNat
      · rw [if_pos q1]
        have e3 := Nat.div_add_mod j (m 1).toNat
        rw [q1.1] at e3
        have q4 : j / (m 1).toNat < (m 4).toNat := by rw [Nat.div_lt_iff_lt_mul (by omega), Nat.mul_comm]; exact q1.2
        have q5 : j / (m 1).toNat ≠ t := fun z => q (by rw [z] at e3; exact e3.symm)
        have hb := hB.trbit (t := j / (m 1).toNat) hu (by omega) hr
        rw [e3] at hb
        rw [hb]
        by_cases q3 : r < (m 0).toNat
        · rw [decide_eq_true q3, decide_eq_true (by omega), Bool.true_and, Bool.true_and]
          by_cases q2 : r = s
          · rw [if_pos q2, hzb _ (by omega) q5, q2]; rfl
          · rw [if_neg q2]; rfl
        · rw [decide_eq_false q3, decide_eq_false (by omega), Bool.false_and, Bool.false_and]
      · rw [if_neg q1]
def rOn (m : Row) (u s t : Nat) (on : Int) : Int := if on = 0 then iAnd (m (251 + 64 * u + s)) (iXor (iShl 1 t) (-1)) else iOr (m (251 + 64 * u + s)) (iShl 1 t)
theorem c31 {w : PW} {Q : PO → PW → Prop} {b u s t : Nat} {m : Row} {on : Int} (hs : Sh w) (hB : BR w b m) (hu : (u : Int) < m 1) (hS : (s : Int) < m 0) (ht : (t : Int) < m 4) (hon : bd on) (h : ∀ w2, Sh w2 → BR w2 b (rPut m u s (rOn m u s t on)) → OB b w w2 → Q (.inl none) w2) : pC 31 [.ref b, iv (u : Nat), iv (s : Nat), iv (t : Nat), iv on] w Q := by
  have h1 := hB.ok.u
  have h4 := hB.ok.t
  have h0 := hB.ok.s
  have htb := hB.lPb hu (show t < 12 by omega)
  have hlt := trk_lt hB.ok hu (show t < 12 by omega)
  have hl : lP w b (m 1 * (t : Int) + (u : Int)) = gL w (b + 3) ((m 1).toNat * t + u) := by
    rw [hB.trk hu]
    unfold lP
    rw [if_pos ⟨by omega, by omega⟩, Int.toNat_natCast]
  have hs64 : s < 64 := by omega
  refine e31 hs hB.bx (bdk (by omega)) (bdk (by omega)) (bdk (by omega)) hon ?_
  rw [hB.u, hl]
  refine ⟨fun q => ⟨htb.1, htb.1, htb.2, fun w2 e2 => ?_⟩, fun q => ⟨htb.1, htb.1, htb.2, fun w2 e2 => ?_⟩⟩
  · have := putW (z := rOn m u s t on) hs hB hu hS ht (by unfold rOn; rw [if_pos q]; exact bd_toInt _) (fun k hk hkt => by
      unfold rOn
      rw [if_pos q, tI_and, tI_not hk, tI_bit (by omega) hk, Int.toNat_natCast, decide_eq_false hkt, Bool.not_false, Bool.and_true]) (fun r hr => by
      rw [tL_and, tL_not hr, tL_bit (by omega) hr, Int.toNat_natCast]
      by_cases q2 : r = s
      · rw [if_pos q2, decide_eq_true q2, Bool.not_true, Bool.and_false]
        unfold rOn
        rw [if_pos q, tI_and, tI_not (by omega), tI_bit (by omega) (by omega), Int.toNat_natCast, decide_eq_true rfl, Bool.not_true, Bool.and_false]
      · rw [if_neg q2, decide_eq_false q2, Bool.not_false, Bool.and_true]) e2
    exact h w2 this.1 this.2.1 this.2.2
  · have := putW (z := rOn m u s t on) hs hB hu hS ht (by unfold rOn; rw [if_neg q]; exact bd_toInt _) (fun k hk hkt => by
      unfold rOn
      rw [if_neg q, tI_or, tI_bit (by omega) hk, Int.toNat_natCast, decide_eq_false hkt, Bool.or_false]) (fun r hr => by
      rw [tL_or, tL_bit (by omega) hr, Int.toNat_natCast]
      by_cases q2 : r = s
      · rw [if_pos q2, decide_eq_true q2, Bool.or_true]
        unfold rOn
        rw [if_neg q, tI_or, tI_bit (by omega) (by omega), Int.toNat_natCast, decide_eq_true rfl, Bool.or_true]
      · rw [if_neg q2, decide_eq_false q2, Bool.or_false]) e2
    exact h w2 this.1 this.2.1 this.2.2
/-! 167: PinBarrel$Notes.takeAway(I)V -/
theorem b167 : mB 167 = cX2_takeAway := rfl
theorem r167 : mR 167 = none := rfl
theorem p167 (a b : Nat) : phi 167 a ≤ phi 167 b := Nat.le_refl 0
theorem d167_0 : decode cX2_takeAway 0 = .ok (.aload_n 0, 1) := by decide +kernel
theorem d167_1 : decode cX2_takeAway 1 = .ok (.dup, 1) := by decide +kernel
theorem d167_2 : decode cX2_takeAway 2 = .ok (.getfield 9, 3) := by decide +kernel
theorem d167_5 : decode cX2_takeAway 5 = .ok (.iconst 1, 1) := by decide +kernel
theorem d167_6 : decode cX2_takeAway 6 = .ok (.isub, 1) := by decide +kernel
theorem d167_7 : decode cX2_takeAway 7 = .ok (.putfield 9, 3) := by decide +kernel
theorem d167_10 : decode cX2_takeAway 10 = .ok (.iload_n 1, 1) := by decide +kernel
theorem d167_11 : decode cX2_takeAway 11 = .ok (.istore_n 2, 1) := by decide +kernel
theorem d167_12 : decode cX2_takeAway 12 = .ok (.iload_n 2, 1) := by decide +kernel
theorem d167_13 : decode cX2_takeAway 13 = .ok (.aload_n 0, 1) := by decide +kernel
theorem d167_14 : decode cX2_takeAway 14 = .ok (.getfield 9, 3) := by decide +kernel
theorem d167_17 : decode cX2_takeAway 17 = .ok (.if_icmp .ge 51, 3) := by decide +kernel
theorem d167_20 : decode cX2_takeAway 20 = .ok (.aload_n 0, 1) := by decide +kernel
theorem d167_21 : decode cX2_takeAway 21 = .ok (.getfield 15, 3) := by decide +kernel
theorem d167_24 : decode cX2_takeAway 24 = .ok (.iload_n 2, 1) := by decide +kernel
theorem d167_25 : decode cX2_takeAway 25 = .ok (.aload_n 0, 1) := by decide +kernel
theorem d167_26 : decode cX2_takeAway 26 = .ok (.getfield 15, 3) := by decide +kernel
theorem d167_29 : decode cX2_takeAway 29 = .ok (.iload_n 2, 1) := by decide +kernel
theorem d167_30 : decode cX2_takeAway 30 = .ok (.iconst 1, 1) := by decide +kernel
theorem d167_31 : decode cX2_takeAway 31 = .ok (.iadd, 1) := by decide +kernel
theorem d167_32 : decode cX2_takeAway 32 = .ok (.iaload, 1) := by decide +kernel
theorem d167_33 : decode cX2_takeAway 33 = .ok (.iastore, 1) := by decide +kernel
theorem d167_34 : decode cX2_takeAway 34 = .ok (.aload_n 0, 1) := by decide +kernel
theorem d167_35 : decode cX2_takeAway 35 = .ok (.getfield 19, 3) := by decide +kernel
theorem d167_38 : decode cX2_takeAway 38 = .ok (.iload_n 2, 1) := by decide +kernel
theorem d167_39 : decode cX2_takeAway 39 = .ok (.aload_n 0, 1) := by decide +kernel
theorem d167_40 : decode cX2_takeAway 40 = .ok (.getfield 19, 3) := by decide +kernel
theorem d167_43 : decode cX2_takeAway 43 = .ok (.iload_n 2, 1) := by decide +kernel
theorem d167_44 : decode cX2_takeAway 44 = .ok (.iconst 1, 1) := by decide +kernel
theorem d167_45 : decode cX2_takeAway 45 = .ok (.iadd, 1) := by decide +kernel
theorem d167_46 : decode cX2_takeAway 46 = .ok (.iaload, 1) := by decide +kernel
theorem d167_47 : decode cX2_takeAway 47 = .ok (.iastore, 1) := by decide +kernel
theorem d167_48 : decode cX2_takeAway 48 = .ok (.aload_n 0, 1) := by decide +kernel
theorem d167_49 : decode cX2_takeAway 49 = .ok (.getfield 22, 3) := by decide +kernel
theorem d167_52 : decode cX2_takeAway 52 = .ok (.iload_n 2, 1) := by decide +kernel
theorem d167_53 : decode cX2_takeAway 53 = .ok (.aload_n 0, 1) := by decide +kernel
theorem d167_54 : decode cX2_takeAway 54 = .ok (.getfield 22, 3) := by decide +kernel
theorem d167_57 : decode cX2_takeAway 57 = .ok (.iload_n 2, 1) := by decide +kernel
theorem d167_58 : decode cX2_takeAway 58 = .ok (.iconst 1, 1) := by decide +kernel
theorem d167_59 : decode cX2_takeAway 59 = .ok (.iadd, 1) := by decide +kernel
theorem d167_60 : decode cX2_takeAway 60 = .ok (.iaload, 1) := by decide +kernel
theorem d167_61 : decode cX2_takeAway 61 = .ok (.iastore, 1) := by decide +kernel
theorem d167_62 : decode cX2_takeAway 62 = .ok (.iinc 2 1, 3) := by decide +kernel
theorem d167_65 : decode cX2_takeAway 65 = .ok (.goto (-53), 3) := by decide +kernel
theorem d167_68 : decode cX2_takeAway 68 = .ok (.return_, 1) := by decide +kernel
theorem v167_0 {w : PW} {Q : PO → PW → Prop} {b : Nat} {x1 : Int} (hs : Sh w) (hb : bx b) (hx1 : bd x1) (h : ∀ w1 : PW, w1 = sI w (b + 4) 0 ((gI w (b + 4) 0) - 1) → pX 167 12 [some (.ref (b + 4)), some (iv x1), some (iv x1)] [] w1 Q) : pX 167 0 [some (.ref (b + 4)), some (iv x1), none] [] w Q :=
  w_f b167 d167_0 rfl rfl rfl <| w_f b167 d167_1 rfl rfl rfl <| w_gi b167 d167_2 rfl rfl hs (bxk hb 4 rfl) (tb4 hb) rfl <| w_f b167 d167_5 rfl rfl rfl <| w_f b167 d167_6 rfl (pf_isub (gI w (b + 4) 0) 1) rfl <| w_pi b167 d167_7 rfl rfl hs (bxk hb 4 rfl) (tb4 hb) rfl rfl rfl <| w_f b167 d167_10 rfl rfl rfl <| w_f b167 d167_11 rfl rfl rfl <| (h _ rfl)
theorem e167 {w : PW} {Q : PO → PW → Prop} {b : Nat} {x1 : Int} (hs : Sh w) (hb : bx b) (hx1 : bd x1) (h : ∀ w1 : PW, w1 = sI w (b + 4) 0 ((gI w (b + 4) 0) - 1) → pX 167 12 [some (.ref (b + 4)), some (iv x1), some (iv x1)] [] w1 Q) : pC 167 [.ref (b + 4), iv x1] w Q :=
  (pC_in (Nat.le_of_ble_eq_true rfl) rfl Q).mpr (v167_0 hs hb hx1 h)
theorem v167_12 {w : PW} {Q : PO → PW → Prop} {b : Nat} {x1 : Int} {x2 : Int} (hs : Sh w) (hb : bx b) (hx1 : bd x1) (hx2 : bd x2) (h : ((gI w (b + 4) 0) ≤ x2 → Q (.inl none) w) ∧ (x2 < (gI w (b + 4) 0) → (0 ≤ (x2 + 1) ∧ (x2 + 1) < 60) ∧ (0 ≤ x2 ∧ x2 < 60) ∧ ∀ w2 : PW, w2 = sI w (b + 5) x2.toNat (gI w (b + 5) (x2 + 1).toNat) → (0 ≤ (x2 + 1) ∧ (x2 + 1) < 60) ∧ (0 ≤ x2 ∧ x2 < 60) ∧ ∀ w3 : PW, w3 = sI w2 (b + 6) x2.toNat (gI w2 (b + 6) (x2 + 1).toNat) → (0 ≤ (x2 + 1) ∧ (x2 + 1) < 60) ∧ (0 ≤ x2 ∧ x2 < 60) ∧ ∀ w4 : PW, w4 = sI w3 (b + 7) x2.toNat (gI w3 (b + 7) (x2 + 1).toNat) → pX 167 12 [some (.ref (b + 4)), some (iv x1), some (iv (x2 + 1))] [] w4 Q)) : pX 167 12 [some (.ref (b + 4)), some (iv x1), some (iv x2)] [] w Q :=
  w_f b167 d167_12 rfl rfl rfl <| w_f b167 d167_13 rfl rfl rfl <| w_gi b167 d167_14 rfl rfl hs (bxk hb 4 rfl) (tb4 hb) rfl <| w_icge b167 d167_17 rfl rfl (p167 _ _) hx2 (bd_gI _ _ _) (fun c1 => w_rv b167 d167_68 r167 (h.1 c1)) (fun c1 => w_f b167 d167_20 rfl rfl rfl <| w_gr b167 d167_21 rfl rfl hs (bxk hb 4 rfl) (tb4 hb) rfl (bxr hb 5 rfl) <| w_f b167 d167_24 rfl rfl rfl <| w_f b167 d167_25 rfl rfl rfl <| w_gr b167 d167_26 rfl rfl hs (bxk hb 4 rfl) (tb4 hb) rfl (bxr hb 5 rfl) <| w_f b167 d167_29 rfl rfl rfl <| w_f b167 d167_30 rfl rfl rfl <| w_f b167 d167_31 rfl (pf_iadd x2 1) rfl <| w_ial b167 d167_32 rfl hs (bxk hb 5 rfl) (tb5 hb) (bdix (n := 60) (h.2 c1).1 rfl) (h.2 c1).1 <| w_ias b167 d167_33 rfl hs (bxk hb 5 rfl) (tb5 hb) (bdix (n := 60) (h.2 c1).2.1 rfl) (h.2 c1).2.1 <| w_f b167 d167_34 rfl rfl rfl <| w_gr b167 d167_35 rfl rfl (Sh_sI hs (slt_a (tb5 hb))) (bxk hb 4 rfl) (tb4 hb) rfl (bxr hb 6 rfl) <| w_f b167 d167_38 rfl rfl rfl <| w_f b167 d167_39 rfl rfl rfl <| w_gr b167 d167_40 rfl rfl (Sh_sI hs (slt_a (tb5 hb))) (bxk hb 4 rfl) (tb4 hb) rfl (bxr hb 6 rfl) <| w_f b167 d167_43 rfl rfl rfl <| w_f b167 d167_44 rfl rfl rfl <| w_f b167 d167_45 rfl (pf_iadd x2 1) rfl <| w_ial b167 d167_46 rfl (Sh_sI hs (slt_a (tb5 hb))) (bxk hb 6 rfl) (tb6 hb) (bdix (n := 60) ((h.2 c1).2.2 _ rfl).1 rfl) ((h.2 c1).2.2 _ rfl).1 <| w_ias b167 d167_47 rfl (Sh_sI hs (slt_a (tb5 hb))) (bxk hb 6 rfl) (tb6 hb) (bdix (n := 60) ((h.2 c1).2.2 _ rfl).2.1 rfl) ((h.2 c1).2.2 _ rfl).2.1 <| w_f b167 d167_48 rfl rfl rfl <| w_gr b167 d167_49 rfl rfl (Sh_sI (Sh_sI hs (slt_a (tb5 hb))) (slt_a (tb6 hb))) (bxk hb 4 rfl) (tb4 hb) rfl (bxr hb 7 rfl) <| w_f b167 d167_52 rfl rfl rfl <| w_f b167 d167_53 rfl rfl rfl <| w_gr b167 d167_54 rfl rfl (Sh_sI (Sh_sI hs (slt_a (tb5 hb))) (slt_a (tb6 hb))) (bxk hb 4 rfl) (tb4 hb) rfl (bxr hb 7 rfl) <| w_f b167 d167_57 rfl rfl rfl <| w_f b167 d167_58 rfl rfl rfl <| w_f b167 d167_59 rfl (pf_iadd x2 1) rfl <| w_ial b167 d167_60 rfl (Sh_sI (Sh_sI hs (slt_a (tb5 hb))) (slt_a (tb6 hb))) (bxk hb 7 rfl) (tb7 hb) (bdix (n := 60) (((h.2 c1).2.2 _ rfl).2.2 _ rfl).1 rfl) (((h.2 c1).2.2 _ rfl).2.2 _ rfl).1 <| w_ias b167 d167_61 rfl (Sh_sI (Sh_sI hs (slt_a (tb5 hb))) (slt_a (tb6 hb))) (bxk hb 7 rfl) (tb7 hb) (bdix (n := 60) (((h.2 c1).2.2 _ rfl).2.2 _ rfl).2.1 rfl) (((h.2 c1).2.2 _ rfl).2.2 _ rfl).2.1 <| w_f b167 d167_62 rfl (pf_iinc rfl rfl) rfl <| w_j b167 d167_65 rfl (p167 _ _) <| ((((h.2 c1).2.2 _ rfl).2.2 _ rfl).2.2 _ rfl))
/-! 26: PinBarrel$Notes.put(III)V -/
theorem b26 : mB 26 = cX2_put := rfl
theorem r26 : mR 26 = none := rfl
theorem p26 (a b : Nat) : phi 26 a ≤ phi 26 b := Nat.le_refl 0
theorem d26_0 : decode cX2_put 0 = .ok (.aload_n 0, 1) := by decide +kernel
theorem d26_1 : decode cX2_put 1 = .ok (.getfield 9, 3) := by decide +kernel
theorem d26_4 : decode cX2_put 4 = .ok (.bipush 60, 2) := by decide +kernel
theorem d26_6 : decode cX2_put 6 = .ok (.if_icmp .ge 43, 3) := by decide +kernel
theorem d26_9 : decode cX2_put 9 = .ok (.aload_n 0, 1) := by decide +kernel
theorem d26_10 : decode cX2_put 10 = .ok (.getfield 15, 3) := by decide +kernel
theorem d26_13 : decode cX2_put 13 = .ok (.aload_n 0, 1) := by decide +kernel
theorem d26_14 : decode cX2_put 14 = .ok (.getfield 9, 3) := by decide +kernel
theorem d26_17 : decode cX2_put 17 = .ok (.iload_n 1, 1) := by decide +kernel
theorem d26_18 : decode cX2_put 18 = .ok (.iastore, 1) := by decide +kernel
theorem d26_19 : decode cX2_put 19 = .ok (.aload_n 0, 1) := by decide +kernel
theorem d26_20 : decode cX2_put 20 = .ok (.getfield 19, 3) := by decide +kernel
theorem d26_23 : decode cX2_put 23 = .ok (.aload_n 0, 1) := by decide +kernel
theorem d26_24 : decode cX2_put 24 = .ok (.getfield 9, 3) := by decide +kernel
theorem d26_27 : decode cX2_put 27 = .ok (.iload_n 2, 1) := by decide +kernel
theorem d26_28 : decode cX2_put 28 = .ok (.iastore, 1) := by decide +kernel
theorem d26_29 : decode cX2_put 29 = .ok (.aload_n 0, 1) := by decide +kernel
theorem d26_30 : decode cX2_put 30 = .ok (.getfield 22, 3) := by decide +kernel
theorem d26_33 : decode cX2_put 33 = .ok (.aload_n 0, 1) := by decide +kernel
theorem d26_34 : decode cX2_put 34 = .ok (.getfield 9, 3) := by decide +kernel
theorem d26_37 : decode cX2_put 37 = .ok (.iload_n 3, 1) := by decide +kernel
theorem d26_38 : decode cX2_put 38 = .ok (.iastore, 1) := by decide +kernel
theorem d26_39 : decode cX2_put 39 = .ok (.aload_n 0, 1) := by decide +kernel
theorem d26_40 : decode cX2_put 40 = .ok (.dup, 1) := by decide +kernel
theorem d26_41 : decode cX2_put 41 = .ok (.getfield 9, 3) := by decide +kernel
theorem d26_44 : decode cX2_put 44 = .ok (.iconst 1, 1) := by decide +kernel
theorem d26_45 : decode cX2_put 45 = .ok (.iadd, 1) := by decide +kernel
theorem d26_46 : decode cX2_put 46 = .ok (.putfield 9, 3) := by decide +kernel
theorem d26_49 : decode cX2_put 49 = .ok (.return_, 1) := by decide +kernel
theorem v26_0 {w : PW} {Q : PO → PW → Prop} {b : Nat} {x1 : Int} {x2 : Int} {x3 : Int} (hs : Sh w) (hb : bx b) (hx1 : bd x1) (hx2 : bd x2) (hx3 : bd x3) (h : (60 ≤ (gI w (b + 4) 0) → Q (.inl none) w) ∧ ((gI w (b + 4) 0) < 60 → (0 ≤ (gI w (b + 4) 0) ∧ (gI w (b + 4) 0) < 60) ∧ ∀ w2 : PW, w2 = sI w (b + 5) (gI w (b + 4) 0).toNat x1 → (0 ≤ (gI w2 (b + 4) 0) ∧ (gI w2 (b + 4) 0) < 60) ∧ ∀ w3 : PW, w3 = sI w2 (b + 6) (gI w2 (b + 4) 0).toNat x2 → (0 ≤ (gI w3 (b + 4) 0) ∧ (gI w3 (b + 4) 0) < 60) ∧ ∀ w4 : PW, w4 = sI w3 (b + 7) (gI w3 (b + 4) 0).toNat x3 → ∀ w5 : PW, w5 = sI w4 (b + 4) 0 ((gI w4 (b + 4) 0) + 1) → Q (.inl none) w5)) : pX 26 0 [some (.ref (b + 4)), some (iv x1), some (iv x2), some (iv x3)] [] w Q :=
  w_f b26 d26_0 rfl rfl rfl <| w_gi b26 d26_1 rfl rfl hs (bxk hb 4 rfl) (tb4 hb) rfl <| w_f b26 d26_4 rfl rfl rfl <| w_icge b26 d26_6 rfl rfl (p26 _ _) (bd_gI _ _ _) ⟨by decide, by decide⟩ (fun c1 => w_rv b26 d26_49 r26 (h.1 c1)) (fun c1 => w_f b26 d26_9 rfl rfl rfl <| w_gr b26 d26_10 rfl rfl hs (bxk hb 4 rfl) (tb4 hb) rfl (bxr hb 5 rfl) <| w_f b26 d26_13 rfl rfl rfl <| w_gi b26 d26_14 rfl rfl hs (bxk hb 4 rfl) (tb4 hb) rfl <| w_f b26 d26_17 rfl rfl rfl <| w_ias b26 d26_18 rfl hs (bxk hb 5 rfl) (tb5 hb) (bdix (n := 60) (h.2 c1).1 rfl) (h.2 c1).1 <| w_f b26 d26_19 rfl rfl rfl <| w_gr b26 d26_20 rfl rfl (Sh_sI hs (slt_a (tb5 hb))) (bxk hb 4 rfl) (tb4 hb) rfl (bxr hb 6 rfl) <| w_f b26 d26_23 rfl rfl rfl <| w_gi b26 d26_24 rfl rfl (Sh_sI hs (slt_a (tb5 hb))) (bxk hb 4 rfl) (tb4 hb) rfl <| w_f b26 d26_27 rfl rfl rfl <| w_ias b26 d26_28 rfl (Sh_sI hs (slt_a (tb5 hb))) (bxk hb 6 rfl) (tb6 hb) (bdix (n := 60) ((h.2 c1).2 _ rfl).1 rfl) ((h.2 c1).2 _ rfl).1 <| w_f b26 d26_29 rfl rfl rfl <| w_gr b26 d26_30 rfl rfl (Sh_sI (Sh_sI hs (slt_a (tb5 hb))) (slt_a (tb6 hb))) (bxk hb 4 rfl) (tb4 hb) rfl (bxr hb 7 rfl) <| w_f b26 d26_33 rfl rfl rfl <| w_gi b26 d26_34 rfl rfl (Sh_sI (Sh_sI hs (slt_a (tb5 hb))) (slt_a (tb6 hb))) (bxk hb 4 rfl) (tb4 hb) rfl <| w_f b26 d26_37 rfl rfl rfl <| w_ias b26 d26_38 rfl (Sh_sI (Sh_sI hs (slt_a (tb5 hb))) (slt_a (tb6 hb))) (bxk hb 7 rfl) (tb7 hb) (bdix (n := 60) (((h.2 c1).2 _ rfl).2 _ rfl).1 rfl) (((h.2 c1).2 _ rfl).2 _ rfl).1 <| w_f b26 d26_39 rfl rfl rfl <| w_f b26 d26_40 rfl rfl rfl <| w_gi b26 d26_41 rfl rfl (Sh_sI (Sh_sI (Sh_sI hs (slt_a (tb5 hb))) (slt_a (tb6 hb))) (slt_a (tb7 hb))) (bxk hb 4 rfl) (tb4 hb) rfl <| w_f b26 d26_44 rfl rfl rfl <| w_f b26 d26_45 rfl (pf_iadd _ 1) rfl <| w_pi b26 d26_46 rfl rfl (Sh_sI (Sh_sI (Sh_sI hs (slt_a (tb5 hb))) (slt_a (tb6 hb))) (slt_a (tb7 hb))) (bxk hb 4 rfl) (tb4 hb) rfl rfl rfl <| w_rv b26 d26_49 r26 (((((h.2 c1).2 _ rfl).2 _ rfl).2 _ rfl) _ rfl))
theorem e26 {w : PW} {Q : PO → PW → Prop} {b : Nat} {x1 : Int} {x2 : Int} {x3 : Int} (hs : Sh w) (hb : bx b) (hx1 : bd x1) (hx2 : bd x2) (hx3 : bd x3) (h : (60 ≤ (gI w (b + 4) 0) → Q (.inl none) w) ∧ ((gI w (b + 4) 0) < 60 → (0 ≤ (gI w (b + 4) 0) ∧ (gI w (b + 4) 0) < 60) ∧ ∀ w2 : PW, w2 = sI w (b + 5) (gI w (b + 4) 0).toNat x1 → (0 ≤ (gI w2 (b + 4) 0) ∧ (gI w2 (b + 4) 0) < 60) ∧ ∀ w3 : PW, w3 = sI w2 (b + 6) (gI w2 (b + 4) 0).toNat x2 → (0 ≤ (gI w3 (b + 4) 0) ∧ (gI w3 (b + 4) 0) < 60) ∧ ∀ w4 : PW, w4 = sI w3 (b + 7) (gI w3 (b + 4) 0).toNat x3 → ∀ w5 : PW, w5 = sI w4 (b + 4) 0 ((gI w4 (b + 4) 0) + 1) → Q (.inl none) w5)) : pC 26 [.ref (b + 4), iv x1, iv x2, iv x3] w Q :=
  (pC_in (Nat.le_of_ble_eq_true rfl) rfl Q).mpr (v26_0 hs hb hx1 hx2 hx3 h)
/-! 17: PinBarrel$Play.forgetTooth(I)V -/
theorem b17 : mB 17 = cX3_forgetTooth := rfl
theorem r17 : mR 17 = none := rfl
theorem p17 (a b : Nat) : phi 17 a ≤ phi 17 b := Nat.le_refl 0
theorem d17_0 : decode cX3_forgetTooth 0 = .ok (.aload_n 0, 1) := by decide +kernel
theorem d17_1 : decode cX3_forgetTooth 1 = .ok (.getfield 27, 3) := by decide +kernel
theorem d17_4 : decode cX3_forgetTooth 4 = .ok (.iload_n 1, 1) := by decide +kernel
theorem d17_5 : decode cX3_forgetTooth 5 = .ok (.iconst 0, 1) := by decide +kernel
theorem d17_6 : decode cX3_forgetTooth 6 = .ok (.iastore, 1) := by decide +kernel
theorem d17_7 : decode cX3_forgetTooth 7 = .ok (.aload_n 0, 1) := by decide +kernel
theorem d17_8 : decode cX3_forgetTooth 8 = .ok (.getfield 31, 3) := by decide +kernel
theorem d17_11 : decode cX3_forgetTooth 11 = .ok (.iload_n 1, 1) := by decide +kernel
theorem d17_12 : decode cX3_forgetTooth 12 = .ok (.iconst 0, 1) := by decide +kernel
theorem d17_13 : decode cX3_forgetTooth 13 = .ok (.iastore, 1) := by decide +kernel
theorem d17_14 : decode cX3_forgetTooth 14 = .ok (.aload_n 0, 1) := by decide +kernel
theorem d17_15 : decode cX3_forgetTooth 15 = .ok (.getfield 34, 3) := by decide +kernel
theorem d17_18 : decode cX3_forgetTooth 18 = .ok (.iload_n 1, 1) := by decide +kernel
theorem d17_19 : decode cX3_forgetTooth 19 = .ok (.iconst (-1), 1) := by decide +kernel
theorem d17_20 : decode cX3_forgetTooth 20 = .ok (.iastore, 1) := by decide +kernel
theorem d17_21 : decode cX3_forgetTooth 21 = .ok (.return_, 1) := by decide +kernel
theorem v17_0 {w : PW} {Q : PO → PW → Prop} {b : Nat} {x1 : Int} (hs : Sh w) (hb : bx b) (hx1 : bd x1) (h : (0 ≤ x1 ∧ x1 < 12) ∧ ∀ w1 : PW, w1 = sI w (b + 9) x1.toNat 0 → (0 ≤ x1 ∧ x1 < 12) ∧ ∀ w2 : PW, w2 = sI w1 (b + 10) x1.toNat 0 → (0 ≤ x1 ∧ x1 < 12) ∧ ∀ w3 : PW, w3 = sI w2 (b + 11) x1.toNat ((-1)) → Q (.inl none) w3) : pX 17 0 [some (.ref (b + 8)), some (iv x1)] [] w Q :=
  w_f b17 d17_0 rfl rfl rfl <| w_gr b17 d17_1 rfl rfl hs (bxk hb 8 rfl) (tb8 hb) rfl (bxr hb 9 rfl) <| w_f b17 d17_4 rfl rfl rfl <| w_f b17 d17_5 rfl rfl rfl <| w_ias b17 d17_6 rfl hs (bxk hb 9 rfl) (tb9 hb) (bdix (n := 12) h.1 rfl) h.1 <| w_f b17 d17_7 rfl rfl rfl <| w_gr b17 d17_8 rfl rfl (Sh_sI hs (slt_a (tb9 hb))) (bxk hb 8 rfl) (tb8 hb) rfl (bxr hb 10 rfl) <| w_f b17 d17_11 rfl rfl rfl <| w_f b17 d17_12 rfl rfl rfl <| w_ias b17 d17_13 rfl (Sh_sI hs (slt_a (tb9 hb))) (bxk hb 10 rfl) (tb10 hb) (bdix (n := 12) (h.2 _ rfl).1 rfl) (h.2 _ rfl).1 <| w_f b17 d17_14 rfl rfl rfl <| w_gr b17 d17_15 rfl rfl (Sh_sI (Sh_sI hs (slt_a (tb9 hb))) (slt_a (tb10 hb))) (bxk hb 8 rfl) (tb8 hb) rfl (bxr hb 11 rfl) <| w_f b17 d17_18 rfl rfl rfl <| w_f b17 d17_19 rfl rfl rfl <| w_ias b17 d17_20 rfl (Sh_sI (Sh_sI hs (slt_a (tb9 hb))) (slt_a (tb10 hb))) (bxk hb 11 rfl) (tb11 hb) (bdix (n := 12) ((h.2 _ rfl).2 _ rfl).1 rfl) ((h.2 _ rfl).2 _ rfl).1 <| w_rv b17 d17_21 r17 (((h.2 _ rfl).2 _ rfl).2 _ rfl)
theorem e17 {w : PW} {Q : PO → PW → Prop} {b : Nat} {x1 : Int} (hs : Sh w) (hb : bx b) (hx1 : bd x1) (h : (0 ≤ x1 ∧ x1 < 12) ∧ ∀ w1 : PW, w1 = sI w (b + 9) x1.toNat 0 → (0 ≤ x1 ∧ x1 < 12) ∧ ∀ w2 : PW, w2 = sI w1 (b + 10) x1.toNat 0 → (0 ≤ x1 ∧ x1 < 12) ∧ ∀ w3 : PW, w3 = sI w2 (b + 11) x1.toNat ((-1)) → Q (.inl none) w3) : pC 17 [.ref (b + 8), iv x1] w Q :=
  (pC_in (Nat.le_of_ble_eq_true rfl) rfl Q).mpr (v17_0 hs hb hx1 h)
/-! 24: PinBarrel$Box.putTooth(II)V -/
theorem b24 : mB 24 = cX0_putTooth := rfl
theorem r24 : mR 24 = none := rfl
theorem p24 (a b : Nat) : phi 24 a ≤ phi 24 b := Nat.le_refl 0
theorem d24_0 : decode cX0_putTooth 0 = .ok (.aload_n 0, 1) := by decide +kernel
theorem d24_1 : decode cX0_putTooth 1 = .ok (.getfield 24, 3) := by decide +kernel
theorem d24_4 : decode cX0_putTooth 4 = .ok (.bipush 12, 2) := by decide +kernel
theorem d24_6 : decode cX0_putTooth 6 = .ok (.if_icmp .ge 44, 3) := by decide +kernel
theorem d24_9 : decode cX0_putTooth 9 = .ok (.aload_n 0, 1) := by decide +kernel
theorem d24_10 : decode cX0_putTooth 10 = .ok (.getfield 27, 3) := by decide +kernel
theorem d24_13 : decode cX0_putTooth 13 = .ok (.aload_n 0, 1) := by decide +kernel
theorem d24_14 : decode cX0_putTooth 14 = .ok (.getfield 24, 3) := by decide +kernel
theorem d24_17 : decode cX0_putTooth 17 = .ok (.iload_n 1, 1) := by decide +kernel
theorem d24_18 : decode cX0_putTooth 18 = .ok (.iastore, 1) := by decide +kernel
theorem d24_19 : decode cX0_putTooth 19 = .ok (.aload_n 0, 1) := by decide +kernel
theorem d24_20 : decode cX0_putTooth 20 = .ok (.getfield 31, 3) := by decide +kernel
theorem d24_23 : decode cX0_putTooth 23 = .ok (.aload_n 0, 1) := by decide +kernel
theorem d24_24 : decode cX0_putTooth 24 = .ok (.getfield 24, 3) := by decide +kernel
theorem d24_27 : decode cX0_putTooth 27 = .ok (.iload_n 2, 1) := by decide +kernel
theorem d24_28 : decode cX0_putTooth 28 = .ok (.iastore, 1) := by decide +kernel
theorem d24_29 : decode cX0_putTooth 29 = .ok (.aload_n 0, 1) := by decide +kernel
theorem d24_30 : decode cX0_putTooth 30 = .ok (.getfield 48, 3) := by decide +kernel
theorem d24_33 : decode cX0_putTooth 33 = .ok (.aload_n 0, 1) := by decide +kernel
theorem d24_34 : decode cX0_putTooth 34 = .ok (.getfield 24, 3) := by decide +kernel
theorem d24_37 : decode cX0_putTooth 37 = .ok (.invokevirtual 77, 3) := by decide +kernel
theorem d24_40 : decode cX0_putTooth 40 = .ok (.aload_n 0, 1) := by decide +kernel
theorem d24_41 : decode cX0_putTooth 41 = .ok (.dup, 1) := by decide +kernel
theorem d24_42 : decode cX0_putTooth 42 = .ok (.getfield 24, 3) := by decide +kernel
theorem d24_45 : decode cX0_putTooth 45 = .ok (.iconst 1, 1) := by decide +kernel
theorem d24_46 : decode cX0_putTooth 46 = .ok (.iadd, 1) := by decide +kernel
theorem d24_47 : decode cX0_putTooth 47 = .ok (.putfield 24, 3) := by decide +kernel
theorem d24_50 : decode cX0_putTooth 50 = .ok (.return_, 1) := by decide +kernel
theorem v24_0 {w : PW} {Q : PO → PW → Prop} {b : Nat} {x1 : Int} {x2 : Int} (hs : Sh w) (hb : bx b) (hx1 : bd x1) (hx2 : bd x2) (h : (12 ≤ (gI w b 4) → Q (.inl none) w) ∧ ((gI w b 4) < 12 → (0 ≤ (gI w b 4) ∧ (gI w b 4) < 12) ∧ ∀ w2 : PW, w2 = sI w (b + 1) (gI w b 4).toNat x1 → (0 ≤ (gI w2 b 4) ∧ (gI w2 b 4) < 12) ∧ ∀ w3 : PW, w3 = sI w2 (b + 2) (gI w2 b 4).toNat x2 → pC 17 [.ref (b + 8), iv (gI w3 b 4)] w3 (kV fun w4 => Sh w4 ∧ ∀ w6 : PW, w6 = sI w4 b 4 ((gI w4 b 4) + 1) → Q (.inl none) w6))) : pX 24 0 [some (.ref b), some (iv x1), some (iv x2)] [] w Q :=
  w_f b24 d24_0 rfl rfl rfl <| w_gi b24 d24_1 rfl rfl hs (bx00 hb) (tb0 hb) rfl <| w_f b24 d24_4 rfl rfl rfl <| w_icge b24 d24_6 rfl rfl (p24 _ _) (bd_gI _ _ _) ⟨by decide, by decide⟩ (fun c1 => w_rv b24 d24_50 r24 (h.1 c1)) (fun c1 => w_f b24 d24_9 rfl rfl rfl <| w_gr b24 d24_10 rfl rfl hs (bx00 hb) (tb0 hb) rfl (bxr hb 1 rfl) <| w_f b24 d24_13 rfl rfl rfl <| w_gi b24 d24_14 rfl rfl hs (bx00 hb) (tb0 hb) rfl <| w_f b24 d24_17 rfl rfl rfl <| w_ias b24 d24_18 rfl hs (bxk hb 1 rfl) (tb1 hb) (bdix (n := 12) (h.2 c1).1 rfl) (h.2 c1).1 <| w_f b24 d24_19 rfl rfl rfl <| w_gr b24 d24_20 rfl rfl (Sh_sI hs (slt_a (tb1 hb))) (bx00 hb) (tb0 hb) rfl (bxr hb 2 rfl) <| w_f b24 d24_23 rfl rfl rfl <| w_gi b24 d24_24 rfl rfl (Sh_sI hs (slt_a (tb1 hb))) (bx00 hb) (tb0 hb) rfl <| w_f b24 d24_27 rfl rfl rfl <| w_ias b24 d24_28 rfl (Sh_sI hs (slt_a (tb1 hb))) (bxk hb 2 rfl) (tb2 hb) (bdix (n := 12) ((h.2 c1).2 _ rfl).1 rfl) ((h.2 c1).2 _ rfl).1 <| w_f b24 d24_29 rfl rfl rfl <| w_gr b24 d24_30 rfl rfl (Sh_sI (Sh_sI hs (slt_a (tb1 hb))) (slt_a (tb2 hb))) (bx00 hb) (tb0 hb) rfl (bxr hb 8 rfl) <| w_f b24 d24_33 rfl rfl rfl <| w_gi b24 d24_34 rfl rfl (Sh_sI (Sh_sI hs (slt_a (tb1 hb))) (slt_a (tb2 hb))) (bx00 hb) (tb0 hb) rfl <| w_c b24 d24_37 rfl (pcl_v (n := 1) rfl rfl rfl (by decide +kernel) (sh_isOb (Sh_sI (Sh_sI hs (slt_a (tb1 hb))) (slt_a (tb2 hb))) (bxk hb 8 rfl) (tb8 hb)) rfl rfl) rfl _ (hK_V fun w4 hkw4 => w_f b24 d24_40 rfl rfl rfl <| w_f b24 d24_41 rfl rfl rfl <| w_gi b24 d24_42 rfl rfl hkw4.1 (bx00 hb) (tb0 hb) rfl <| w_f b24 d24_45 rfl rfl rfl <| w_f b24 d24_46 rfl (pf_iadd _ 1) rfl <| w_pi b24 d24_47 rfl rfl hkw4.1 (bx00 hb) (tb0 hb) rfl rfl rfl <| w_rv b24 d24_50 r24 (hkw4.2 _ rfl)) (((h.2 c1).2 _ rfl).2 _ rfl))
theorem e24 {w : PW} {Q : PO → PW → Prop} {b : Nat} {x1 : Int} {x2 : Int} (hs : Sh w) (hb : bx b) (hx1 : bd x1) (hx2 : bd x2) (h : (12 ≤ (gI w b 4) → Q (.inl none) w) ∧ ((gI w b 4) < 12 → (0 ≤ (gI w b 4) ∧ (gI w b 4) < 12) ∧ ∀ w2 : PW, w2 = sI w (b + 1) (gI w b 4).toNat x1 → (0 ≤ (gI w2 b 4) ∧ (gI w2 b 4) < 12) ∧ ∀ w3 : PW, w3 = sI w2 (b + 2) (gI w2 b 4).toNat x2 → pC 17 [.ref (b + 8), iv (gI w3 b 4)] w3 (kV fun w4 => Sh w4 ∧ ∀ w6 : PW, w6 = sI w4 b 4 ((gI w4 b 4) + 1) → Q (.inl none) w6))) : pC 24 [.ref b, iv x1, iv x2] w Q :=
  (pC_in (Nat.le_of_ble_eq_true rfl) rfl Q).mpr (v24_0 hs hb hx1 hx2 h)
theorem l167_12 {w : PW} {Q : PO → PW → Prop} {b k0 : Nat} {m : Row} {w0 : PW} (hs : Sh w) (hB : BR w0 b m) (hk0 : (k0 : Int) < m 5) (h : ∀ w2, Sh w2 → (∀ c, ¬ (b + 4 ≤ c ∧ c ≤ b + 7) → w2.2.2 c = w0.2.2 c) → gI w2 (b + 4) 0 = m 5 - 1 → (∀ c j, 5 ≤ c → c ≤ 7 → gI w2 (b + c) j = if k0 ≤ j ∧ j < (m 5).toNat - 1 then gI w0 (b + c) (j + 1) else gI w0 (b + c) j) → Q (.inl none) w2) : ∀ k i : Nat, i + k = (m 5).toNat - 1 → k0 ≤ i → ∀ w1, Sh w1 → (∀ c, ¬ (b + 4 ≤ c ∧ c ≤ b + 7) → w1.2.2 c = w0.2.2 c) → gI w1 (b + 4) 0 = m 5 - 1 → (∀ c j, 5 ≤ c → c ≤ 7 → gI w1 (b + c) j = if k0 ≤ j ∧ j < i then gI w0 (b + c) (j + 1) else gI w0 (b + c) j) → pX 167 12 [some (.ref (b + 4)), some (iv (k0 : Nat)), some (iv (i : Nat))] [] w1 Q := by
  have h5 := hB.ok.n
  have a0 := bx_lt hB.bx
  intro k
  induction k with
  | zero =>
    intro i hi hki w1 s1 hO hN hV
    refine v167_12 s1 hB.bx (bdk (by omega)) (bdk (by omega)) ?_
    rw [hN]
    refine ⟨fun _ => h w1 s1 hO hN (fun c j h1 h2 => ?_), fun q => by omega⟩
    rw [hV c j h1 h2, show i = (m 5).toNat - 1 from by omega]
  | succ k ih =>
    intro i hi hki w1 s1 hO hN hV
    have hb1 : 0 ≤ (i : Int) + 1 ∧ (i : Int) + 1 < 60 := ⟨by omega, by omega⟩
    have hb2 : 0 ≤ (i : Int) ∧ (i : Int) < 60 := ⟨by omega, by omega⟩
    refine v167_12 s1 hB.bx (bdk (by omega)) (bdk (by omega)) ?_
    rw [hN]
    refine ⟨fun q => by omega, fun _ => ⟨hb1, hb2, fun w2 e2 => ⟨hb1, hb2, fun w3 e3 => ⟨hb1, hb2, fun w4 e4 => ?_⟩⟩⟩⟩
    obtain ⟨s2, g2, -, k2⟩ := stI e2 s1 (by omega) (slt_a (tb5 hB.bx)) (bd_gI _ _ _)
    obtain ⟨s3, g3, -, k3⟩ := stI e3 s2 (by omega) (slt_a (tb6 hB.bx)) (bd_gI _ _ _)
    obtain ⟨s4, g4, -, k4⟩ := stI e4 s3 (by omega) (slt_a (tb7 hB.bx)) (bd_gI _ _ _)
    refine ih (i + 1) (by omega) (by omega) w4 s4 (fun c hc => by rw [k4 c (by omega), k3 c (by omega), k2 c (by omega), hO c hc]) (by rw [g4, if_neg (by omega), g3, if_neg (by omega), g2, if_neg (by omega), hN]) (fun c j h1 h2 => ?_)
    have et : ((i : Int) + 1).toNat = i + 1 := by omega
    have e0 : (i : Int).toNat = i := Int.toNat_natCast i
    rw [et, e0] at g2 g3 g4
    have hV1 := hV c (i + 1) h1 h2
    rw [if_neg (by omega)] at hV1
    have hV2 := hV c j h1 h2
    have hc : c = 5 ∨ c = 6 ∨ c = 7 := by omega
    have p2 : ∀ c x, c ≠ 5 → gI w2 (b + c) x = gI w1 (b + c) x := fun c x hc => by rw [g2, if_neg (by omega)]
    have p3 : ∀ c x, c ≠ 6 → gI w3 (b + c) x = gI w2 (b + c) x := fun c x hc => by rw [g3, if_neg (by omega)]
    have p4 : ∀ c x, c ≠ 7 → gI w4 (b + c) x = gI w3 (b + c) x := fun c x hc => by rw [g4, if_neg (by omega)]
    have hval : gI w4 (b + c) j = if j = i then gI w0 (b + c) (i + 1) else gI w1 (b + c) j := by
      rcases hc with rfl | rfl | rfl
      · rw [p4 5 _ (by decide), p3 5 _ (by decide), g2]
        by_cases e : j = i
        · rw [if_pos ⟨rfl, e⟩, if_pos e, hV1]
        · rw [if_neg (fun z => e z.2), if_neg e]
      · rw [p4 6 _ (by decide), g3, p2 6 _ (by decide), p2 6 _ (by decide)]
        by_cases e : j = i
        · rw [if_pos ⟨rfl, e⟩, if_pos e, hV1]
        · rw [if_neg (fun z => e z.2), if_neg e]
      · rw [g4, p3 7 _ (by decide), p3 7 _ (by decide), p2 7 _ (by decide), p2 7 _ (by decide)]
        by_cases e : j = i
        · rw [if_pos ⟨rfl, e⟩, if_pos e, hV1]
        · rw [if_neg (fun z => e z.2), if_neg e]
    rw [hval, hV2]
    by_cases e : j = i
    · rw [if_pos e, if_pos (by omega), e]
    · rw [if_neg e]
      by_cases q : k0 ≤ j ∧ j < i
      · rw [if_pos q, if_pos (by omega)]
      · rw [if_neg q, if_neg (by omega)]
theorem c167 {w : PW} {Q : PO → PW → Prop} {b k0 : Nat} {m : Row} (hs : Sh w) (hB : BR w b m) (hk0 : (k0 : Int) < m 5) (h : ∀ w2, Sh w2 → BR w2 b (rDrop m k0) → OB b w w2 → Q (.inl none) w2) : pC 167 [.ref (b + 4), iv (k0 : Nat)] w Q := by
  have h5 := hB.ok.n
  have a0 := bx_lt hB.bx
  refine e167 hs hB.bx (bdk (by omega)) (fun w1 e1 => ?_)
  rw [hB.n] at e1
  obtain ⟨s1, g1, -, k1⟩ := stI e1 hs (by omega) (slt_o (tb4 hB.bx) rfl) ⟨by omega, by omega⟩
  refine l167_12 (w := w) hs hB hk0 (fun w2 s2 hO hN hV => h w2 s2 ?_ (fun c hc => hO c (by omega))) ((m 5).toNat - 1 - k0) k0 (by omega) (Nat.le_refl _) w1 s1 (fun c hc => k1 c (by omega)) (by rw [g1, if_pos ⟨rfl, rfl⟩]) (fun c j h1 h2 => by rw [g1, if_neg (by omega), if_neg (by omega)])
  have vv : ∀ a k, ¬ (b + 4 ≤ a ∧ a ≤ b + 7) → gI w2 a k = gI w a k := fun a k ha => gI_cell (hO a ha) k
  have l : ∀ j, j < 71 → j ≠ 5 → rDrop m k0 j = m j := fun j hj h5 => rDrop_lo hj h5
  refine ⟨hB.bx, rDrop_ok hB.ok hk0, ?_, fun t ht => ?_, ?_, fun i hi => ?_, ?_, fun k hk1 hk2 => ?_, fun j s hj hs => ?_⟩
  · rw [l 0 (by decide) (by decide), l 1 (by decide) (by decide), l 2 (by decide) (by decide), l 3 (by decide) (by decide), l 4 (by decide) (by decide), vv _ _ (by omega), vv _ _ (by omega), vv _ _ (by omega), vv _ _ (by omega), vv _ _ (by omega)]
    exact ⟨hB.s, hB.u, hB.g, hB.v, hB.t⟩
  · rw [l 4 (by decide) (by decide)] at ht
    have h4 := hB.ok.t
    have e : ∀ k, k < 5 → rT (rDrop m k0) t k = rT m t k := fun k _ => l _ (by omega) (by omega)
    rw [e 0 (by decide), e 1 (by decide), e 2 (by decide), e 3 (by decide), e 4 (by decide), vv _ _ (by omega), vv _ _ (by omega), vv _ _ (by omega), vv _ _ (by omega), vv _ _ (by omega)]
    exact hB.T ht
  · rw [rDrop_5, hN]
  · rw [rDrop_5] at hi
    rw [rDrop_N hi (by decide), rDrop_N hi (by decide), rDrop_N hi (by decide), hV 5 i (by decide) (by decide), hV 6 i (by decide) (by decide), hV 7 i (by decide) (by decide)]
    by_cases q : k0 ≤ i
    · have q2 : k0 ≤ i ∧ i < (m 5).toNat - 1 := ⟨q, by omega⟩
      simp only [if_pos q, if_pos q2]
      exact hB.N (by omega)
    · have q2 : ¬ (k0 ≤ i ∧ i < (m 5).toNat - 1) := fun z => q z.1
      simp only [if_neg q, if_neg q2]
      exact hB.N (by omega)
  · rw [l 6 (by decide) (by decide), l 7 (by decide) (by decide), l 8 (by decide) (by decide), l 9 (by decide) (by decide), l 10 (by decide) (by decide), vv _ _ (by omega), vv _ _ (by omega), vv _ _ (by omega), vv _ _ (by omega), vv _ _ (by omega)]
    exact ⟨hB.pu, hB.ps, hB.pt, hB.pp, hB.pb⟩
  · rw [l 9 (by decide) (by decide)] at hk2
    rw [vv _ _ (by omega), rDrop_hi hB.ok (by omega)]
    exact hB.M hk1 hk2
  · rw [gL_cell (hO (b + 3) (by omega)), hB.P hj hs]
    exact (rTr_eq hB.ok (l 0 (by decide) (by decide)) (l 1 (by decide) (by decide)) (l 4 (by decide) (by decide)) (fun v s t hv hs ht => by unfold rPin; rw [rDrop_hi hB.ok (by omega)]) j s).symm
theorem c26 {w : PW} {Q : PO → PW → Prop} {b : Nat} {m : Row} {u s p : Int} (hs : Sh w) (hB : BR w b m) (h60 : m 5 < 60) (hu : 0 ≤ u ∧ u < m 1) (hS : 0 ≤ s ∧ s < m 0) (hp : 0 ≤ p ∧ p < 24) (h : ∀ w2, Sh w2 → BR w2 b (rNote m u s p) → OB b w w2 → Q (.inl none) w2) : pC 26 [.ref (b + 4), iv u, iv s, iv p] w Q := by
  have h5 := hB.ok.n
  have h1 := hB.ok.u
  have h0 := hB.ok.s
  have hb := hB.bx
  have a0 := bx_lt hb
  have hb5 : 0 ≤ m 5 ∧ m 5 < 60 := ⟨h5.1, h60⟩
  refine e26 hs hb ⟨by omega, by omega⟩ ⟨by omega, by omega⟩ ⟨by omega, by omega⟩ ?_
  rw [hB.n]
  refine ⟨fun q => by omega, fun _ => ⟨hb5, fun w2 e2 => ?_⟩⟩
  obtain ⟨s2, g2, -, k2⟩ := stI e2 hs (by omega) (slt_a (tb5 hb)) ⟨by omega, by omega⟩
  rw [g2, if_neg (by omega), hB.n]
  refine ⟨hb5, fun w3 e3 => ?_⟩
  obtain ⟨s3, g3, -, k3⟩ := stI e3 s2 (by omega) (slt_a (tb6 hb)) ⟨by omega, by omega⟩
  rw [g3, if_neg (by omega), g2, if_neg (by omega), hB.n]
  refine ⟨hb5, fun w4 e4 w5 e5 => ?_⟩
  obtain ⟨s4, g4, -, k4⟩ := stI e4 s3 (by omega) (slt_a (tb7 hb)) ⟨by omega, by omega⟩
  rw [g4, if_neg (by omega), g3, if_neg (by omega), g2, if_neg (by omega), hB.n] at e5
  obtain ⟨s5, g5, -, k5⟩ := stI e5 s4 (by omega) (slt_o (tb4 hb) rfl) ⟨by omega, by omega⟩
  have hO : ∀ c, ¬ (b + 4 ≤ c ∧ c ≤ b + 7) → w5.2.2 c = w.2.2 c := fun c hc => by rw [k5 c (by omega), k4 c (by omega), k3 c (by omega), k2 c (by omega)]
  have vv : ∀ a k, ¬ (b + 4 ≤ a ∧ a ≤ b + 7) → gI w5 a k = gI w a k := fun a k ha => gI_cell (hO a ha) k
  have l : ∀ j, j < 71 → j ≠ 5 → rNote m u s p j = m j := fun j hj h5 => rNote_lo hj h5
  refine h w5 s5 ⟨hb, rNote_ok hB.ok h60 hu hS hp, ?_, fun t ht => ?_, ?_, fun i hi => ?_, ?_, fun k hk1 hk2 => ?_, fun j r hj hr => ?_⟩ (fun c hc => hO c (by omega))
  · rw [l 0 (by decide) (by decide), l 1 (by decide) (by decide), l 2 (by decide) (by decide), l 3 (by decide) (by decide), l 4 (by decide) (by decide), vv _ _ (by omega), vv _ _ (by omega), vv _ _ (by omega), vv _ _ (by omega), vv _ _ (by omega)]
    exact ⟨hB.s, hB.u, hB.g, hB.v, hB.t⟩
  · rw [l 4 (by decide) (by decide)] at ht
    have h4 := hB.ok.t
    have e : ∀ k, k < 5 → rT (rNote m u s p) t k = rT m t k := fun k _ => l _ (by omega) (by omega)
    rw [e 0 (by decide), e 1 (by decide), e 2 (by decide), e 3 (by decide), e 4 (by decide), vv _ _ (by omega), vv _ _ (by omega), vv _ _ (by omega), vv _ _ (by omega), vv _ _ (by omega)]
    exact hB.T ht
  · rw [rNote_5, g5, if_pos ⟨rfl, rfl⟩]
  · rw [rNote_5] at hi
    have r5 : gI w5 (b + 5) i = if i = (m 5).toNat then u else gI w (b + 5) i := by
      rw [g5, if_neg (by omega), g4, if_neg (by omega), g3, if_neg (by omega), g2]
      by_cases q : i = (m 5).toNat
      · rw [if_pos ⟨rfl, q⟩, if_pos q]
      · rw [if_neg (fun z => q z.2), if_neg q]
    have r6 : gI w5 (b + 6) i = if i = (m 5).toNat then s else gI w (b + 6) i := by
      rw [g5, if_neg (by omega), g4, if_neg (by omega), g3]
      by_cases q : i = (m 5).toNat
      · rw [if_pos ⟨rfl, q⟩, if_pos q]
      · rw [if_neg (fun z => q z.2), if_neg q, g2, if_neg (by omega)]
    have r7 : gI w5 (b + 7) i = if i = (m 5).toNat then p else gI w (b + 7) i := by
      rw [g5, if_neg (by omega), g4]
      by_cases q : i = (m 5).toNat
      · rw [if_pos ⟨rfl, q⟩, if_pos q]
      · rw [if_neg (fun z => q z.2), if_neg q, g3, if_neg (by omega), g2, if_neg (by omega)]
    rw [r5, r6, r7]
    by_cases q : i = (m 5).toNat
    · obtain ⟨n0, n1, n2⟩ := rNote_new (m := m) (u := u) (s := s) (p := p)
      rw [if_pos q, if_pos q, if_pos q, q, n0, n1, n2]
      exact ⟨rfl, rfl, rfl⟩
    · rw [if_neg q, if_neg q, if_neg q, rNote_N (by omega) (by decide), rNote_N (by omega) (by decide), rNote_N (by omega) (by decide)]
      exact hB.N (by omega)
  · rw [l 6 (by decide) (by decide), l 7 (by decide) (by decide), l 8 (by decide) (by decide), l 9 (by decide) (by decide), l 10 (by decide) (by decide), vv _ _ (by omega), vv _ _ (by omega), vv _ _ (by omega), vv _ _ (by omega), vv _ _ (by omega)]
    exact ⟨hB.pu, hB.ps, hB.pt, hB.pp, hB.pb⟩
  · rw [l 9 (by decide) (by decide)] at hk2
    rw [vv _ _ (by omega), rNote_hi h60 (by omega)]
    exact hB.M hk1 hk2
  · rw [gL_cell (hO (b + 3) (by omega)), hB.P hj hr]
    exact (rTr_eq hB.ok (l 0 (by decide) (by decide)) (l 1 (by decide) (by decide)) (l 4 (by decide) (by decide)) (fun v s t hv hs ht => by unfold rPin; rw [rNote_hi h60 (by omega)]) j r).symm

