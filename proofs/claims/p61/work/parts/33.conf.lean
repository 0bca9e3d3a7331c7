/-! CONFLICTS: the class -/
theorem cnt_gap {P : Nat → Bool} {a b : Nat} (h : a ≤ b) (hP : ∀ i, a ≤ i → i < b → P i = false) : cnt P a = cnt P b := by
  obtain ⟨k, rfl⟩ : ∃ k, b = a + k := ⟨b - a, by omega⟩
  rw [cnt_split, cnt_zero (n := k) (fun i hi => hP (a + i) (by omega) (by omega)), Nat.add_zero]
def wN (S s i : Nat) : Nat := if s + i < S then s + i else s + i - S
theorem wN_lt {S s i : Nat} (h1 : s < S) (h2 : i ≤ S) : wN S s i < S := by
  unfold wN
  split <;> omega
def sWay (m : Row) (u t s : Nat) : Nat := fnd (fun i => rPin m u (wN (m 0).toNat s (i + 1)) t) ((m 0).toNat - 1) + 1
def sNeed (m : Row) (t : Nat) : Int := rT m t 1 * m 3
def sShort (m : Row) (u t s : Nat) : Int := if rPin m u s t = true then max 0 (sNeed m t - (sWay m u t s : Nat)) else 0
def sCfP (m : Row) (u j : Nat) : Bool := decide (((j % 64 : Nat) : Int) < m 0) && decide (0 < sShort m u (j / 64) (j % 64))
theorem sWay_bd {m : Row} (h : RowOK m) (u t s : Nat) : 1 ≤ sWay m u t s ∧ (sWay m u t s : Int) ≤ m 0 := by
  have h0 := h.s
  have := (fnd_spec (fun i => rPin m u (wN (m 0).toNat s (i + 1)) t) ((m 0).toNat - 1)).1
  unfold sWay
  omega
theorem sNeed_bd {m : Row} (h : RowOK m) {t : Nat} (ht : (t : Int) < m 4) : 1 ≤ sNeed m t ∧ sNeed m t ≤ 48 := by
  have h1 := (h.T ht).2.1
  have h3 := h.v
  unfold sNeed
  have e1 : rT m t 1 * m 3 ≤ 12 * 4 := Int.mul_le_mul h1.2 h3.2 (by omega) (by decide)
  have e2 : 1 * 1 ≤ rT m t 1 * m 3 := Int.mul_le_mul h1.1 h3.1 (by decide) (by omega)
  omega
theorem sShort_bd {m : Row} (h : RowOK m) {u t s : Nat} (ht : (t : Int) < m 4) : 0 ≤ sShort m u t s ∧ sShort m u t s ≤ 48 := by
  have h1 := sNeed_bd h ht
  have h2 := sWay_bd h u t s
  unfold sShort
  split <;> omega
theorem sCfP_at {m : Row} {u t s : Nat} (hs : s < 64) : sCfP m u (64 * t + s) = (decide ((s : Int) < m 0) && decide (0 < sShort m u t s)) := by
  unfold sCfP
  rw [Nat.mul_add_mod, Nat.mod_eq_of_lt hs, Nat.mul_add_div (by decide), Nat.div_eq_of_lt hs, Nat.add_zero]
theorem sCfP_end {m : Row} (h : RowOK m) {u t : Nat} : cnt (sCfP m u) (64 * t + (m 0).toNat) = cnt (sCfP m u) (64 * (t + 1)) := by
  have h0 := h.s
  refine cnt_gap (by omega) (fun i h1 h2 => ?_)
  rw [show i = 64 * t + (i - 64 * t) from by omega, sCfP_at (by omega), decide_eq_false (by omega), Bool.false_and]
theorem BR.way {w : PW} {b : Nat} {m : Row} (h : BR w b m) {u t s : Nat} (hu : (u : Int) < m 1) (ht : (t : Int) < m 4) (hs : (s : Int) < m 0) : lWay (lP w b (m 1 * (t : Int) + (u : Int))) (s : Nat) (m 0) = (sWay m u t s : Nat) := by
  have h0 := h.ok.s
  unfold lWay sWay
  rw [show (m 0 - 1).toNat = (m 0).toNat - 1 from by omega]
  have e : fnd (fun i => tL (lP w b (m 1 * (t : Int) + (u : Int))) (wrp ((s : Int) + ((i + 1 : Nat) : Int)) (m 0)).toNat) ((m 0).toNat - 1) = fnd (fun i => rPin m u (wN (m 0).toNat s (i + 1)) t) ((m 0).toNat - 1) := by
    refine fnd_congr (fun i hi => ?_)
    have h1 : (wrp ((s : Int) + ((i + 1 : Nat) : Int)) (m 0)).toNat = wN (m 0).toNat s (i + 1) := by
      unfold wrp wN
      split <;> split <;> omega
    have h2 := wN_lt (S := (m 0).toNat) (s := s) (i := i + 1) (by omega) (by omega)
    rw [h1, h.bits hu (by omega), decide_eq_true ht, decide_eq_true (by omega)]
    rfl
  rw [e]
  rfl
theorem BR.need {w : PW} {b : Nat} {m : Row} (h : BR w b m) {t : Nat} (ht : (t : Int) < m 4) : gI w (b + 2) t * gI w b 3 = sNeed m t := by
  rw [(h.T ht).2.1, h.v]
  rfl
/-! 91: PinBarrel$Box.shortBy(III)I -/
theorem b91 : mB 91 = cX0_shortBy := rfl
theorem r91 : mR 91 = (some .int) := rfl
theorem p91 (a b : Nat) : phi 91 a ≤ phi 91 b := Nat.le_refl 0
theorem d91_0 : decode cX0_shortBy 0 = .ok (.aload_n 0, 1) := by decide +kernel
theorem d91_1 : decode cX0_shortBy 1 = .ok (.aload_n 0, 1) := by decide +kernel
theorem d91_2 : decode cX0_shortBy 2 = .ok (.iload_n 1, 1) := by decide +kernel
theorem d91_3 : decode cX0_shortBy 3 = .ok (.iload_n 2, 1) := by decide +kernel
theorem d91_4 : decode cX0_shortBy 4 = .ok (.invokevirtual 81, 3) := by decide +kernel
theorem d91_7 : decode cX0_shortBy 7 = .ok (.invokevirtual 85, 3) := by decide +kernel
theorem d91_10 : decode cX0_shortBy 10 = .ok (.lstore 4, 2) := by decide +kernel
theorem d91_12 : decode cX0_shortBy 12 = .ok (.lload 4, 2) := by decide +kernel
theorem d91_14 : decode cX0_shortBy 14 = .ok (.iload_n 3, 1) := by decide +kernel
theorem d91_15 : decode cX0_shortBy 15 = .ok (.invokestatic 89, 3) := by decide +kernel
theorem d91_18 : decode cX0_shortBy 18 = .ok (.ifCond .eq 26, 3) := by decide +kernel
theorem d91_21 : decode cX0_shortBy 21 = .ok (.iconst 0, 1) := by decide +kernel
theorem d91_22 : decode cX0_shortBy 22 = .ok (.aload_n 0, 1) := by decide +kernel
theorem d91_23 : decode cX0_shortBy 23 = .ok (.iload_n 2, 1) := by decide +kernel
theorem d91_24 : decode cX0_shortBy 24 = .ok (.invokevirtual 130, 3) := by decide +kernel
theorem d91_27 : decode cX0_shortBy 27 = .ok (.lload 4, 2) := by decide +kernel
theorem d91_29 : decode cX0_shortBy 29 = .ok (.iload_n 3, 1) := by decide +kernel
theorem d91_30 : decode cX0_shortBy 30 = .ok (.aload_n 0, 1) := by decide +kernel
theorem d91_31 : decode cX0_shortBy 31 = .ok (.getfield 9, 3) := by decide +kernel
theorem d91_34 : decode cX0_shortBy 34 = .ok (.invokestatic 123, 3) := by decide +kernel
theorem d91_37 : decode cX0_shortBy 37 = .ok (.isub, 1) := by decide +kernel
theorem d91_38 : decode cX0_shortBy 38 = .ok (.invokestatic 133, 3) := by decide +kernel
theorem d91_41 : decode cX0_shortBy 41 = .ok (.goto 4, 3) := by decide +kernel
theorem d91_44 : decode cX0_shortBy 44 = .ok (.iconst 0, 1) := by decide +kernel
theorem d91_45 : decode cX0_shortBy 45 = .ok (.ireturn, 1) := by decide +kernel
theorem v91_0 {w : PW} {Q : PO → PW → Prop} {b : Nat} {x1 : Int} {x2 : Int} {x3 : Int} (hs : Sh w) (hb : bx b) (hx1 : bd x1) (hx2 : bd x2) (hx3 : bd x3) (h : (bd ((gI w b 1) * x2 + x1)) ∧ (0 ≤ x3 ∧ x3 < 64) ∧ ((¬ (tL (lP w b ((gI w b 1) * x2 + x1)) (x3).toNat = true)) → Q (.inl (some (iv 0))) w) ∧ ((tL (lP w b ((gI w b 1) * x2 + x1)) (x3).toNat = true) → (0 ≤ x2 ∧ x2 < 12) ∧ (0 ≤ x3 ∧ x3 < (gI w b 0) ∧ (gI w b 0) ≤ 64) ∧ (bd (((gI w (b + 2) (x2).toNat) * (gI w b 3)) - (lWay (lP w b ((gI w b 1) * x2 + x1)) x3 (gI w b 0)))) ∧ Q (.inl (some (iv (max 0 (((gI w (b + 2) (x2).toNat) * (gI w b 3)) - (lWay (lP w b ((gI w b 1) * x2 + x1)) x3 (gI w b 0))))))) w)) : pX 91 0 [some (.ref b), some (iv x1), some (iv x2), some (iv x3), none, none] [] w Q :=
  w_f b91 d91_0 rfl rfl rfl <| w_f b91 d91_1 rfl rfl rfl <| w_f b91 d91_2 rfl rfl rfl <| w_f b91 d91_3 rfl rfl rfl <| w_cc b91 d91_4 rfl (pcl_v (n := 2) rfl rfl rfl (by decide +kernel) (sh_isOb hs (bx00 hb) (tb0 hb)) rfl rfl) rfl <| c28 hs hb hx1 hx2 <| w_cc b91 d91_7 rfl (pcl_v (n := 1) rfl rfl rfl (by decide +kernel) (sh_isOb hs (bx00 hb) (tb0 hb)) rfl rfl) rfl <| c29 hs hb h.1 <| w_f b91 d91_10 rfl rfl rfl <| w_f b91 d91_12 rfl rfl rfl <| w_f b91 d91_14 rfl rfl rfl <| w_cc b91 d91_15 rfl (pcl_s1 (n := 2) rfl rfl rfl (by decide +kernel) rfl rfl) rfl <| c42 hs hx3 h.2.1 <| w_ifeqZ b91 d91_18 rfl rfl (p91 _ _) (fun c1 => w_f b91 d91_44 rfl rfl rfl <| w_ri b91 d91_45 r91 (h.2.2.1 c1)) (fun c1 => w_f b91 d91_21 rfl rfl rfl <| w_f b91 d91_22 rfl rfl rfl <| w_f b91 d91_23 rfl rfl rfl <| w_cc b91 d91_24 rfl (pcl_v (n := 1) rfl rfl rfl (by decide +kernel) (sh_isOb hs (bx00 hb) (tb0 hb)) rfl rfl) rfl <| c44 hs hb hx2 (h.2.2.2 c1).1 <| w_f b91 d91_27 rfl rfl rfl <| w_f b91 d91_29 rfl rfl rfl <| w_f b91 d91_30 rfl rfl rfl <| w_gi b91 d91_31 rfl rfl hs (bx00 hb) (tb0 hb) rfl <| w_cc b91 d91_34 rfl (pcl_s1 (n := 3) rfl rfl rfl (by decide +kernel) rfl rfl) rfl <| c90 hs hx3 (bd_gI _ _ _) (h.2.2.2 c1).2.1 <| w_f b91 d91_37 rfl (pf_isub ((gI w (b + 2) (x2).toNat) * (gI w b 3)) (lWay (lP w b ((gI w b 1) * x2 + x1)) x3 (gI w b 0))) rfl <| w_max b91 d91_38 rfl rfl rfl ⟨by decide, by decide⟩ (h.2.2.2 c1).2.2.1 <| w_j b91 d91_41 rfl (p91 _ _) <| w_ri b91 d91_45 r91 (h.2.2.2 c1).2.2.2)
theorem e91 {w : PW} {Q : PO → PW → Prop} {b : Nat} {x1 : Int} {x2 : Int} {x3 : Int} (hs : Sh w) (hb : bx b) (hx1 : bd x1) (hx2 : bd x2) (hx3 : bd x3) (h : (bd ((gI w b 1) * x2 + x1)) ∧ (0 ≤ x3 ∧ x3 < 64) ∧ ((¬ (tL (lP w b ((gI w b 1) * x2 + x1)) (x3).toNat = true)) → Q (.inl (some (iv 0))) w) ∧ ((tL (lP w b ((gI w b 1) * x2 + x1)) (x3).toNat = true) → (0 ≤ x2 ∧ x2 < 12) ∧ (0 ≤ x3 ∧ x3 < (gI w b 0) ∧ (gI w b 0) ≤ 64) ∧ (bd (((gI w (b + 2) (x2).toNat) * (gI w b 3)) - (lWay (lP w b ((gI w b 1) * x2 + x1)) x3 (gI w b 0)))) ∧ Q (.inl (some (iv (max 0 (((gI w (b + 2) (x2).toNat) * (gI w b 3)) - (lWay (lP w b ((gI w b 1) * x2 + x1)) x3 (gI w b 0))))))) w)) : pC 91 [.ref b, iv x1, iv x2, iv x3] w Q :=
  (pC_in (Nat.le_of_ble_eq_true rfl) rfl Q).mpr (v91_0 hs hb hx1 hx2 hx3 h)
/-! 96: PinBarrel$Box.nextPin(III)I -/
theorem b96 : mB 96 = cX0_nextPin := rfl
theorem r96 : mR 96 = (some .int) := rfl
theorem p96 (a b : Nat) : phi 96 a ≤ phi 96 b := Nat.le_refl 0
theorem d96_0 : decode cX0_nextPin 0 = .ok (.aload_n 0, 1) := by decide +kernel
theorem d96_1 : decode cX0_nextPin 1 = .ok (.aload_n 0, 1) := by decide +kernel
theorem d96_2 : decode cX0_nextPin 2 = .ok (.iload_n 1, 1) := by decide +kernel
theorem d96_3 : decode cX0_nextPin 3 = .ok (.iload_n 2, 1) := by decide +kernel
theorem d96_4 : decode cX0_nextPin 4 = .ok (.invokevirtual 81, 3) := by decide +kernel
theorem d96_7 : decode cX0_nextPin 7 = .ok (.invokevirtual 85, 3) := by decide +kernel
theorem d96_10 : decode cX0_nextPin 10 = .ok (.iload_n 3, 1) := by decide +kernel
theorem d96_11 : decode cX0_nextPin 11 = .ok (.aload_n 0, 1) := by decide +kernel
theorem d96_12 : decode cX0_nextPin 12 = .ok (.getfield 9, 3) := by decide +kernel
theorem d96_15 : decode cX0_nextPin 15 = .ok (.invokestatic 123, 3) := by decide +kernel
theorem d96_18 : decode cX0_nextPin 18 = .ok (.istore 4, 2) := by decide +kernel
theorem d96_20 : decode cX0_nextPin 20 = .ok (.iload_n 3, 1) := by decide +kernel
theorem d96_21 : decode cX0_nextPin 21 = .ok (.iload 4, 2) := by decide +kernel
theorem d96_23 : decode cX0_nextPin 23 = .ok (.iadd, 1) := by decide +kernel
theorem d96_24 : decode cX0_nextPin 24 = .ok (.aload_n 0, 1) := by decide +kernel
theorem d96_25 : decode cX0_nextPin 25 = .ok (.getfield 9, 3) := by decide +kernel
theorem d96_28 : decode cX0_nextPin 28 = .ok (.invokestatic 127, 3) := by decide +kernel
theorem d96_31 : decode cX0_nextPin 31 = .ok (.ireturn, 1) := by decide +kernel
theorem v96_0 {w : PW} {Q : PO → PW → Prop} {b : Nat} {x1 : Int} {x2 : Int} {x3 : Int} (hs : Sh w) (hb : bx b) (hx1 : bd x1) (hx2 : bd x2) (hx3 : bd x3) (h : (bd ((gI w b 1) * x2 + x1)) ∧ (0 ≤ x3 ∧ x3 < (gI w b 0) ∧ (gI w b 0) ≤ 64) ∧ (bd (x3 + (lWay (lP w b ((gI w b 1) * x2 + x1)) x3 (gI w b 0)))) ∧ Q (.inl (some (iv (wrp (x3 + (lWay (lP w b ((gI w b 1) * x2 + x1)) x3 (gI w b 0))) (gI w b 0))))) w) : pX 96 0 [some (.ref b), some (iv x1), some (iv x2), some (iv x3), none] [] w Q :=
  w_f b96 d96_0 rfl rfl rfl <| w_f b96 d96_1 rfl rfl rfl <| w_f b96 d96_2 rfl rfl rfl <| w_f b96 d96_3 rfl rfl rfl <| w_cc b96 d96_4 rfl (pcl_v (n := 2) rfl rfl rfl (by decide +kernel) (sh_isOb hs (bx00 hb) (tb0 hb)) rfl rfl) rfl <| c28 hs hb hx1 hx2 <| w_cc b96 d96_7 rfl (pcl_v (n := 1) rfl rfl rfl (by decide +kernel) (sh_isOb hs (bx00 hb) (tb0 hb)) rfl rfl) rfl <| c29 hs hb h.1 <| w_f b96 d96_10 rfl rfl rfl <| w_f b96 d96_11 rfl rfl rfl <| w_gi b96 d96_12 rfl rfl hs (bx00 hb) (tb0 hb) rfl <| w_cc b96 d96_15 rfl (pcl_s1 (n := 3) rfl rfl rfl (by decide +kernel) rfl rfl) rfl <| c90 hs hx3 (bd_gI _ _ _) h.2.1 <| w_f b96 d96_18 rfl rfl rfl <| w_f b96 d96_20 rfl rfl rfl <| w_f b96 d96_21 rfl rfl rfl <| w_f b96 d96_23 rfl (pf_iadd x3 (lWay (lP w b ((gI w b 1) * x2 + x1)) x3 (gI w b 0))) rfl <| w_f b96 d96_24 rfl rfl rfl <| w_gi b96 d96_25 rfl rfl hs (bx00 hb) (tb0 hb) rfl <| w_cc b96 d96_28 rfl (pcl_s1 (n := 2) rfl rfl rfl (by decide +kernel) rfl rfl) rfl <| c47 hs h.2.2.1 (bd_gI _ _ _) <| w_ri b96 d96_31 r96 h.2.2.2
theorem e96 {w : PW} {Q : PO → PW → Prop} {b : Nat} {x1 : Int} {x2 : Int} {x3 : Int} (hs : Sh w) (hb : bx b) (hx1 : bd x1) (hx2 : bd x2) (hx3 : bd x3) (h : (bd ((gI w b 1) * x2 + x1)) ∧ (0 ≤ x3 ∧ x3 < (gI w b 0) ∧ (gI w b 0) ≤ 64) ∧ (bd (x3 + (lWay (lP w b ((gI w b 1) * x2 + x1)) x3 (gI w b 0)))) ∧ Q (.inl (some (iv (wrp (x3 + (lWay (lP w b ((gI w b 1) * x2 + x1)) x3 (gI w b 0))) (gI w b 0))))) w) : pC 96 [.ref b, iv x1, iv x2, iv x3] w Q :=
  (pC_in (Nat.le_of_ble_eq_true rfl) rfl Q).mpr (v96_0 hs hb hx1 hx2 hx3 h)
theorem c91 {w : PW} {Q : PO → PW → Prop} {b u t s : Nat} {m : Row} (hs : Sh w) (hB : BR w b m) (hu : (u : Int) < m 1) (ht : (t : Int) < m 4) (hS : (s : Int) < m 0) (h : Q (.inl (some (iv (sShort m u t s)))) w) : pC 91 [.ref b, iv (u : Nat), iv (t : Nat), iv (s : Nat)] w Q := by
  have h0 := hB.ok.s
  have h1 := hB.ok.u
  have h4 := hB.ok.t
  have n1 := sNeed_bd hB.ok ht
  have n2 := sWay_bd hB.ok u t s
  have hp := hB.pin (u := (u : Nat)) (s := (s : Nat)) ⟨by omega, hu⟩ ⟨by omega, hS⟩ ht
  rw [Int.toNat_natCast, Int.toNat_natCast] at hp
  refine e91 hs hB.bx (bdk (by omega)) (bdk (by omega)) (bdk (by omega)) ?_
  rw [hB.u, hB.s, Int.toNat_natCast, Int.toNat_natCast, hB.way hu ht hS, hB.need ht, hp]
  unfold sShort at h
  refine ⟨hB.tb ⟨by omega, hu⟩ (by omega), ⟨by omega, by omega⟩, fun q => ?_, fun q => ⟨⟨by omega, by omega⟩, ⟨by omega, by omega, by omega⟩, ⟨by omega, by omega⟩, ?_⟩⟩
  · rw [if_neg q] at h; exact h
  · rw [if_pos q] at h; exact h
theorem c96 {w : PW} {Q : PO → PW → Prop} {b u t s : Nat} {m : Row} (hs : Sh w) (hB : BR w b m) (hu : (u : Int) < m 1) (ht : (t : Int) < m 4) (hS : (s : Int) < m 0) (h : Q (.inl (some (iv (wN (m 0).toNat s (sWay m u t s) : Nat)))) w) : pC 96 [.ref b, iv (u : Nat), iv (t : Nat), iv (s : Nat)] w Q := by
  have h0 := hB.ok.s
  have h1 := hB.ok.u
  have h4 := hB.ok.t
  have n2 := sWay_bd hB.ok u t s
  refine e96 hs hB.bx (bdk (by omega)) (bdk (by omega)) (bdk (by omega)) ?_
  rw [hB.u, hB.s, hB.way hu ht hS]
  refine ⟨hB.tb ⟨by omega, hu⟩ (by omega), ⟨by omega, by omega, by omega⟩, ⟨by omega, by omega⟩, ?_⟩
  have e : wrp ((s : Int) + (sWay m u t s : Nat)) (m 0) = (wN (m 0).toNat s (sWay m u t s) : Nat) := by
    unfold wrp wN
    split <;> split <;> omega
  rw [e]
  exact h
/-! 92: PinBarrel$Box.countConflicts(I)I -/
theorem b92 : mB 92 = cX0_countConflicts := rfl
theorem r92 : mR 92 = (some .int) := rfl
theorem p92 (a b : Nat) : phi 92 a ≤ phi 92 b := Nat.le_refl 0
theorem d92_0 : decode cX0_countConflicts 0 = .ok (.iconst 0, 1) := by decide +kernel
theorem d92_1 : decode cX0_countConflicts 1 = .ok (.istore_n 2, 1) := by decide +kernel
theorem d92_2 : decode cX0_countConflicts 2 = .ok (.iconst 0, 1) := by decide +kernel
theorem d92_3 : decode cX0_countConflicts 3 = .ok (.istore_n 3, 1) := by decide +kernel
theorem d92_4 : decode cX0_countConflicts 4 = .ok (.iload_n 3, 1) := by decide +kernel
theorem d92_5 : decode cX0_countConflicts 5 = .ok (.aload_n 0, 1) := by decide +kernel
theorem d92_6 : decode cX0_countConflicts 6 = .ok (.getfield 24, 3) := by decide +kernel
theorem d92_9 : decode cX0_countConflicts 9 = .ok (.if_icmp .ge 41, 3) := by decide +kernel
theorem d92_12 : decode cX0_countConflicts 12 = .ok (.iconst 0, 1) := by decide +kernel
theorem d92_13 : decode cX0_countConflicts 13 = .ok (.istore 4, 2) := by decide +kernel
theorem d92_15 : decode cX0_countConflicts 15 = .ok (.iload 4, 2) := by decide +kernel
theorem d92_17 : decode cX0_countConflicts 17 = .ok (.aload_n 0, 1) := by decide +kernel
theorem d92_18 : decode cX0_countConflicts 18 = .ok (.getfield 9, 3) := by decide +kernel
theorem d92_21 : decode cX0_countConflicts 21 = .ok (.if_icmp .ge 23, 3) := by decide +kernel
theorem d92_24 : decode cX0_countConflicts 24 = .ok (.aload_n 0, 1) := by decide +kernel
theorem d92_25 : decode cX0_countConflicts 25 = .ok (.iload_n 1, 1) := by decide +kernel
theorem d92_26 : decode cX0_countConflicts 26 = .ok (.iload_n 3, 1) := by decide +kernel
theorem d92_27 : decode cX0_countConflicts 27 = .ok (.iload 4, 2) := by decide +kernel
theorem d92_29 : decode cX0_countConflicts 29 = .ok (.invokevirtual 138, 3) := by decide +kernel
theorem d92_32 : decode cX0_countConflicts 32 = .ok (.ifCond .le 6, 3) := by decide +kernel
theorem d92_35 : decode cX0_countConflicts 35 = .ok (.iinc 2 1, 3) := by decide +kernel
theorem d92_38 : decode cX0_countConflicts 38 = .ok (.iinc 4 1, 3) := by decide +kernel
theorem d92_41 : decode cX0_countConflicts 41 = .ok (.goto (-26), 3) := by decide +kernel
theorem d92_44 : decode cX0_countConflicts 44 = .ok (.iinc 3 1, 3) := by decide +kernel
theorem d92_47 : decode cX0_countConflicts 47 = .ok (.goto (-43), 3) := by decide +kernel
theorem d92_50 : decode cX0_countConflicts 50 = .ok (.iload_n 2, 1) := by decide +kernel
theorem d92_51 : decode cX0_countConflicts 51 = .ok (.ireturn, 1) := by decide +kernel
theorem v92_0 {w : PW} {Q : PO → PW → Prop} {b : Nat} {x1 : Int} (hs : Sh w) (hb : bx b) (hx1 : bd x1) (h : pX 92 4 [some (.ref b), some (iv x1), some (iv 0), some (iv 0), none] [] w Q) : pX 92 0 [some (.ref b), some (iv x1), none, none, none] [] w Q :=
  w_f b92 d92_0 rfl rfl rfl <| w_f b92 d92_1 rfl rfl rfl <| w_f b92 d92_2 rfl rfl rfl <| w_f b92 d92_3 rfl rfl rfl <| h
theorem e92 {w : PW} {Q : PO → PW → Prop} {b : Nat} {x1 : Int} (hs : Sh w) (hb : bx b) (hx1 : bd x1) (h : pX 92 4 [some (.ref b), some (iv x1), some (iv 0), some (iv 0), none] [] w Q) : pC 92 [.ref b, iv x1] w Q :=
  (pC_in (Nat.le_of_ble_eq_true rfl) rfl Q).mpr (v92_0 hs hb hx1 h)
theorem v92_4 {w : PW} {Q : PO → PW → Prop} {b : Nat} {x1 : Int} {x2 : Int} {x3 : Int} {o4 : Option Value} (hs : Sh w) (hb : bx b) (hx1 : bd x1) (hx2 : bd x2) (hx3 : bd x3) (ho4 : pc2 o4 = false) (h : ((gI w b 4) ≤ x3 → Q (.inl (some (iv x2))) w) ∧ (x3 < (gI w b 4) → pX 92 15 [some (.ref b), some (iv x1), some (iv x2), some (iv x3), some (iv 0)] [] w Q)) : pX 92 4 [some (.ref b), some (iv x1), some (iv x2), some (iv x3), o4] [] w Q :=
  w_f b92 d92_4 rfl rfl rfl <| w_f b92 d92_5 rfl rfl rfl <| w_gi b92 d92_6 rfl rfl hs (bx00 hb) (tb0 hb) rfl <| w_icge b92 d92_9 rfl rfl (p92 _ _) hx3 (bd_gI _ _ _) (fun c1 => w_f b92 d92_50 rfl rfl rfl <| w_ri b92 d92_51 r92 (h.1 c1)) (fun c1 => w_f b92 d92_12 rfl rfl rfl <| w_f b92 d92_13 rfl rfl rfl <| (h.2 c1))
theorem v92_15 {w : PW} {Q : PO → PW → Prop} {b : Nat} {x1 : Int} {x2 : Int} {x3 : Int} {x4 : Int} (hs : Sh w) (hb : bx b) (hx1 : bd x1) (hx2 : bd x2) (hx3 : bd x3) (hx4 : bd x4) (h : ((gI w b 0) ≤ x4 → pX 92 4 [some (.ref b), some (iv x1), some (iv x2), some (iv (x3 + 1)), some (iv x4)] [] w Q) ∧ (x4 < (gI w b 0) → pC 91 [.ref b, iv x1, iv x3, iv x4] w (kI fun u3 w2 => Sh w2 ∧ (u3 ≤ 0 → pX 92 15 [some (.ref b), some (iv x1), some (iv x2), some (iv x3), some (iv (x4 + 1))] [] w2 Q) ∧ (0 < u3 → pX 92 15 [some (.ref b), some (iv x1), some (iv (x2 + 1)), some (iv x3), some (iv (x4 + 1))] [] w2 Q)))) : pX 92 15 [some (.ref b), some (iv x1), some (iv x2), some (iv x3), some (iv x4)] [] w Q :=
  w_f b92 d92_15 rfl rfl rfl <| w_f b92 d92_17 rfl rfl rfl <| w_gi b92 d92_18 rfl rfl hs (bx00 hb) (tb0 hb) rfl <| w_icge b92 d92_21 rfl rfl (p92 _ _) hx4 (bd_gI _ _ _) (fun c1 => w_f b92 d92_44 rfl (pf_iinc rfl rfl) rfl <| w_j b92 d92_47 rfl (p92 _ _) <| (h.1 c1)) (fun c1 => w_f b92 d92_24 rfl rfl rfl <| w_f b92 d92_25 rfl rfl rfl <| w_f b92 d92_26 rfl rfl rfl <| w_f b92 d92_27 rfl rfl rfl <| w_c b92 d92_29 rfl (pcl_v (n := 3) rfl rfl rfl (by decide +kernel) (sh_isOb hs (bx00 hb) (tb0 hb)) rfl rfl) rfl _ (hK_I fun u3 w2 hbu3 hkw2 => w_ifle b92 d92_32 rfl rfl (p92 _ _) hbu3 (fun c4 => w_f b92 d92_38 rfl (pf_iinc rfl rfl) rfl <| w_j b92 d92_41 rfl (p92 _ _) <| (hkw2.2.1 c4)) (fun c4 => w_f b92 d92_35 rfl (pf_iinc rfl rfl) rfl <| w_f b92 d92_38 rfl (pf_iinc rfl rfl) rfl <| w_j b92 d92_41 rfl (p92 _ _) <| (hkw2.2.2 c4))) (h.2 c1))
/-! 95: PinBarrel$Box.placeOfConflict(II)I -/
theorem b95 : mB 95 = cX0_placeOfConflict := rfl
theorem r95 : mR 95 = (some .int) := rfl
theorem p95 (a b : Nat) : phi 95 a ≤ phi 95 b := Nat.le_refl 0
theorem d95_0 : decode cX0_placeOfConflict 0 = .ok (.iload_n 2, 1) := by decide +kernel
theorem d95_1 : decode cX0_placeOfConflict 1 = .ok (.istore_n 3, 1) := by decide +kernel
theorem d95_2 : decode cX0_placeOfConflict 2 = .ok (.iconst 0, 1) := by decide +kernel
theorem d95_3 : decode cX0_placeOfConflict 3 = .ok (.istore 4, 2) := by decide +kernel
theorem d95_5 : decode cX0_placeOfConflict 5 = .ok (.iload 4, 2) := by decide +kernel
theorem d95_7 : decode cX0_placeOfConflict 7 = .ok (.aload_n 0, 1) := by decide +kernel
theorem d95_8 : decode cX0_placeOfConflict 8 = .ok (.getfield 24, 3) := by decide +kernel
theorem d95_11 : decode cX0_placeOfConflict 11 = .ok (.if_icmp .ge 59, 3) := by decide +kernel
theorem d95_14 : decode cX0_placeOfConflict 14 = .ok (.iload_n 3, 1) := by decide +kernel
theorem d95_15 : decode cX0_placeOfConflict 15 = .ok (.ifCond .lt 55, 3) := by decide +kernel
theorem d95_18 : decode cX0_placeOfConflict 18 = .ok (.iconst 0, 1) := by decide +kernel
theorem d95_19 : decode cX0_placeOfConflict 19 = .ok (.istore 5, 2) := by decide +kernel
theorem d95_21 : decode cX0_placeOfConflict 21 = .ok (.iload 5, 2) := by decide +kernel
theorem d95_23 : decode cX0_placeOfConflict 23 = .ok (.aload_n 0, 1) := by decide +kernel
theorem d95_24 : decode cX0_placeOfConflict 24 = .ok (.getfield 9, 3) := by decide +kernel
theorem d95_27 : decode cX0_placeOfConflict 27 = .ok (.if_icmp .ge 37, 3) := by decide +kernel
theorem d95_30 : decode cX0_placeOfConflict 30 = .ok (.aload_n 0, 1) := by decide +kernel
theorem d95_31 : decode cX0_placeOfConflict 31 = .ok (.iload_n 1, 1) := by decide +kernel
theorem d95_32 : decode cX0_placeOfConflict 32 = .ok (.iload 4, 2) := by decide +kernel
theorem d95_34 : decode cX0_placeOfConflict 34 = .ok (.iload 5, 2) := by decide +kernel
theorem d95_36 : decode cX0_placeOfConflict 36 = .ok (.invokevirtual 138, 3) := by decide +kernel
theorem d95_39 : decode cX0_placeOfConflict 39 = .ok (.ifCond .le 19, 3) := by decide +kernel
theorem d95_42 : decode cX0_placeOfConflict 42 = .ok (.iload_n 3, 1) := by decide +kernel
theorem d95_43 : decode cX0_placeOfConflict 43 = .ok (.ifCond .ne 12, 3) := by decide +kernel
theorem d95_46 : decode cX0_placeOfConflict 46 = .ok (.bipush 64, 2) := by decide +kernel
theorem d95_48 : decode cX0_placeOfConflict 48 = .ok (.iload 4, 2) := by decide +kernel
theorem d95_50 : decode cX0_placeOfConflict 50 = .ok (.imul, 1) := by decide +kernel
theorem d95_51 : decode cX0_placeOfConflict 51 = .ok (.iload 5, 2) := by decide +kernel
theorem d95_53 : decode cX0_placeOfConflict 53 = .ok (.iadd, 1) := by decide +kernel
theorem d95_54 : decode cX0_placeOfConflict 54 = .ok (.ireturn, 1) := by decide +kernel
theorem d95_55 : decode cX0_placeOfConflict 55 = .ok (.iinc 3 (-1), 3) := by decide +kernel
theorem d95_58 : decode cX0_placeOfConflict 58 = .ok (.iinc 5 1, 3) := by decide +kernel
theorem d95_61 : decode cX0_placeOfConflict 61 = .ok (.goto (-40), 3) := by decide +kernel
theorem d95_64 : decode cX0_placeOfConflict 64 = .ok (.iinc 4 1, 3) := by decide +kernel
theorem d95_67 : decode cX0_placeOfConflict 67 = .ok (.goto (-62), 3) := by decide +kernel
theorem d95_70 : decode cX0_placeOfConflict 70 = .ok (.iconst (-1), 1) := by decide +kernel
theorem d95_71 : decode cX0_placeOfConflict 71 = .ok (.ireturn, 1) := by decide +kernel
theorem v95_0 {w : PW} {Q : PO → PW → Prop} {b : Nat} {x1 : Int} {x2 : Int} (hs : Sh w) (hb : bx b) (hx1 : bd x1) (hx2 : bd x2) (h : pX 95 5 [some (.ref b), some (iv x1), some (iv x2), some (iv x2), some (iv 0), none] [] w Q) : pX 95 0 [some (.ref b), some (iv x1), some (iv x2), none, none, none] [] w Q :=
  w_f b95 d95_0 rfl rfl rfl <| w_f b95 d95_1 rfl rfl rfl <| w_f b95 d95_2 rfl rfl rfl <| w_f b95 d95_3 rfl rfl rfl <| h
theorem e95 {w : PW} {Q : PO → PW → Prop} {b : Nat} {x1 : Int} {x2 : Int} (hs : Sh w) (hb : bx b) (hx1 : bd x1) (hx2 : bd x2) (h : pX 95 5 [some (.ref b), some (iv x1), some (iv x2), some (iv x2), some (iv 0), none] [] w Q) : pC 95 [.ref b, iv x1, iv x2] w Q :=
  (pC_in (Nat.le_of_ble_eq_true rfl) rfl Q).mpr (v95_0 hs hb hx1 hx2 h)
theorem v95_5 {w : PW} {Q : PO → PW → Prop} {b : Nat} {x1 : Int} {x2 : Int} {x3 : Int} {x4 : Int} {o5 : Option Value} (hs : Sh w) (hb : bx b) (hx1 : bd x1) (hx2 : bd x2) (hx3 : bd x3) (hx4 : bd x4) (ho5 : pc2 o5 = false) (h : ((gI w b 4) ≤ x4 → Q (.inl (some (iv ((-1))))) w) ∧ (x4 < (gI w b 4) → (x3 < 0 → Q (.inl (some (iv ((-1))))) w) ∧ (0 ≤ x3 → pX 95 21 [some (.ref b), some (iv x1), some (iv x2), some (iv x3), some (iv x4), some (iv 0)] [] w Q))) : pX 95 5 [some (.ref b), some (iv x1), some (iv x2), some (iv x3), some (iv x4), o5] [] w Q :=
  w_f b95 d95_5 rfl rfl rfl <| w_f b95 d95_7 rfl rfl rfl <| w_gi b95 d95_8 rfl rfl hs (bx00 hb) (tb0 hb) rfl <| w_icge b95 d95_11 rfl rfl (p95 _ _) hx4 (bd_gI _ _ _) (fun c1 => w_f b95 d95_70 rfl rfl rfl <| w_ri b95 d95_71 r95 (h.1 c1)) (fun c1 => w_f b95 d95_14 rfl rfl rfl <| w_iflt b95 d95_15 rfl rfl (p95 _ _) hx3 (fun c2 => w_f b95 d95_70 rfl rfl rfl <| w_ri b95 d95_71 r95 ((h.2 c1).1 c2)) (fun c2 => w_f b95 d95_18 rfl rfl rfl <| w_f b95 d95_19 rfl rfl rfl <| ((h.2 c1).2 c2)))
theorem v95_21 {w : PW} {Q : PO → PW → Prop} {b : Nat} {x1 : Int} {x2 : Int} {x3 : Int} {x4 : Int} {x5 : Int} (hs : Sh w) (hb : bx b) (hx1 : bd x1) (hx2 : bd x2) (hx3 : bd x3) (hx4 : bd x4) (hx5 : bd x5) (h : ((gI w b 0) ≤ x5 → pX 95 5 [some (.ref b), some (iv x1), some (iv x2), some (iv x3), some (iv (x4 + 1)), some (iv x5)] [] w Q) ∧ (x5 < (gI w b 0) → pC 91 [.ref b, iv x1, iv x4, iv x5] w (kI fun u3 w2 => Sh w2 ∧ (u3 ≤ 0 → pX 95 21 [some (.ref b), some (iv x1), some (iv x2), some (iv x3), some (iv x4), some (iv (x5 + 1))] [] w2 Q) ∧ (0 < u3 → (x3 ≠ 0 → pX 95 21 [some (.ref b), some (iv x1), some (iv x2), some (iv (x3 + (-1))), some (iv x4), some (iv (x5 + 1))] [] w2 Q) ∧ (x3 = 0 → Q (.inl (some (iv ((64 * x4) + x5)))) w2))))) : pX 95 21 [some (.ref b), some (iv x1), some (iv x2), some (iv x3), some (iv x4), some (iv x5)] [] w Q :=
  w_f b95 d95_21 rfl rfl rfl <| w_f b95 d95_23 rfl rfl rfl <| w_gi b95 d95_24 rfl rfl hs (bx00 hb) (tb0 hb) rfl <| w_icge b95 d95_27 rfl rfl (p95 _ _) hx5 (bd_gI _ _ _) (fun c1 => w_f b95 d95_64 rfl (pf_iinc rfl rfl) rfl <| w_j b95 d95_67 rfl (p95 _ _) <| (h.1 c1)) (fun c1 => w_f b95 d95_30 rfl rfl rfl <| w_f b95 d95_31 rfl rfl rfl <| w_f b95 d95_32 rfl rfl rfl <| w_f b95 d95_34 rfl rfl rfl <| w_c b95 d95_36 rfl (pcl_v (n := 3) rfl rfl rfl (by decide +kernel) (sh_isOb hs (bx00 hb) (tb0 hb)) rfl rfl) rfl _ (hK_I fun u3 w2 hbu3 hkw2 => w_ifle b95 d95_39 rfl rfl (p95 _ _) hbu3 (fun c4 => w_f b95 d95_58 rfl (pf_iinc rfl rfl) rfl <| w_j b95 d95_61 rfl (p95 _ _) <| (hkw2.2.1 c4)) (fun c4 => w_f b95 d95_42 rfl rfl rfl <| w_ifne b95 d95_43 rfl rfl (p95 _ _) hx3 (fun c5 => w_f b95 d95_55 rfl (pf_iinc rfl rfl) rfl <| w_f b95 d95_58 rfl (pf_iinc rfl rfl) rfl <| w_j b95 d95_61 rfl (p95 _ _) <| ((hkw2.2.2 c4).1 c5)) (fun c5 => w_f b95 d95_46 rfl rfl rfl <| w_f b95 d95_48 rfl rfl rfl <| w_f b95 d95_50 rfl (pf_imul 64 x4) rfl <| w_f b95 d95_51 rfl rfl rfl <| w_f b95 d95_53 rfl (pf_iadd (64 * x4) x5) rfl <| w_ri b95 d95_54 r95 ((hkw2.2.2 c4).2 c5)))) (h.2 c1))
theorem l92_15 {w : PW} {Q : PO → PW → Prop} {b u t : Nat} {m : Row} (hs : Sh w) (hB : BR w b m) (hu : (u : Int) < m 1) (ht : (t : Int) < m 4) (h : pX 92 4 [some (.ref b), some (iv (u : Nat)), some (iv (cnt (sCfP m u) (64 * (t + 1)) : Nat)), some (iv ((t + 1 : Nat) : Int)), some (iv (m 0))] [] w Q) : ∀ k i : Nat, i + k = (m 0).toNat → pX 92 15 [some (.ref b), some (iv (u : Nat)), some (iv (cnt (sCfP m u) (64 * t + i) : Nat)), some (iv (t : Nat)), some (iv (i : Nat))] [] w Q := by
  have h0 := hB.ok.s
  have h1 := hB.ok.u
  have h4 := hB.ok.t
  intro k
  induction k with
  | zero =>
    intro i hi 
    have hc := cnt_le (sCfP m u) (64 * t + i)
    refine v92_15 hs hB.bx (bdk (by omega)) (bdk (by omega)) (bdk (by omega)) (bdk (by omega)) ?_
    rw [hB.s]
    refine ⟨fun _ => ?_, fun q => by omega⟩
    rw [show i = (m 0).toNat from by omega, sCfP_end hB.ok, show (((m 0).toNat : Nat) : Int) = m 0 from by omega]
    exact h
  | succ k ih =>
    intro i hi 
    have hc := cnt_le (sCfP m u) (64 * t + i)
    have hb := sShort_bd hB.ok (u := u) (s := i) ht
    refine v92_15 hs hB.bx (bdk (by omega)) (bdk (by omega)) (bdk (by omega)) (bdk (by omega)) ?_
    rw [hB.s]
    have hP := sCfP_at (m := m) (u := u) (t := t) (s := i) (by omega)
    refine ⟨fun q => by omega, fun _ => c91 hs hB hu ht (by omega) (kI_iv ⟨by omega, by omega⟩ ⟨hs, fun q => ?_, fun q => ?_⟩)⟩
    · have := ih (i + 1) (by omega)
      rw [← Nat.add_assoc, cnt_f (by rw [hP, decide_eq_false (p := 0 < sShort m u t i) (by omega), Bool.and_false])] at this
      exact this
    · have := ih (i + 1) (by omega)
      rw [← Nat.add_assoc, cnt_t (by rw [hP, decide_eq_true q, decide_eq_true (by omega)]; rfl)] at this
      exact this
theorem l92_4 {w : PW} {Q : PO → PW → Prop} {b u : Nat} {m : Row} (hs : Sh w) (hB : BR w b m) (hu : (u : Int) < m 1) (h : Q (.inl (some (iv (cnt (sCfP m u) (64 * (m 4).toNat) : Nat)))) w) : ∀ k i : Nat, i + k = (m 4).toNat → ∀ o4 : Option Value, pc2 o4 = false → pX 92 4 [some (.ref b), some (iv (u : Nat)), some (iv (cnt (sCfP m u) (64 * i) : Nat)), some (iv (i : Nat)), o4] [] w Q := by
  have h1 := hB.ok.u
  have h4 := hB.ok.t
  intro k
  induction k with
  | zero =>
    intro i hi o4 ho 
    have hc := cnt_le (sCfP m u) (64 * i)
    refine v92_4 hs hB.bx (bdk (by omega)) (bdk (by omega)) (bdk (by omega)) ho ?_
    rw [hB.t]
    refine ⟨fun _ => ?_, fun q => by omega⟩
    rw [show (m 4).toNat = i from by omega] at h
    exact h
  | succ k ih =>
    intro i hi o4 ho 
    have hc := cnt_le (sCfP m u) (64 * i)
    refine v92_4 hs hB.bx (bdk (by omega)) (bdk (by omega)) (bdk (by omega)) ho ?_
    rw [hB.t]
    exact ⟨fun q => by omega, fun _ => l92_15 hs hB hu (by omega) (ih (i + 1) (by omega) _ rfl) (m 0).toNat 0 (by omega)⟩
theorem l95_21 {w : PW} {Q : PO → PW → Prop} {b u t : Nat} {m : Row} {x : Int} (hs : Sh w) (hB : BR w b m) (hu : (u : Int) < m 1) (ht : (t : Int) < m 4) (hx : bd x) (hx0 : 0 ≤ x) (hQ : ∀ j, j < 64 * (m 4).toNat → sCfP m u j = true → (cnt (sCfP m u) j : Int) = x → Q (.inl (some (iv (j : Nat)))) w) (h : (cnt (sCfP m u) (64 * (t + 1)) : Int) ≤ x → pX 95 5 [some (.ref b), some (iv (u : Nat)), some (iv x), some (iv (x - (cnt (sCfP m u) (64 * (t + 1)) : Nat))), some (iv ((t + 1 : Nat) : Int)), some (iv (m 0))] [] w Q) : ∀ k i : Nat, i + k = (m 0).toNat → (cnt (sCfP m u) (64 * t + i) : Int) ≤ x → pX 95 21 [some (.ref b), some (iv (u : Nat)), some (iv x), some (iv (x - (cnt (sCfP m u) (64 * t + i) : Nat))), some (iv (t : Nat)), some (iv (i : Nat))] [] w Q := by
  have h0 := hB.ok.s
  have h1 := hB.ok.u
  have h4 := hB.ok.t
  intro k
  induction k with
  | zero =>
    intro i hi hinv 
    have hc := cnt_le (sCfP m u) (64 * t + i)
    have := hx.2
    refine v95_21 hs hB.bx (bdk (by omega)) hx ⟨by omega, by omega⟩ (bdk (by omega)) (bdk (by omega)) ?_
    rw [hB.s]
    refine ⟨fun _ => ?_, fun q => by omega⟩
    rw [show i = (m 0).toNat from by omega, sCfP_end hB.ok] at hinv ⊢
    rw [show (((m 0).toNat : Nat) : Int) = m 0 from by omega]
    exact h hinv
  | succ k ih =>
    intro i hi hinv 
    have hc := cnt_le (sCfP m u) (64 * t + i)
    have hb := sShort_bd hB.ok (u := u) (s := i) ht
    have := hx.2
    refine v95_21 hs hB.bx (bdk (by omega)) hx ⟨by omega, by omega⟩ (bdk (by omega)) (bdk (by omega)) ?_
    rw [hB.s]
    have hP := sCfP_at (m := m) (u := u) (t := t) (s := i) (by omega)
    refine ⟨fun q => by omega, fun _ => c91 hs hB hu ht (by omega) (kI_iv ⟨by omega, by omega⟩ ⟨hs, fun q => ?_, fun q => ⟨fun q2 => ?_, fun q2 => ?_⟩⟩)⟩
    · have := ih (i + 1) (by omega)
      rw [← Nat.add_assoc, cnt_f (by rw [hP, decide_eq_false (p := 0 < sShort m u t i) (by omega), Bool.and_false])] at this
      exact this hinv
    · have e : sCfP m u (64 * t + i) = true := by rw [hP, decide_eq_true q, decide_eq_true (by omega)]; rfl
      have := ih (i + 1) (by omega)
      rw [← Nat.add_assoc, cnt_t e] at this
      have := this (by omega)
      rw [show x - ((cnt (sCfP m u) (64 * t + i) + 1 : Nat) : Int) = x - (cnt (sCfP m u) (64 * t + i) : Nat) + (-1) from by omega] at this
      exact this
    · have e : sCfP m u (64 * t + i) = true := by rw [hP, decide_eq_true q, decide_eq_true (by omega)]; rfl
      exact hQ (64 * t + i) (by omega) e (by omega)
theorem l95_5 {w : PW} {Q : PO → PW → Prop} {b u : Nat} {m : Row} {x : Int} (hs : Sh w) (hB : BR w b m) (hu : (u : Int) < m 1) (hx : bd x) (h : Q (.inl (some (iv (sel (sCfP m u) x (64 * (m 4).toNat))))) w) : ∀ k i : Nat, i + k = (m 4).toNat → (0 ≤ x → (cnt (sCfP m u) (64 * i) : Int) ≤ x) → (x < 0 → cnt (sCfP m u) (64 * i) = 0) → ∀ o5 : Option Value, pc2 o5 = false → pX 95 5 [some (.ref b), some (iv (u : Nat)), some (iv x), some (iv (x - (cnt (sCfP m u) (64 * i) : Nat))), some (iv (i : Nat)), o5] [] w Q := by
  have h1 := hB.ok.u
  have h4 := hB.ok.t
  intro k
  induction k with
  | zero =>
    intro i hi h8 h9 o5 ho 
    have hc := cnt_le (sCfP m u) (64 * i)
    have := hx.1
    have := hx.2
    refine v95_5 hs hB.bx (bdk (by omega)) hx (by constructor <;> omega) (bdk (by omega)) ho ?_
    rw [hB.t]
    refine ⟨fun _ => ?_, fun q => by omega⟩
    rw [sel_no (by rw [show (m 4).toNat = i from by omega]; by_cases q : 0 ≤ x <;> omega)] at h
    exact h
  | succ k ih =>
    intro i hi h8 h9 o5 ho 
    have hc := cnt_le (sCfP m u) (64 * i)
    have := hx.1
    have := hx.2
    refine v95_5 hs hB.bx (bdk (by omega)) hx (by constructor <;> omega) (bdk (by omega)) ho ?_
    rw [hB.t]
    refine ⟨fun q => by omega, fun _ => ⟨fun q => ?_, fun q => ?_⟩⟩
    · rw [sel_no (Or.inl (by by_cases q : 0 ≤ x <;> omega))] at h
      exact h
    · have hx0 : 0 ≤ x := by omega
      refine l95_21 hs hB hu (by omega) hx hx0 (fun j hj hP hc => ?_) (fun q2 => ih (i + 1) (by omega) (fun _ => q2) (fun z => by omega) _ rfl) (m 0).toNat 0 (by omega) (by show (cnt (sCfP m u) (64 * i) : Int) ≤ x; omega)
      rw [sel_at hj hP hc] at h
      exact h
def sCf (m : Row) (u : Nat) : Nat := cnt (sCfP m u) (64 * (m 4).toNat)
theorem sCf_bd {m : Row} (h : RowOK m) (u : Nat) : sCf m u ≤ 768 := by
  have h4 := h.t
  have := cnt_le (sCfP m u) (64 * (m 4).toNat)
  unfold sCf
  omega
theorem c92 {w : PW} {Q : PO → PW → Prop} {b u : Nat} {m : Row} (hs : Sh w) (hB : BR w b m) (hu : (u : Int) < m 1) (h : Q (.inl (some (iv (sCf m u : Nat)))) w) : pC 92 [.ref b, iv (u : Nat)] w Q :=
  e92 hs hB.bx (bdk (by have := hB.ok.u; omega)) (l92_4 hs hB hu h (m 4).toNat 0 (by omega) _ rfl)
theorem c95 {w : PW} {Q : PO → PW → Prop} {b u : Nat} {m : Row} {x : Int} (hs : Sh w) (hB : BR w b m) (hu : (u : Int) < m 1) (hx : bd x) (h : Q (.inl (some (iv (sel (sCfP m u) x (64 * (m 4).toNat))))) w) : pC 95 [.ref b, iv (u : Nat), iv x] w Q := by
  refine e95 hs hB.bx (bdk (by have := hB.ok.u; omega)) hx ?_
  have := l95_5 hs hB hu hx h (m 4).toNat 0 (by omega) (fun z => z) (fun _ => rfl) none rfl
  rw [show x - ((cnt (sCfP m u) (64 * 0) : Nat) : Int) = x from Int.sub_zero x] at this
  exact this

