/-! PINS, counted: the class -/
section P32
variable {w : PW} {b : Nat} {m : Row}
theorem BR.pin (h : BR w b m) {u s : Int} {t : Nat} (hu : 0 ≤ u ∧ u < m 1) (hs : 0 ≤ s ∧ s < m 0) (ht : (t : Int) < m 4) : tL (lP w b (m 1 * (t : Int) + u)) s.toNat = rPin m u.toNat s.toNat t := by
  obtain ⟨v, rfl⟩ : ∃ v : Nat, u = v := ⟨u.toNat, by omega⟩
  obtain ⟨r, rfl⟩ : ∃ r : Nat, s = r := ⟨s.toNat, by omega⟩
  have := h.ok.s
  rw [Int.toNat_natCast, Int.toNat_natCast, h.bits hu.2 (by omega), decide_eq_true ht, decide_eq_true hs.2]
  rfl
theorem BR.tb (h : BR w b m) {u : Int} {t : Nat} (hu : 0 ≤ u ∧ u < m 1) (ht : t < 12) : bd (m 1 * (t : Int) + u) := by
  obtain ⟨v, rfl⟩ : ∃ v : Nat, u = v := ⟨u.toNat, by omega⟩
  exact (h.lPb hu.2 ht).1
theorem RowOK.i4 (h : RowOK m) {t : Nat} (ht : t < (m 4).toNat) : (t : Int) < m 4 ∧ t < 12 := by have := h.t; omega
end P32
/-! 73: PinBarrel$Box.playerOf(I)I -/
theorem b73 : mB 73 = cX0_playerOf := rfl
theorem r73 : mR 73 = (some .int) := rfl
theorem p73 (a b : Nat) : phi 73 a ≤ phi 73 b := Nat.le_refl 0
theorem d73_0 : decode cX0_playerOf 0 = .ok (.aload_n 0, 1) := by decide +kernel
theorem d73_1 : decode cX0_playerOf 1 = .ok (.getfield 41, 3) := by decide +kernel
theorem d73_4 : decode cX0_playerOf 4 = .ok (.iload_n 1, 1) := by decide +kernel
theorem d73_5 : decode cX0_playerOf 5 = .ok (.invokevirtual 159, 3) := by decide +kernel
theorem d73_8 : decode cX0_playerOf 8 = .ok (.istore_n 2, 1) := by decide +kernel
theorem d73_9 : decode cX0_playerOf 9 = .ok (.iconst 0, 1) := by decide +kernel
theorem d73_10 : decode cX0_playerOf 10 = .ok (.istore_n 3, 1) := by decide +kernel
theorem d73_11 : decode cX0_playerOf 11 = .ok (.iload_n 3, 1) := by decide +kernel
theorem d73_12 : decode cX0_playerOf 12 = .ok (.aload_n 0, 1) := by decide +kernel
theorem d73_13 : decode cX0_playerOf 13 = .ok (.getfield 24, 3) := by decide +kernel
theorem d73_16 : decode cX0_playerOf 16 = .ok (.if_icmp .ge 62, 3) := by decide +kernel
theorem d73_19 : decode cX0_playerOf 19 = .ok (.aload_n 0, 1) := by decide +kernel
theorem d73_20 : decode cX0_playerOf 20 = .ok (.getfield 27, 3) := by decide +kernel
theorem d73_23 : decode cX0_playerOf 23 = .ok (.iload_n 3, 1) := by decide +kernel
theorem d73_24 : decode cX0_playerOf 24 = .ok (.iaload, 1) := by decide +kernel
theorem d73_25 : decode cX0_playerOf 25 = .ok (.aload_n 0, 1) := by decide +kernel
theorem d73_26 : decode cX0_playerOf 26 = .ok (.getfield 41, 3) := by decide +kernel
theorem d73_29 : decode cX0_playerOf 29 = .ok (.getfield 162, 3) := by decide +kernel
theorem d73_32 : decode cX0_playerOf 32 = .ok (.iload_n 1, 1) := by decide +kernel
theorem d73_33 : decode cX0_playerOf 33 = .ok (.iaload, 1) := by decide +kernel
theorem d73_34 : decode cX0_playerOf 34 = .ok (.if_icmp .ne 38, 3) := by decide +kernel
theorem d73_37 : decode cX0_playerOf 37 = .ok (.aload_n 0, 1) := by decide +kernel
theorem d73_38 : decode cX0_playerOf 38 = .ok (.aload_n 0, 1) := by decide +kernel
theorem d73_39 : decode cX0_playerOf 39 = .ok (.getfield 41, 3) := by decide +kernel
theorem d73_42 : decode cX0_playerOf 42 = .ok (.getfield 163, 3) := by decide +kernel
theorem d73_45 : decode cX0_playerOf 45 = .ok (.iload_n 1, 1) := by decide +kernel
theorem d73_46 : decode cX0_playerOf 46 = .ok (.iaload, 1) := by decide +kernel
theorem d73_47 : decode cX0_playerOf 47 = .ok (.aload_n 0, 1) := by decide +kernel
theorem d73_48 : decode cX0_playerOf 48 = .ok (.getfield 41, 3) := by decide +kernel
theorem d73_51 : decode cX0_playerOf 51 = .ok (.getfield 166, 3) := by decide +kernel
theorem d73_54 : decode cX0_playerOf 54 = .ok (.iload_n 1, 1) := by decide +kernel
theorem d73_55 : decode cX0_playerOf 55 = .ok (.iaload, 1) := by decide +kernel
theorem d73_56 : decode cX0_playerOf 56 = .ok (.iload_n 3, 1) := by decide +kernel
theorem d73_57 : decode cX0_playerOf 57 = .ok (.invokevirtual 111, 3) := by decide +kernel
theorem d73_60 : decode cX0_playerOf 60 = .ok (.ifCond .eq 12, 3) := by decide +kernel
theorem d73_63 : decode cX0_playerOf 63 = .ok (.iload_n 2, 1) := by decide +kernel
theorem d73_64 : decode cX0_playerOf 64 = .ok (.ifCond .ne 5, 3) := by decide +kernel
theorem d73_67 : decode cX0_playerOf 67 = .ok (.iload_n 3, 1) := by decide +kernel
theorem d73_68 : decode cX0_playerOf 68 = .ok (.ireturn, 1) := by decide +kernel
theorem d73_69 : decode cX0_playerOf 69 = .ok (.iinc 2 (-1), 3) := by decide +kernel
theorem d73_72 : decode cX0_playerOf 72 = .ok (.iinc 3 1, 3) := by decide +kernel
theorem d73_75 : decode cX0_playerOf 75 = .ok (.goto (-64), 3) := by decide +kernel
theorem d73_78 : decode cX0_playerOf 78 = .ok (.iconst (-1), 1) := by decide +kernel
theorem d73_79 : decode cX0_playerOf 79 = .ok (.ireturn, 1) := by decide +kernel
theorem v73_0 {w : PW} {Q : PO → PW → Prop} {b : Nat} {x1 : Int} (hs : Sh w) (hb : bx b) (hx1 : bd x1) (h : pC 72 [.ref (b + 4), iv x1] w (kI fun u2 w1 => Sh w1 ∧ pX 73 11 [some (.ref b), some (iv x1), some (iv u2), some (iv 0)] [] w1 Q)) : pX 73 0 [some (.ref b), some (iv x1), none, none] [] w Q :=
  w_f b73 d73_0 rfl rfl rfl <| w_gr b73 d73_1 rfl rfl hs (bx00 hb) (tb0 hb) rfl (bxr hb 4 rfl) <| w_f b73 d73_4 rfl rfl rfl <| w_c b73 d73_5 rfl (pcl_v (n := 1) rfl rfl rfl (by decide +kernel) (sh_isOb hs (bxk hb 4 rfl) (tb4 hb)) rfl rfl) rfl _ (hK_I fun u2 w1 hbu2 hkw1 => w_f b73 d73_8 rfl rfl rfl <| w_f b73 d73_9 rfl rfl rfl <| w_f b73 d73_10 rfl rfl rfl <| hkw1.2) h
theorem e73 {w : PW} {Q : PO → PW → Prop} {b : Nat} {x1 : Int} (hs : Sh w) (hb : bx b) (hx1 : bd x1) (h : pC 72 [.ref (b + 4), iv x1] w (kI fun u2 w1 => Sh w1 ∧ pX 73 11 [some (.ref b), some (iv x1), some (iv u2), some (iv 0)] [] w1 Q)) : pC 73 [.ref b, iv x1] w Q :=
  (pC_in (Nat.le_of_ble_eq_true rfl) rfl Q).mpr (v73_0 hs hb hx1 h)
theorem v73_11 {w : PW} {Q : PO → PW → Prop} {b : Nat} {x1 : Int} {x2 : Int} {x3 : Int} (hs : Sh w) (hb : bx b) (hx1 : bd x1) (hx2 : bd x2) (hx3 : bd x3) (h : ((gI w b 4) ≤ x3 → Q (.inl (some (iv ((-1))))) w) ∧ (x3 < (gI w b 4) → (0 ≤ x3 ∧ x3 < 12) ∧ (0 ≤ x1 ∧ x1 < 60) ∧ ((gI w (b + 1) x3.toNat) ≠ (gI w (b + 7) x1.toNat) → pX 73 11 [some (.ref b), some (iv x1), some (iv x2), some (iv (x3 + 1))] [] w Q) ∧ ((gI w (b + 1) x3.toNat) = (gI w (b + 7) x1.toNat) → (0 ≤ x1 ∧ x1 < 60) ∧ (0 ≤ x1 ∧ x1 < 60) ∧ (bd ((gI w b 1) * x3 + (gI w (b + 5) x1.toNat))) ∧ (0 ≤ (gI w (b + 6) x1.toNat) ∧ (gI w (b + 6) x1.toNat) < 64) ∧ ((¬ (tL (lP w b ((gI w b 1) * x3 + (gI w (b + 5) x1.toNat))) ((gI w (b + 6) x1.toNat)).toNat = true)) → pX 73 11 [some (.ref b), some (iv x1), some (iv x2), some (iv (x3 + 1))] [] w Q) ∧ ((tL (lP w b ((gI w b 1) * x3 + (gI w (b + 5) x1.toNat))) ((gI w (b + 6) x1.toNat)).toNat = true) → (x2 ≠ 0 → pX 73 11 [some (.ref b), some (iv x1), some (iv (x2 + (-1))), some (iv (x3 + 1))] [] w Q) ∧ (x2 = 0 → Q (.inl (some (iv x3))) w))))) : pX 73 11 [some (.ref b), some (iv x1), some (iv x2), some (iv x3)] [] w Q :=
  w_f b73 d73_11 rfl rfl rfl <| w_f b73 d73_12 rfl rfl rfl <| w_gi b73 d73_13 rfl rfl hs (bx00 hb) (tb0 hb) rfl <| w_icge b73 d73_16 rfl rfl (p73 _ _) hx3 (bd_gI _ _ _) (fun c1 => w_f b73 d73_78 rfl rfl rfl <| w_ri b73 d73_79 r73 (h.1 c1)) (fun c1 => w_f b73 d73_19 rfl rfl rfl <| w_gr b73 d73_20 rfl rfl hs (bx00 hb) (tb0 hb) rfl (bxr hb 1 rfl) <| w_f b73 d73_23 rfl rfl rfl <| w_ial b73 d73_24 rfl hs (bxk hb 1 rfl) (tb1 hb) (bdix (n := 12) (h.2 c1).1 rfl) (h.2 c1).1 <| w_f b73 d73_25 rfl rfl rfl <| w_gr b73 d73_26 rfl rfl hs (bx00 hb) (tb0 hb) rfl (bxr hb 4 rfl) <| w_gr b73 d73_29 rfl rfl hs (bxk hb 4 rfl) (tb4 hb) rfl (bxr hb 7 rfl) <| w_f b73 d73_32 rfl rfl rfl <| w_ial b73 d73_33 rfl hs (bxk hb 7 rfl) (tb7 hb) (bdix (n := 60) (h.2 c1).2.1 rfl) (h.2 c1).2.1 <| w_icne b73 d73_34 rfl rfl (p73 _ _) (bd_gI _ _ _) (bd_gI _ _ _) (fun c2 => w_f b73 d73_72 rfl (pf_iinc rfl rfl) rfl <| w_j b73 d73_75 rfl (p73 _ _) <| ((h.2 c1).2.2.1 c2)) (fun c2 => w_f b73 d73_37 rfl rfl rfl <| w_f b73 d73_38 rfl rfl rfl <| w_gr b73 d73_39 rfl rfl hs (bx00 hb) (tb0 hb) rfl (bxr hb 4 rfl) <| w_gr b73 d73_42 rfl rfl hs (bxk hb 4 rfl) (tb4 hb) rfl (bxr hb 5 rfl) <| w_f b73 d73_45 rfl rfl rfl <| w_ial b73 d73_46 rfl hs (bxk hb 5 rfl) (tb5 hb) (bdix (n := 60) ((h.2 c1).2.2.2 c2).1 rfl) ((h.2 c1).2.2.2 c2).1 <| w_f b73 d73_47 rfl rfl rfl <| w_gr b73 d73_48 rfl rfl hs (bx00 hb) (tb0 hb) rfl (bxr hb 4 rfl) <| w_gr b73 d73_51 rfl rfl hs (bxk hb 4 rfl) (tb4 hb) rfl (bxr hb 6 rfl) <| w_f b73 d73_54 rfl rfl rfl <| w_ial b73 d73_55 rfl hs (bxk hb 6 rfl) (tb6 hb) (bdix (n := 60) ((h.2 c1).2.2.2 c2).2.1 rfl) ((h.2 c1).2.2.2 c2).2.1 <| w_f b73 d73_56 rfl rfl rfl <| w_cc b73 d73_57 rfl (pcl_v (n := 3) rfl rfl rfl (by decide +kernel) (sh_isOb hs (bx00 hb) (tb0 hb)) rfl rfl) rfl <| c43 hs hb (bd_gI _ _ _) (bd_gI _ _ _) hx3 ((h.2 c1).2.2.2 c2).2.2.1 ((h.2 c1).2.2.2 c2).2.2.2.1 <| w_ifeqZ b73 d73_60 rfl rfl (p73 _ _) (fun c3 => w_f b73 d73_72 rfl (pf_iinc rfl rfl) rfl <| w_j b73 d73_75 rfl (p73 _ _) <| (((h.2 c1).2.2.2 c2).2.2.2.2.1 c3)) (fun c3 => w_f b73 d73_63 rfl rfl rfl <| w_ifne b73 d73_64 rfl rfl (p73 _ _) hx2 (fun c4 => w_f b73 d73_69 rfl (pf_iinc rfl rfl) rfl <| w_f b73 d73_72 rfl (pf_iinc rfl rfl) rfl <| w_j b73 d73_75 rfl (p73 _ _) <| ((((h.2 c1).2.2.2 c2).2.2.2.2.2 c3).1 c4)) (fun c4 => w_f b73 d73_67 rfl rfl rfl <| w_ri b73 d73_68 r73 ((((h.2 c1).2.2.2 c2).2.2.2.2.2 c3).2 c4)))))
theorem l73_11 {w : PW} {Q : PO → PW → Prop} {b x : Nat} {m : Row} (hs : Sh w) (hB : BR w b m) (hx : (x : Int) < m 5) (h : Q (.inl (some (iv (sPlay m x)))) w) : ∀ k i : Nat, i + k = (m 4).toNat → cnt (sPlayP m x) i ≤ sLike m x → pX 73 11 [some (.ref b), some (iv (x : Nat)), some (iv ((sLike m x : Nat) - (cnt (sPlayP m x) i : Nat) : Int)), some (iv (i : Nat))] [] w Q := by
  have h5 := hB.ok.n
  have h4 := hB.ok.t
  have h0 := hB.ok.s
  obtain ⟨f1, f2, f3⟩ := hB.N (i := x) hx
  obtain ⟨g1, g2, g3⟩ := hB.ok.N (i := x) hx
  have hl : sLike m x ≤ x := cnt_le _ _
  intro k
  induction k with
  | zero =>
    intro i hi hinv 
    have hc := cnt_le (sPlayP m x) i
    refine v73_11 hs hB.bx (bdk (by omega)) ⟨by omega, by omega⟩ (bdk (by omega)) ?_
    rw [hB.t]
    refine ⟨fun _ => ?_, fun q => by omega⟩
    unfold sPlay at h
    rw [sel_no (by rw [show (m 4).toNat = i from by omega]; omega)] at h
    exact h
  | succ k ih =>
    intro i hi hinv 
    have hc := cnt_le (sPlayP m x) i
    obtain ⟨e1, e2, e3, e4, e5⟩ := hB.T (t := i) (by omega)
    refine v73_11 hs hB.bx (bdk (by omega)) ⟨by omega, by omega⟩ (bdk (by omega)) ?_
    rw [hB.t, Int.toNat_natCast, Int.toNat_natCast, e1, f1, f2, f3, hB.u]
    have hb : 0 ≤ (x : Int) ∧ (x : Int) < 60 := ⟨by omega, by omega⟩
    have hF : sPlayP m x i = false → _ := fun q => by
      have := ih (i + 1) (by omega)
      rw [cnt_f q] at this
      exact this hinv
    refine ⟨fun q => by omega, fun _ => ⟨⟨by omega, by omega⟩, hb, fun q => hF ?_, fun q => ⟨hb, hb, hB.tb g1 (by omega), by omega, fun q2 => hF ?_, fun q2 => ⟨fun q3 => ?_, fun q3 => ?_⟩⟩⟩⟩
    · unfold sPlayP
      rw [decide_eq_false q, Bool.false_and]
    · unfold sPlayP
      rw [← hB.pin g1 g2 (by omega), Bool.eq_false_iff.mpr q2, Bool.and_false]
    · have e : sPlayP m x i = true := by
        unfold sPlayP
        rw [← hB.pin g1 g2 (by omega), q2, decide_eq_true q]; rfl
      have := ih (i + 1) (by omega)
      rw [cnt_t e] at this
      have := this (by omega)
      rw [show ((sLike m x : Nat) : Int) - ((cnt (sPlayP m x) i + 1 : Nat) : Int) = (sLike m x : Nat) - (cnt (sPlayP m x) i : Nat) + (-1) from by omega] at this
      exact this
    · have e : sPlayP m x i = true := by
        unfold sPlayP
        rw [← hB.pin g1 g2 (by omega), q2, decide_eq_true q]; rfl
      unfold sPlay at h
      rw [sel_at (i := i) (by omega) e (by omega)] at h
      exact h
theorem c73 {w : PW} {Q : PO → PW → Prop} {b x : Nat} {m : Row} (hs : Sh w) (hB : BR w b m) (hx : (x : Int) < m 5) (h : Q (.inl (some (iv (sPlay m x)))) w) : pC 73 [.ref b, iv (x : Nat)] w Q := by
  have h5 := hB.ok.n
  have hl : sLike m x ≤ x := cnt_le _ _
  refine e73 hs hB.bx (bdk (by omega)) (c72 hs hB hx (kI_iv (bdk (by omega)) ⟨hs, ?_⟩))
  have := l73_11 hs hB hx h (m 4).toNat 0 (by omega) (Nat.zero_le _)
  rw [show ((sLike m x : Nat) : Int) - ((cnt (sPlayP m x) 0 : Nat) : Int) = (sLike m x : Nat) from Int.sub_zero _] at this
  exact this
theorem sPlay_bd {m : Row} (h : RowOK m) (x : Nat) : -1 ≤ sPlay m x ∧ sPlay m x < m 4 := by
  have h4 := h.t
  have := sel_bd (P := sPlayP m x) (x := (sLike m x : Nat)) (n := (m 4).toNat)
  unfold sPlay
  omega
/-! 107: PinBarrel$Box.playedNotes(I)I -/
theorem b107 : mB 107 = cX0_playedNotes := rfl
theorem r107 : mR 107 = (some .int) := rfl
theorem p107 (a b : Nat) : phi 107 a ≤ phi 107 b := Nat.le_refl 0
theorem d107_0 : decode cX0_playedNotes 0 = .ok (.iconst 0, 1) := by decide +kernel
theorem d107_1 : decode cX0_playedNotes 1 = .ok (.istore_n 2, 1) := by decide +kernel
theorem d107_2 : decode cX0_playedNotes 2 = .ok (.iconst 0, 1) := by decide +kernel
theorem d107_3 : decode cX0_playedNotes 3 = .ok (.istore_n 3, 1) := by decide +kernel
theorem d107_4 : decode cX0_playedNotes 4 = .ok (.iload_n 3, 1) := by decide +kernel
theorem d107_5 : decode cX0_playedNotes 5 = .ok (.aload_n 0, 1) := by decide +kernel
theorem d107_6 : decode cX0_playedNotes 6 = .ok (.getfield 41, 3) := by decide +kernel
theorem d107_9 : decode cX0_playedNotes 9 = .ok (.getfield 71, 3) := by decide +kernel
theorem d107_12 : decode cX0_playedNotes 12 = .ok (.if_icmp .ge 34, 3) := by decide +kernel
theorem d107_15 : decode cX0_playedNotes 15 = .ok (.aload_n 0, 1) := by decide +kernel
theorem d107_16 : decode cX0_playedNotes 16 = .ok (.getfield 41, 3) := by decide +kernel
theorem d107_19 : decode cX0_playedNotes 19 = .ok (.getfield 163, 3) := by decide +kernel
theorem d107_22 : decode cX0_playedNotes 22 = .ok (.iload_n 3, 1) := by decide +kernel
theorem d107_23 : decode cX0_playedNotes 23 = .ok (.iaload, 1) := by decide +kernel
theorem d107_24 : decode cX0_playedNotes 24 = .ok (.iload_n 1, 1) := by decide +kernel
theorem d107_25 : decode cX0_playedNotes 25 = .ok (.if_icmp .ne 15, 3) := by decide +kernel
theorem d107_28 : decode cX0_playedNotes 28 = .ok (.aload_n 0, 1) := by decide +kernel
theorem d107_29 : decode cX0_playedNotes 29 = .ok (.iload_n 3, 1) := by decide +kernel
theorem d107_30 : decode cX0_playedNotes 30 = .ok (.invokevirtual 169, 3) := by decide +kernel
theorem d107_33 : decode cX0_playedNotes 33 = .ok (.iconst (-1), 1) := by decide +kernel
theorem d107_34 : decode cX0_playedNotes 34 = .ok (.if_icmp .eq 6, 3) := by decide +kernel
theorem d107_37 : decode cX0_playedNotes 37 = .ok (.iinc 2 1, 3) := by decide +kernel
theorem d107_40 : decode cX0_playedNotes 40 = .ok (.iinc 3 1, 3) := by decide +kernel
theorem d107_43 : decode cX0_playedNotes 43 = .ok (.goto (-39), 3) := by decide +kernel
theorem d107_46 : decode cX0_playedNotes 46 = .ok (.iload_n 2, 1) := by decide +kernel
theorem d107_47 : decode cX0_playedNotes 47 = .ok (.ireturn, 1) := by decide +kernel
theorem v107_0 {w : PW} {Q : PO → PW → Prop} {b : Nat} {x1 : Int} (hs : Sh w) (hb : bx b) (hx1 : bd x1) (h : pX 107 4 [some (.ref b), some (iv x1), some (iv 0), some (iv 0)] [] w Q) : pX 107 0 [some (.ref b), some (iv x1), none, none] [] w Q :=
  w_f b107 d107_0 rfl rfl rfl <| w_f b107 d107_1 rfl rfl rfl <| w_f b107 d107_2 rfl rfl rfl <| w_f b107 d107_3 rfl rfl rfl <| h
theorem e107 {w : PW} {Q : PO → PW → Prop} {b : Nat} {x1 : Int} (hs : Sh w) (hb : bx b) (hx1 : bd x1) (h : pX 107 4 [some (.ref b), some (iv x1), some (iv 0), some (iv 0)] [] w Q) : pC 107 [.ref b, iv x1] w Q :=
  (pC_in (Nat.le_of_ble_eq_true rfl) rfl Q).mpr (v107_0 hs hb hx1 h)
theorem v107_4 {w : PW} {Q : PO → PW → Prop} {b : Nat} {x1 : Int} {x2 : Int} {x3 : Int} (hs : Sh w) (hb : bx b) (hx1 : bd x1) (hx2 : bd x2) (hx3 : bd x3) (h : ((gI w (b + 4) 0) ≤ x3 → Q (.inl (some (iv x2))) w) ∧ (x3 < (gI w (b + 4) 0) → (0 ≤ x3 ∧ x3 < 60) ∧ ((gI w (b + 5) x3.toNat) ≠ x1 → pX 107 4 [some (.ref b), some (iv x1), some (iv x2), some (iv (x3 + 1))] [] w Q) ∧ ((gI w (b + 5) x3.toNat) = x1 → pC 73 [.ref b, iv x3] w (kI fun u4 w3 => Sh w3 ∧ (u4 = ((-1)) → pX 107 4 [some (.ref b), some (iv x1), some (iv x2), some (iv (x3 + 1))] [] w3 Q) ∧ (u4 ≠ ((-1)) → pX 107 4 [some (.ref b), some (iv x1), some (iv (x2 + 1)), some (iv (x3 + 1))] [] w3 Q))))) : pX 107 4 [some (.ref b), some (iv x1), some (iv x2), some (iv x3)] [] w Q :=
  w_f b107 d107_4 rfl rfl rfl <| w_f b107 d107_5 rfl rfl rfl <| w_gr b107 d107_6 rfl rfl hs (bx00 hb) (tb0 hb) rfl (bxr hb 4 rfl) <| w_gi b107 d107_9 rfl rfl hs (bxk hb 4 rfl) (tb4 hb) rfl <| w_icge b107 d107_12 rfl rfl (p107 _ _) hx3 (bd_gI _ _ _) (fun c1 => w_f b107 d107_46 rfl rfl rfl <| w_ri b107 d107_47 r107 (h.1 c1)) (fun c1 => w_f b107 d107_15 rfl rfl rfl <| w_gr b107 d107_16 rfl rfl hs (bx00 hb) (tb0 hb) rfl (bxr hb 4 rfl) <| w_gr b107 d107_19 rfl rfl hs (bxk hb 4 rfl) (tb4 hb) rfl (bxr hb 5 rfl) <| w_f b107 d107_22 rfl rfl rfl <| w_ial b107 d107_23 rfl hs (bxk hb 5 rfl) (tb5 hb) (bdix (n := 60) (h.2 c1).1 rfl) (h.2 c1).1 <| w_f b107 d107_24 rfl rfl rfl <| w_icne b107 d107_25 rfl rfl (p107 _ _) (bd_gI _ _ _) hx1 (fun c2 => w_f b107 d107_40 rfl (pf_iinc rfl rfl) rfl <| w_j b107 d107_43 rfl (p107 _ _) <| ((h.2 c1).2.1 c2)) (fun c2 => w_f b107 d107_28 rfl rfl rfl <| w_f b107 d107_29 rfl rfl rfl <| w_c b107 d107_30 rfl (pcl_v (n := 1) rfl rfl rfl (by decide +kernel) (sh_isOb hs (bx00 hb) (tb0 hb)) rfl rfl) rfl _ (hK_I fun u4 w3 hbu4 hkw3 => w_f b107 d107_33 rfl rfl rfl <| w_iceq b107 d107_34 rfl rfl (p107 _ _) hbu4 ⟨by decide, by decide⟩ (fun c5 => w_f b107 d107_40 rfl (pf_iinc rfl rfl) rfl <| w_j b107 d107_43 rfl (p107 _ _) <| (hkw3.2.1 c5)) (fun c5 => w_f b107 d107_37 rfl (pf_iinc rfl rfl) rfl <| w_f b107 d107_40 rfl (pf_iinc rfl rfl) rfl <| w_j b107 d107_43 rfl (p107 _ _) <| (hkw3.2.2 c5))) ((h.2 c1).2.2 c2)))
theorem l107_4 {w : PW} {Q : PO → PW → Prop} {b : Nat} {m : Row} {x1 : Int} (hs : Sh w) (hB : BR w b m) (hx : bd x1) (h : Q (.inl (some (iv (sPlayed m x1 : Nat)))) w) : ∀ k i : Nat, i + k = (m 5).toNat → pX 107 4 [some (.ref b), some (iv x1), some (iv (cnt (fun k => decide (rN m k 0 = x1) && decide (sPlay m k ≠ -1)) i : Nat)), some (iv (i : Nat))] [] w Q := by
  have h5 := hB.ok.n
  intro k
  induction k with
  | zero =>
    intro i hi 
    refine v107_4 hs hB.bx hx (bdk (Nat.le_trans (cnt_le _ _) (by omega))) (bdk (by omega)) ?_
    rw [hB.n]
    refine ⟨fun _ => ?_, fun q => by omega⟩
    unfold sPlayed at h
    rw [show (m 5).toNat = i from by omega] at h
    exact h
  | succ k ih =>
    intro i hi 
    obtain ⟨e1, e2, e3⟩ := hB.N (i := i) (by omega)
    have h4 := hB.ok.t
    have hp := sPlay_bd hB.ok i
    refine v107_4 hs hB.bx hx (bdk (Nat.le_trans (cnt_le _ _) (by omega))) (bdk (by omega)) ?_
    rw [hB.n, Int.toNat_natCast, e1]
    refine ⟨fun q => by omega, fun _ => ⟨⟨by omega, by omega⟩, fun q => ?_, fun q => c73 hs hB (by omega) (kI_iv ⟨by omega, by omega⟩ ⟨hs, fun q2 => ?_, fun q2 => ?_⟩)⟩⟩
    · have := ih (i + 1) (by omega)
      rw [cnt_f (by rw [decide_eq_false q, Bool.false_and])] at this
      exact this
    · have := ih (i + 1) (by omega)
      rw [cnt_f (by rw [decide_eq_false (p := sPlay m i ≠ -1) (fun z => z q2), Bool.and_false])] at this
      exact this
    · have := ih (i + 1) (by omega)
      rw [cnt_t (by rw [decide_eq_true q, decide_eq_true q2]; rfl)] at this
      exact this
theorem c107 {w : PW} {Q : PO → PW → Prop} {b : Nat} {m : Row} {x1 : Int} (hs : Sh w) (hB : BR w b m) (hx : bd x1) (h : Q (.inl (some (iv (sPlayed m x1 : Nat)))) w) : pC 107 [.ref b, iv x1] w Q :=
  e107 hs hB.bx hx (l107_4 hs hB hx h (m 5).toNat 0 (by omega))
/-! 58: PinBarrel$Box.pinsOfTune(I)I -/
theorem b58 : mB 58 = cX0_pinsOfTune := rfl
theorem r58 : mR 58 = (some .int) := rfl
theorem p58 (a b : Nat) : phi 58 a ≤ phi 58 b := Nat.le_refl 0
theorem d58_0 : decode cX0_pinsOfTune 0 = .ok (.iconst 0, 1) := by decide +kernel
theorem d58_1 : decode cX0_pinsOfTune 1 = .ok (.istore_n 2, 1) := by decide +kernel
theorem d58_2 : decode cX0_pinsOfTune 2 = .ok (.iconst 0, 1) := by decide +kernel
theorem d58_3 : decode cX0_pinsOfTune 3 = .ok (.istore_n 3, 1) := by decide +kernel
theorem d58_4 : decode cX0_pinsOfTune 4 = .ok (.iload_n 3, 1) := by decide +kernel
theorem d58_5 : decode cX0_pinsOfTune 5 = .ok (.aload_n 0, 1) := by decide +kernel
theorem d58_6 : decode cX0_pinsOfTune 6 = .ok (.getfield 24, 3) := by decide +kernel
theorem d58_9 : decode cX0_pinsOfTune 9 = .ok (.if_icmp .ge 25, 3) := by decide +kernel
theorem d58_12 : decode cX0_pinsOfTune 12 = .ok (.iload_n 2, 1) := by decide +kernel
theorem d58_13 : decode cX0_pinsOfTune 13 = .ok (.aload_n 0, 1) := by decide +kernel
theorem d58_14 : decode cX0_pinsOfTune 14 = .ok (.aload_n 0, 1) := by decide +kernel
theorem d58_15 : decode cX0_pinsOfTune 15 = .ok (.iload_n 1, 1) := by decide +kernel
theorem d58_16 : decode cX0_pinsOfTune 16 = .ok (.iload_n 3, 1) := by decide +kernel
theorem d58_17 : decode cX0_pinsOfTune 17 = .ok (.invokevirtual 81, 3) := by decide +kernel
theorem d58_20 : decode cX0_pinsOfTune 20 = .ok (.invokevirtual 85, 3) := by decide +kernel
theorem d58_23 : decode cX0_pinsOfTune 23 = .ok (.invokestatic 105, 3) := by decide +kernel
theorem d58_26 : decode cX0_pinsOfTune 26 = .ok (.iadd, 1) := by decide +kernel
theorem d58_27 : decode cX0_pinsOfTune 27 = .ok (.istore_n 2, 1) := by decide +kernel
theorem d58_28 : decode cX0_pinsOfTune 28 = .ok (.iinc 3 1, 3) := by decide +kernel
theorem d58_31 : decode cX0_pinsOfTune 31 = .ok (.goto (-27), 3) := by decide +kernel
theorem d58_34 : decode cX0_pinsOfTune 34 = .ok (.iload_n 2, 1) := by decide +kernel
theorem d58_35 : decode cX0_pinsOfTune 35 = .ok (.ireturn, 1) := by decide +kernel
theorem v58_0 {w : PW} {Q : PO → PW → Prop} {b : Nat} {x1 : Int} (hs : Sh w) (hb : bx b) (hx1 : bd x1) (h : pX 58 4 [some (.ref b), some (iv x1), some (iv 0), some (iv 0)] [] w Q) : pX 58 0 [some (.ref b), some (iv x1), none, none] [] w Q :=
  w_f b58 d58_0 rfl rfl rfl <| w_f b58 d58_1 rfl rfl rfl <| w_f b58 d58_2 rfl rfl rfl <| w_f b58 d58_3 rfl rfl rfl <| h
theorem e58 {w : PW} {Q : PO → PW → Prop} {b : Nat} {x1 : Int} (hs : Sh w) (hb : bx b) (hx1 : bd x1) (h : pX 58 4 [some (.ref b), some (iv x1), some (iv 0), some (iv 0)] [] w Q) : pC 58 [.ref b, iv x1] w Q :=
  (pC_in (Nat.le_of_ble_eq_true rfl) rfl Q).mpr (v58_0 hs hb hx1 h)
theorem v58_4 {w : PW} {Q : PO → PW → Prop} {b : Nat} {x1 : Int} {x2 : Int} {x3 : Int} (hs : Sh w) (hb : bx b) (hx1 : bd x1) (hx2 : bd x2) (hx3 : bd x3) (h : ((gI w b 4) ≤ x3 → Q (.inl (some (iv x2))) w) ∧ (x3 < (gI w b 4) → (bd ((gI w b 1) * x3 + x1)) ∧ pX 58 4 [some (.ref b), some (iv x1), some (iv (x2 + ((cnt (tL (lP w b ((gI w b 1) * x3 + x1))) 64 : Int)))), some (iv (x3 + 1))] [] w Q)) : pX 58 4 [some (.ref b), some (iv x1), some (iv x2), some (iv x3)] [] w Q :=
  w_f b58 d58_4 rfl rfl rfl <| w_f b58 d58_5 rfl rfl rfl <| w_gi b58 d58_6 rfl rfl hs (bx00 hb) (tb0 hb) rfl <| w_icge b58 d58_9 rfl rfl (p58 _ _) hx3 (bd_gI _ _ _) (fun c1 => w_f b58 d58_34 rfl rfl rfl <| w_ri b58 d58_35 r58 (h.1 c1)) (fun c1 => w_f b58 d58_12 rfl rfl rfl <| w_f b58 d58_13 rfl rfl rfl <| w_f b58 d58_14 rfl rfl rfl <| w_f b58 d58_15 rfl rfl rfl <| w_f b58 d58_16 rfl rfl rfl <| w_cc b58 d58_17 rfl (pcl_v (n := 2) rfl rfl rfl (by decide +kernel) (sh_isOb hs (bx00 hb) (tb0 hb)) rfl rfl) rfl <| c28 hs hb hx1 hx3 <| w_cc b58 d58_20 rfl (pcl_v (n := 1) rfl rfl rfl (by decide +kernel) (sh_isOb hs (bx00 hb) (tb0 hb)) rfl rfl) rfl <| c29 hs hb (h.2 c1).1 <| w_cc b58 d58_23 rfl (pcl_s1 (n := 1) rfl rfl rfl (by decide +kernel) rfl rfl) rfl <| c57 hs <| w_f b58 d58_26 rfl (pf_iadd x2 ((cnt (tL (lP w b ((gI w b 1) * x3 + x1))) 64 : Int))) rfl <| w_f b58 d58_27 rfl rfl rfl <| w_f b58 d58_28 rfl (pf_iinc rfl rfl) rfl <| w_j b58 d58_31 rfl (p58 _ _) <| (h.2 c1).2)
/-! 59: PinBarrel$Box.allPins()I -/
theorem b59 : mB 59 = cX0_allPins := rfl
theorem r59 : mR 59 = (some .int) := rfl
theorem p59 (a b : Nat) : phi 59 a ≤ phi 59 b := Nat.le_refl 0
theorem d59_0 : decode cX0_allPins 0 = .ok (.iconst 0, 1) := by decide +kernel
theorem d59_1 : decode cX0_allPins 1 = .ok (.istore_n 1, 1) := by decide +kernel
theorem d59_2 : decode cX0_allPins 2 = .ok (.iconst 0, 1) := by decide +kernel
theorem d59_3 : decode cX0_allPins 3 = .ok (.istore_n 2, 1) := by decide +kernel
theorem d59_4 : decode cX0_allPins 4 = .ok (.iload_n 2, 1) := by decide +kernel
theorem d59_5 : decode cX0_allPins 5 = .ok (.aload_n 0, 1) := by decide +kernel
theorem d59_6 : decode cX0_allPins 6 = .ok (.getfield 15, 3) := by decide +kernel
theorem d59_9 : decode cX0_allPins 9 = .ok (.if_icmp .ge 17, 3) := by decide +kernel
theorem d59_12 : decode cX0_allPins 12 = .ok (.iload_n 1, 1) := by decide +kernel
theorem d59_13 : decode cX0_allPins 13 = .ok (.aload_n 0, 1) := by decide +kernel
theorem d59_14 : decode cX0_allPins 14 = .ok (.iload_n 2, 1) := by decide +kernel
theorem d59_15 : decode cX0_allPins 15 = .ok (.invokevirtual 101, 3) := by decide +kernel
theorem d59_18 : decode cX0_allPins 18 = .ok (.iadd, 1) := by decide +kernel
theorem d59_19 : decode cX0_allPins 19 = .ok (.istore_n 1, 1) := by decide +kernel
theorem d59_20 : decode cX0_allPins 20 = .ok (.iinc 2 1, 3) := by decide +kernel
theorem d59_23 : decode cX0_allPins 23 = .ok (.goto (-19), 3) := by decide +kernel
theorem d59_26 : decode cX0_allPins 26 = .ok (.iload_n 1, 1) := by decide +kernel
theorem d59_27 : decode cX0_allPins 27 = .ok (.ireturn, 1) := by decide +kernel
theorem v59_0 {w : PW} {Q : PO → PW → Prop} {b : Nat} (hs : Sh w) (hb : bx b) (h : pX 59 4 [some (.ref b), some (iv 0), some (iv 0)] [] w Q) : pX 59 0 [some (.ref b), none, none] [] w Q :=
  w_f b59 d59_0 rfl rfl rfl <| w_f b59 d59_1 rfl rfl rfl <| w_f b59 d59_2 rfl rfl rfl <| w_f b59 d59_3 rfl rfl rfl <| h
theorem e59 {w : PW} {Q : PO → PW → Prop} {b : Nat} (hs : Sh w) (hb : bx b) (h : pX 59 4 [some (.ref b), some (iv 0), some (iv 0)] [] w Q) : pC 59 [.ref b] w Q :=
  (pC_in (Nat.le_of_ble_eq_true rfl) rfl Q).mpr (v59_0 hs hb h)
theorem v59_4 {w : PW} {Q : PO → PW → Prop} {b : Nat} {x1 : Int} {x2 : Int} (hs : Sh w) (hb : bx b) (hx1 : bd x1) (hx2 : bd x2) (h : ((gI w b 1) ≤ x2 → Q (.inl (some (iv x1))) w) ∧ (x2 < (gI w b 1) → pC 58 [.ref b, iv x2] w (kI fun u3 w2 => Sh w2 ∧ pX 59 4 [some (.ref b), some (iv (x1 + u3)), some (iv (x2 + 1))] [] w2 Q))) : pX 59 4 [some (.ref b), some (iv x1), some (iv x2)] [] w Q :=
  w_f b59 d59_4 rfl rfl rfl <| w_f b59 d59_5 rfl rfl rfl <| w_gi b59 d59_6 rfl rfl hs (bx00 hb) (tb0 hb) rfl <| w_icge b59 d59_9 rfl rfl (p59 _ _) hx2 (bd_gI _ _ _) (fun c1 => w_f b59 d59_26 rfl rfl rfl <| w_ri b59 d59_27 r59 (h.1 c1)) (fun c1 => w_f b59 d59_12 rfl rfl rfl <| w_f b59 d59_13 rfl rfl rfl <| w_f b59 d59_14 rfl rfl rfl <| w_c b59 d59_15 rfl (pcl_v (n := 1) rfl rfl rfl (by decide +kernel) (sh_isOb hs (bx00 hb) (tb0 hb)) rfl rfl) rfl _ (hK_I fun u3 w2 hbu3 hkw2 => w_f b59 d59_18 rfl (pf_iadd x1 _) rfl <| w_f b59 d59_19 rfl rfl rfl <| w_f b59 d59_20 rfl (pf_iinc rfl rfl) rfl <| w_j b59 d59_23 rfl (p59 _ _) <| hkw2.2) (h.2 c1))
/-! 68: PinBarrel$Box.pinsOfTooth(I)I -/
theorem b68 : mB 68 = cX0_pinsOfTooth := rfl
theorem r68 : mR 68 = (some .int) := rfl
theorem p68 (a b : Nat) : phi 68 a ≤ phi 68 b := Nat.le_refl 0
theorem d68_0 : decode cX0_pinsOfTooth 0 = .ok (.iconst 0, 1) := by decide +kernel
theorem d68_1 : decode cX0_pinsOfTooth 1 = .ok (.istore_n 2, 1) := by decide +kernel
theorem d68_2 : decode cX0_pinsOfTooth 2 = .ok (.iconst 0, 1) := by decide +kernel
theorem d68_3 : decode cX0_pinsOfTooth 3 = .ok (.istore_n 3, 1) := by decide +kernel
theorem d68_4 : decode cX0_pinsOfTooth 4 = .ok (.iload_n 3, 1) := by decide +kernel
theorem d68_5 : decode cX0_pinsOfTooth 5 = .ok (.aload_n 0, 1) := by decide +kernel
theorem d68_6 : decode cX0_pinsOfTooth 6 = .ok (.getfield 15, 3) := by decide +kernel
theorem d68_9 : decode cX0_pinsOfTooth 9 = .ok (.if_icmp .ge 25, 3) := by decide +kernel
theorem d68_12 : decode cX0_pinsOfTooth 12 = .ok (.iload_n 2, 1) := by decide +kernel
theorem d68_13 : decode cX0_pinsOfTooth 13 = .ok (.aload_n 0, 1) := by decide +kernel
theorem d68_14 : decode cX0_pinsOfTooth 14 = .ok (.aload_n 0, 1) := by decide +kernel
theorem d68_15 : decode cX0_pinsOfTooth 15 = .ok (.iload_n 3, 1) := by decide +kernel
theorem d68_16 : decode cX0_pinsOfTooth 16 = .ok (.iload_n 1, 1) := by decide +kernel
theorem d68_17 : decode cX0_pinsOfTooth 17 = .ok (.invokevirtual 81, 3) := by decide +kernel
theorem d68_20 : decode cX0_pinsOfTooth 20 = .ok (.invokevirtual 85, 3) := by decide +kernel
theorem d68_23 : decode cX0_pinsOfTooth 23 = .ok (.invokestatic 105, 3) := by decide +kernel
theorem d68_26 : decode cX0_pinsOfTooth 26 = .ok (.iadd, 1) := by decide +kernel
theorem d68_27 : decode cX0_pinsOfTooth 27 = .ok (.istore_n 2, 1) := by decide +kernel
theorem d68_28 : decode cX0_pinsOfTooth 28 = .ok (.iinc 3 1, 3) := by decide +kernel
theorem d68_31 : decode cX0_pinsOfTooth 31 = .ok (.goto (-27), 3) := by decide +kernel
theorem d68_34 : decode cX0_pinsOfTooth 34 = .ok (.iload_n 2, 1) := by decide +kernel
theorem d68_35 : decode cX0_pinsOfTooth 35 = .ok (.ireturn, 1) := by decide +kernel
theorem v68_0 {w : PW} {Q : PO → PW → Prop} {b : Nat} {x1 : Int} (hs : Sh w) (hb : bx b) (hx1 : bd x1) (h : pX 68 4 [some (.ref b), some (iv x1), some (iv 0), some (iv 0)] [] w Q) : pX 68 0 [some (.ref b), some (iv x1), none, none] [] w Q :=
  w_f b68 d68_0 rfl rfl rfl <| w_f b68 d68_1 rfl rfl rfl <| w_f b68 d68_2 rfl rfl rfl <| w_f b68 d68_3 rfl rfl rfl <| h
theorem e68 {w : PW} {Q : PO → PW → Prop} {b : Nat} {x1 : Int} (hs : Sh w) (hb : bx b) (hx1 : bd x1) (h : pX 68 4 [some (.ref b), some (iv x1), some (iv 0), some (iv 0)] [] w Q) : pC 68 [.ref b, iv x1] w Q :=
  (pC_in (Nat.le_of_ble_eq_true rfl) rfl Q).mpr (v68_0 hs hb hx1 h)
theorem v68_4 {w : PW} {Q : PO → PW → Prop} {b : Nat} {x1 : Int} {x2 : Int} {x3 : Int} (hs : Sh w) (hb : bx b) (hx1 : bd x1) (hx2 : bd x2) (hx3 : bd x3) (h : ((gI w b 1) ≤ x3 → Q (.inl (some (iv x2))) w) ∧ (x3 < (gI w b 1) → (bd ((gI w b 1) * x1 + x3)) ∧ pX 68 4 [some (.ref b), some (iv x1), some (iv (x2 + ((cnt (tL (lP w b ((gI w b 1) * x1 + x3))) 64 : Int)))), some (iv (x3 + 1))] [] w Q)) : pX 68 4 [some (.ref b), some (iv x1), some (iv x2), some (iv x3)] [] w Q :=
  w_f b68 d68_4 rfl rfl rfl <| w_f b68 d68_5 rfl rfl rfl <| w_gi b68 d68_6 rfl rfl hs (bx00 hb) (tb0 hb) rfl <| w_icge b68 d68_9 rfl rfl (p68 _ _) hx3 (bd_gI _ _ _) (fun c1 => w_f b68 d68_34 rfl rfl rfl <| w_ri b68 d68_35 r68 (h.1 c1)) (fun c1 => w_f b68 d68_12 rfl rfl rfl <| w_f b68 d68_13 rfl rfl rfl <| w_f b68 d68_14 rfl rfl rfl <| w_f b68 d68_15 rfl rfl rfl <| w_f b68 d68_16 rfl rfl rfl <| w_cc b68 d68_17 rfl (pcl_v (n := 2) rfl rfl rfl (by decide +kernel) (sh_isOb hs (bx00 hb) (tb0 hb)) rfl rfl) rfl <| c28 hs hb hx3 hx1 <| w_cc b68 d68_20 rfl (pcl_v (n := 1) rfl rfl rfl (by decide +kernel) (sh_isOb hs (bx00 hb) (tb0 hb)) rfl rfl) rfl <| c29 hs hb (h.2 c1).1 <| w_cc b68 d68_23 rfl (pcl_s1 (n := 1) rfl rfl rfl (by decide +kernel) rfl rfl) rfl <| c57 hs <| w_f b68 d68_26 rfl (pf_iadd x2 ((cnt (tL (lP w b ((gI w b 1) * x1 + x3))) 64 : Int))) rfl <| w_f b68 d68_27 rfl rfl rfl <| w_f b68 d68_28 rfl (pf_iinc rfl rfl) rfl <| w_j b68 d68_31 rfl (p68 _ _) <| (h.2 c1).2)
theorem l58_4 {w : PW} {Q : PO → PW → Prop} {b u : Nat} {m : Row} (hs : Sh w) (hB : BR w b m) (hu : (u : Int) < m 1) (h : Q (.inl (some (iv (sPins m u)))) w) : ∀ k i : Nat, i + k = (m 4).toNat → pX 58 4 [some (.ref b), some (iv (u : Nat)), some (iv (sm (sPinT m u) i)), some (iv (i : Nat))] [] w Q := by
  have h4 := hB.ok.t
  have h1 := hB.ok.u
  have hb : ∀ i : Nat, i ≤ 12 → bd (sm (sPinT m u) i) := by
    intro i hi
    have := sm_le (N := 12) (n := i) (c := 64) (fun i => sPinT_bd hB.ok u i) hi (by decide)
    exact ⟨by omega, by omega⟩
  intro k
  induction k with
  | zero =>
    intro i hi 
    refine v58_4 hs hB.bx (bdk (by omega)) (hb i (by omega)) (bdk (by omega)) ?_
    rw [hB.t]
    refine ⟨fun _ => ?_, fun q => by omega⟩
    unfold sPins at h
    rw [show (m 4).toNat = i from by omega] at h
    exact h
  | succ k ih =>
    intro i hi 
    refine v58_4 hs hB.bx (bdk (by omega)) (hb i (by omega)) (bdk (by omega)) ?_
    rw [hB.t, hB.u]
    refine ⟨fun q => by omega, fun _ => ⟨hB.tb ⟨by omega, hu⟩ (by omega), ?_⟩⟩
    rw [hB.cntP hu (by omega)]
    exact ih (i + 1) (by omega)
theorem l59_4 {w : PW} {Q : PO → PW → Prop} {b : Nat} {m : Row} (hs : Sh w) (hB : BR w b m) (hc : ∀ u : Nat, (u : Int) < m 1 → ∀ Q : PO → PW → Prop, Q (.inl (some (iv (sPins m u)))) w → pC 58 [.ref b, iv (u : Nat)] w Q) (h : Q (.inl (some (iv (sAll m)))) w) : ∀ k i : Nat, i + k = (m 1).toNat → pX 59 4 [some (.ref b), some (iv (sm (sPins m) i)), some (iv (i : Nat))] [] w Q := by
  have h1 := hB.ok.u
  have hb : ∀ i : Nat, i ≤ 3 → bd (sm (sPins m) i) := by
    intro i hi
    have := sm_le (N := 3) (n := i) (c := 768) (fun i => sPins_bd hB.ok i) hi (by decide)
    exact ⟨by omega, by omega⟩
  intro k
  induction k with
  | zero =>
    intro i hi 
    refine v59_4 hs hB.bx (hb i (by omega)) (bdk (by omega)) ?_
    rw [hB.u]
    refine ⟨fun _ => ?_, fun q => by omega⟩
    unfold sAll at h
    rw [show (m 1).toNat = i from by omega] at h
    exact h
  | succ k ih =>
    intro i hi 
    have h9 := sPins_bd hB.ok i
    refine v59_4 hs hB.bx (hb i (by omega)) (bdk (by omega)) ?_
    rw [hB.u]
    exact ⟨fun q => by omega, fun _ => hc i (by omega) _ (kI_iv ⟨by omega, by omega⟩ ⟨hs, ih (i + 1) (by omega)⟩)⟩
theorem l68_4 {w : PW} {Q : PO → PW → Prop} {b t : Nat} {m : Row} (hs : Sh w) (hB : BR w b m) (ht : (t : Int) < m 4) (h : Q (.inl (some (iv (sTooth m t)))) w) : ∀ k i : Nat, i + k = (m 1).toNat → pX 68 4 [some (.ref b), some (iv (t : Nat)), some (iv (sm (fun u => sPinT m u t) i)), some (iv (i : Nat))] [] w Q := by
  have h4 := hB.ok.t
  have h1 := hB.ok.u
  have hb : ∀ i : Nat, i ≤ 3 → bd (sm (fun u => sPinT m u t) i) := by
    intro i hi
    have := sm_le (N := 3) (n := i) (c := 64) (fun u => sPinT_bd hB.ok u t) hi (by decide)
    exact ⟨by omega, by omega⟩
  intro k
  induction k with
  | zero =>
    intro i hi 
    refine v68_4 hs hB.bx (bdk (by omega)) (hb i (by omega)) (bdk (by omega)) ?_
    rw [hB.u]
    refine ⟨fun _ => ?_, fun q => by omega⟩
    unfold sTooth at h
    rw [show (m 1).toNat = i from by omega] at h
    exact h
  | succ k ih =>
    intro i hi 
    refine v68_4 hs hB.bx (bdk (by omega)) (hb i (by omega)) (bdk (by omega)) ?_
    rw [hB.u]
    refine ⟨fun q => by omega, fun _ => ⟨hB.tb ⟨by omega, by omega⟩ (by omega), ?_⟩⟩
    rw [hB.cntP (u := i) (by omega) ht]
    exact ih (i + 1) (by omega)
theorem c58 {w : PW} {Q : PO → PW → Prop} {b u : Nat} {m : Row} (hs : Sh w) (hB : BR w b m) (hu : (u : Int) < m 1) (h : Q (.inl (some (iv (sPins m u)))) w) : pC 58 [.ref b, iv (u : Nat)] w Q :=
  e58 hs hB.bx (bdk (by have := hB.ok.u; omega)) (l58_4 hs hB hu h (m 4).toNat 0 (by omega))
theorem c59 {w : PW} {Q : PO → PW → Prop} {b : Nat} {m : Row} (hs : Sh w) (hB : BR w b m) (h : Q (.inl (some (iv (sAll m)))) w) : pC 59 [.ref b] w Q :=
  e59 hs hB.bx (l59_4 hs hB (fun u hu Q hQ => c58 hs hB hu hQ) h (m 1).toNat 0 (by omega))
theorem c68 {w : PW} {Q : PO → PW → Prop} {b t : Nat} {m : Row} (hs : Sh w) (hB : BR w b m) (ht : (t : Int) < m 4) (h : Q (.inl (some (iv (sTooth m t)))) w) : pC 68 [.ref b, iv (t : Nat)] w Q :=
  e68 hs hB.bx (bdk (by have := hB.ok.t; omega)) (l68_4 hs hB ht h (m 1).toNat 0 (by omega))
/-! 154: PinBarrel$Box.stepsWithPins(I)J -/
theorem b154 : mB 154 = cX0_stepsWithPins := rfl
theorem r154 : mR 154 = (some .long) := rfl
theorem p154 (a b : Nat) : phi 154 a ≤ phi 154 b := Nat.le_refl 0
theorem d154_0 : decode cX0_stepsWithPins 0 = .ok (.lconst 0, 1) := by decide +kernel
theorem d154_1 : decode cX0_stepsWithPins 1 = .ok (.lstore_n 2, 1) := by decide +kernel
theorem d154_2 : decode cX0_stepsWithPins 2 = .ok (.iconst 0, 1) := by decide +kernel
theorem d154_3 : decode cX0_stepsWithPins 3 = .ok (.istore 4, 2) := by decide +kernel
theorem d154_5 : decode cX0_stepsWithPins 5 = .ok (.iload 4, 2) := by decide +kernel
theorem d154_7 : decode cX0_stepsWithPins 7 = .ok (.aload_n 0, 1) := by decide +kernel
theorem d154_8 : decode cX0_stepsWithPins 8 = .ok (.getfield 24, 3) := by decide +kernel
theorem d154_11 : decode cX0_stepsWithPins 11 = .ok (.if_icmp .ge 23, 3) := by decide +kernel
theorem d154_14 : decode cX0_stepsWithPins 14 = .ok (.lload_n 2, 1) := by decide +kernel
theorem d154_15 : decode cX0_stepsWithPins 15 = .ok (.aload_n 0, 1) := by decide +kernel
theorem d154_16 : decode cX0_stepsWithPins 16 = .ok (.aload_n 0, 1) := by decide +kernel
theorem d154_17 : decode cX0_stepsWithPins 17 = .ok (.iload_n 1, 1) := by decide +kernel
theorem d154_18 : decode cX0_stepsWithPins 18 = .ok (.iload 4, 2) := by decide +kernel
theorem d154_20 : decode cX0_stepsWithPins 20 = .ok (.invokevirtual 81, 3) := by decide +kernel
theorem d154_23 : decode cX0_stepsWithPins 23 = .ok (.invokevirtual 85, 3) := by decide +kernel
theorem d154_26 : decode cX0_stepsWithPins 26 = .ok (.lor, 1) := by decide +kernel
theorem d154_27 : decode cX0_stepsWithPins 27 = .ok (.lstore_n 2, 1) := by decide +kernel
theorem d154_28 : decode cX0_stepsWithPins 28 = .ok (.iinc 4 1, 3) := by decide +kernel
theorem d154_31 : decode cX0_stepsWithPins 31 = .ok (.goto (-26), 3) := by decide +kernel
theorem d154_34 : decode cX0_stepsWithPins 34 = .ok (.lload_n 2, 1) := by decide +kernel
theorem d154_35 : decode cX0_stepsWithPins 35 = .ok (.lreturn, 1) := by decide +kernel
theorem v154_0 {w : PW} {Q : PO → PW → Prop} {b : Nat} {x1 : Int} (hs : Sh w) (hb : bx b) (hx1 : bd x1) (h : pX 154 5 [some (.ref b), some (iv x1), some (.long ((0 : Int64))), none, some (iv 0)] [] w Q) : pX 154 0 [some (.ref b), some (iv x1), none, none, none] [] w Q :=
  w_f b154 d154_0 rfl rfl rfl <| w_f b154 d154_1 rfl rfl rfl <| w_f b154 d154_2 rfl rfl rfl <| w_f b154 d154_3 rfl rfl rfl <| h
theorem e154 {w : PW} {Q : PO → PW → Prop} {b : Nat} {x1 : Int} (hs : Sh w) (hb : bx b) (hx1 : bd x1) (h : pX 154 5 [some (.ref b), some (iv x1), some (.long ((0 : Int64))), none, some (iv 0)] [] w Q) : pC 154 [.ref b, iv x1] w Q :=
  (pC_in (Nat.le_of_ble_eq_true rfl) rfl Q).mpr (v154_0 hs hb hx1 h)
theorem v154_5 {w : PW} {Q : PO → PW → Prop} {b : Nat} {x1 : Int} {y2 : Int64} {x4 : Int} (hs : Sh w) (hb : bx b) (hx1 : bd x1) (hx4 : bd x4) (h : ((gI w b 4) ≤ x4 → Q (.inl (some (.long y2))) w) ∧ (x4 < (gI w b 4) → (bd ((gI w b 1) * x4 + x1)) ∧ pX 154 5 [some (.ref b), some (iv x1), some (.long (y2 ||| (lP w b ((gI w b 1) * x4 + x1)))), none, some (iv (x4 + 1))] [] w Q)) : pX 154 5 [some (.ref b), some (iv x1), some (.long y2), none, some (iv x4)] [] w Q :=
  w_f b154 d154_5 rfl rfl rfl <| w_f b154 d154_7 rfl rfl rfl <| w_gi b154 d154_8 rfl rfl hs (bx00 hb) (tb0 hb) rfl <| w_icge b154 d154_11 rfl rfl (p154 _ _) hx4 (bd_gI _ _ _) (fun c1 => w_f b154 d154_34 rfl rfl rfl <| w_rl b154 d154_35 r154 (h.1 c1)) (fun c1 => w_f b154 d154_14 rfl rfl rfl <| w_f b154 d154_15 rfl rfl rfl <| w_f b154 d154_16 rfl rfl rfl <| w_f b154 d154_17 rfl rfl rfl <| w_f b154 d154_18 rfl rfl rfl <| w_cc b154 d154_20 rfl (pcl_v (n := 2) rfl rfl rfl (by decide +kernel) (sh_isOb hs (bx00 hb) (tb0 hb)) rfl rfl) rfl <| c28 hs hb hx1 hx4 <| w_cc b154 d154_23 rfl (pcl_v (n := 1) rfl rfl rfl (by decide +kernel) (sh_isOb hs (bx00 hb) (tb0 hb)) rfl rfl) rfl <| c29 hs hb (h.2 c1).1 <| w_f b154 d154_26 rfl rfl rfl <| w_f b154 d154_27 rfl rfl rfl <| w_f b154 d154_28 rfl (pf_iinc rfl rfl) rfl <| w_j b154 d154_31 rfl (p154 _ _) <| (h.2 c1).2)
/-! 84: PinBarrel$Box.teethAt(II)I -/
theorem b84 : mB 84 = cX0_teethAt := rfl
theorem r84 : mR 84 = (some .int) := rfl
theorem p84 (a b : Nat) : phi 84 a ≤ phi 84 b := Nat.le_refl 0
theorem d84_0 : decode cX0_teethAt 0 = .ok (.iconst 0, 1) := by decide +kernel
theorem d84_1 : decode cX0_teethAt 1 = .ok (.istore_n 3, 1) := by decide +kernel
theorem d84_2 : decode cX0_teethAt 2 = .ok (.iconst 0, 1) := by decide +kernel
theorem d84_3 : decode cX0_teethAt 3 = .ok (.istore 4, 2) := by decide +kernel
theorem d84_5 : decode cX0_teethAt 5 = .ok (.iload 4, 2) := by decide +kernel
theorem d84_7 : decode cX0_teethAt 7 = .ok (.aload_n 0, 1) := by decide +kernel
theorem d84_8 : decode cX0_teethAt 8 = .ok (.getfield 24, 3) := by decide +kernel
theorem d84_11 : decode cX0_teethAt 11 = .ok (.if_icmp .ge 27, 3) := by decide +kernel
theorem d84_14 : decode cX0_teethAt 14 = .ok (.aload_n 0, 1) := by decide +kernel
theorem d84_15 : decode cX0_teethAt 15 = .ok (.iload_n 1, 1) := by decide +kernel
theorem d84_16 : decode cX0_teethAt 16 = .ok (.iload_n 2, 1) := by decide +kernel
theorem d84_17 : decode cX0_teethAt 17 = .ok (.iload 4, 2) := by decide +kernel
theorem d84_19 : decode cX0_teethAt 19 = .ok (.invokevirtual 111, 3) := by decide +kernel
theorem d84_22 : decode cX0_teethAt 22 = .ok (.ifCond .eq 10, 3) := by decide +kernel
theorem d84_25 : decode cX0_teethAt 25 = .ok (.iload_n 3, 1) := by decide +kernel
theorem d84_26 : decode cX0_teethAt 26 = .ok (.iconst 1, 1) := by decide +kernel
theorem d84_27 : decode cX0_teethAt 27 = .ok (.iload 4, 2) := by decide +kernel
theorem d84_29 : decode cX0_teethAt 29 = .ok (.ishl, 1) := by decide +kernel
theorem d84_30 : decode cX0_teethAt 30 = .ok (.ior, 1) := by decide +kernel
theorem d84_31 : decode cX0_teethAt 31 = .ok (.istore_n 3, 1) := by decide +kernel
theorem d84_32 : decode cX0_teethAt 32 = .ok (.iinc 4 1, 3) := by decide +kernel
theorem d84_35 : decode cX0_teethAt 35 = .ok (.goto (-30), 3) := by decide +kernel
theorem d84_38 : decode cX0_teethAt 38 = .ok (.iload_n 3, 1) := by decide +kernel
theorem d84_39 : decode cX0_teethAt 39 = .ok (.ireturn, 1) := by decide +kernel
theorem v84_0 {w : PW} {Q : PO → PW → Prop} {b : Nat} {x1 : Int} {x2 : Int} (hs : Sh w) (hb : bx b) (hx1 : bd x1) (hx2 : bd x2) (h : pX 84 5 [some (.ref b), some (iv x1), some (iv x2), some (iv 0), some (iv 0)] [] w Q) : pX 84 0 [some (.ref b), some (iv x1), some (iv x2), none, none] [] w Q :=
  w_f b84 d84_0 rfl rfl rfl <| w_f b84 d84_1 rfl rfl rfl <| w_f b84 d84_2 rfl rfl rfl <| w_f b84 d84_3 rfl rfl rfl <| h
theorem e84 {w : PW} {Q : PO → PW → Prop} {b : Nat} {x1 : Int} {x2 : Int} (hs : Sh w) (hb : bx b) (hx1 : bd x1) (hx2 : bd x2) (h : pX 84 5 [some (.ref b), some (iv x1), some (iv x2), some (iv 0), some (iv 0)] [] w Q) : pC 84 [.ref b, iv x1, iv x2] w Q :=
  (pC_in (Nat.le_of_ble_eq_true rfl) rfl Q).mpr (v84_0 hs hb hx1 hx2 h)
theorem v84_5 {w : PW} {Q : PO → PW → Prop} {b : Nat} {x1 : Int} {x2 : Int} {x3 : Int} {x4 : Int} (hs : Sh w) (hb : bx b) (hx1 : bd x1) (hx2 : bd x2) (hx3 : bd x3) (hx4 : bd x4) (h : ((gI w b 4) ≤ x4 → Q (.inl (some (iv x3))) w) ∧ (x4 < (gI w b 4) → (bd ((gI w b 1) * x4 + x1)) ∧ (0 ≤ x2 ∧ x2 < 64) ∧ ((¬ (tL (lP w b ((gI w b 1) * x4 + x1)) (x2).toNat = true)) → pX 84 5 [some (.ref b), some (iv x1), some (iv x2), some (iv x3), some (iv (x4 + 1))] [] w Q) ∧ ((tL (lP w b ((gI w b 1) * x4 + x1)) (x2).toNat = true) → pX 84 5 [some (.ref b), some (iv x1), some (iv x2), some (iv (iOr x3 (iShl 1 x4))), some (iv (x4 + 1))] [] w Q))) : pX 84 5 [some (.ref b), some (iv x1), some (iv x2), some (iv x3), some (iv x4)] [] w Q :=
  w_f b84 d84_5 rfl rfl rfl <| w_f b84 d84_7 rfl rfl rfl <| w_gi b84 d84_8 rfl rfl hs (bx00 hb) (tb0 hb) rfl <| w_icge b84 d84_11 rfl rfl (p84 _ _) hx4 (bd_gI _ _ _) (fun c1 => w_f b84 d84_38 rfl rfl rfl <| w_ri b84 d84_39 r84 (h.1 c1)) (fun c1 => w_f b84 d84_14 rfl rfl rfl <| w_f b84 d84_15 rfl rfl rfl <| w_f b84 d84_16 rfl rfl rfl <| w_f b84 d84_17 rfl rfl rfl <| w_cc b84 d84_19 rfl (pcl_v (n := 3) rfl rfl rfl (by decide +kernel) (sh_isOb hs (bx00 hb) (tb0 hb)) rfl rfl) rfl <| c43 hs hb hx1 hx2 hx4 (h.2 c1).1 (h.2 c1).2.1 <| w_ifeqZ b84 d84_22 rfl rfl (p84 _ _) (fun c2 => w_f b84 d84_32 rfl (pf_iinc rfl rfl) rfl <| w_j b84 d84_35 rfl (p84 _ _) <| ((h.2 c1).2.2.1 c2)) (fun c2 => w_f b84 d84_25 rfl rfl rfl <| w_f b84 d84_26 rfl rfl rfl <| w_f b84 d84_27 rfl rfl rfl <| w_f b84 d84_29 rfl (pf_ishl 1 x4) rfl <| w_f b84 d84_30 rfl (pf_ior x3 (iShl 1 x4)) rfl <| w_f b84 d84_31 rfl rfl rfl <| w_f b84 d84_32 rfl (pf_iinc rfl rfl) rfl <| w_j b84 d84_35 rfl (p84 _ _) <| ((h.2 c1).2.2.2 c2)))
theorem l154_5 {w : PW} {Q : PO → PW → Prop} {b u : Nat} {m : Row} (hs : Sh w) (hB : BR w b m) (hu : (u : Int) < m 1) (h : ∀ X : Int64, (∀ s, s < 64 → tL X s = (decide ((s : Int) < m 0) && decide (0 < cnt (fun t => rPin m u s t) (m 4).toNat))) → Q (.inl (some (.long X))) w) : ∀ k i : Nat, i + k = (m 4).toNat → ∀ y2 : Int64, (∀ s, s < 64 → tL y2 s = (decide ((s : Int) < m 0) && decide (0 < cnt (fun t => rPin m u s t) i))) → pX 154 5 [some (.ref b), some (iv (u : Nat)), some (.long y2), none, some (iv (i : Nat))] [] w Q := by
  have h4 := hB.ok.t
  have h1 := hB.ok.u
  intro k
  induction k with
  | zero =>
    intro i hi y2 hy 
    refine v154_5 hs hB.bx (bdk (by omega)) (bdk (by omega)) ?_
    rw [hB.t]
    refine ⟨fun _ => h y2 ?_, fun q => by omega⟩
    rw [show (m 4).toNat = i from by omega]
    exact hy
  | succ k ih =>
    intro i hi y2 hy 
    refine v154_5 hs hB.bx (bdk (by omega)) (bdk (by omega)) ?_
    rw [hB.t, hB.u]
    refine ⟨fun q => by omega, fun _ => ⟨hB.tb ⟨by omega, hu⟩ (by omega), ih (i + 1) (by omega) _ (fun s hs9 => ?_)⟩⟩
    rw [tL_or, hy s hs9, hB.bits hu hs9, decide_eq_true (p := (i : Int) < m 4) (by omega), Bool.true_and, ← Bool.and_or_distrib_left, cnt_s]
    congr 1
    cases hp : rPin m u s i with
    | true => rw [if_pos rfl, Bool.or_true, decide_eq_true (by omega)]
    | false => rw [if_neg (by decide), Bool.or_false, Nat.add_zero]
theorem l84_5 {w : PW} {Q : PO → PW → Prop} {b u s : Nat} {m : Row} (hs : Sh w) (hB : BR w b m) (hu : (u : Int) < m 1) (hS : (s : Int) < m 0) (h : Q (.inl (some (iv (m (251 + 64 * u + s))))) w) : ∀ k i : Nat, i + k = (m 4).toNat → ∀ z : Int, bd z → (∀ t, t < 32 → tI z t = (decide (t < i) && rPin m u s t)) → pX 84 5 [some (.ref b), some (iv (u : Nat)), some (iv (s : Nat)), some (iv z), some (iv (i : Nat))] [] w Q := by
  have h4 := hB.ok.t
  have h1 := hB.ok.u
  have h0 := hB.ok.s
  have hP := hB.ok.P hu hS
  intro k
  induction k with
  | zero =>
    intro i hi z hz hb 
    refine v84_5 hs hB.bx (bdk (by omega)) (bdk (by omega)) hz (bdk (by omega)) ?_
    rw [hB.t]
    refine ⟨fun _ => ?_, fun q => by omega⟩
    rw [← tI_ext hz hP.1 (fun t ht => ?_)] at h
    · exact h
    · rw [hb t ht]
      show (decide (t < i) && rPin m u s t) = rPin m u s t
      cases hp : rPin m u s t with
      | true => rw [decide_eq_true (by have := hP.2 t ht hp; omega)]; rfl
      | false => rw [Bool.and_false]
  | succ k ih =>
    intro i hi z hz hb 
    refine v84_5 hs hB.bx (bdk (by omega)) (bdk (by omega)) hz (bdk (by omega)) ?_
    rw [hB.t, hB.u, hB.pin (s := (s : Nat)) ⟨by omega, hu⟩ ⟨by omega, hS⟩ (by omega)]
    refine ⟨fun q => by omega, fun _ => ⟨hB.tb ⟨by omega, hu⟩ (by omega), ⟨by omega, by omega⟩, fun q => ih (i + 1) (by omega) _ hz (fun t ht => ?_), fun q => ih (i + 1) (by omega) _ (bd_toInt _) (fun t ht => ?_)⟩⟩
    · rw [hb t ht]
      by_cases e : t = i
      · subst e
        have q2 : rPin m u s t = false := Bool.eq_false_iff.mpr q
        rw [q2, Bool.and_false, Bool.and_false]
      · rw [show decide (t < i + 1) = decide (t < i) from decide_eq_decide.mpr ⟨by omega, by omega⟩]
    · rw [tI_or, hb t ht, tI_bit ⟨by omega, by omega⟩ ht, Int.toNat_natCast]
      by_cases e : t = i
      · subst e
        have q2 : rPin m u s t = true := q
        rw [q2, decide_eq_true (p := t = t) rfl, decide_eq_true (p := t < t + 1) (by omega), Bool.or_true]; rfl
      · rw [show decide (t < i + 1) = decide (t < i) from decide_eq_decide.mpr ⟨by omega, by omega⟩, decide_eq_false e, Bool.or_false]
theorem c154 {w : PW} {Q : PO → PW → Prop} {b u : Nat} {m : Row} (hs : Sh w) (hB : BR w b m) (hu : (u : Int) < m 1) (h : ∀ X : Int64, (∀ s, s < 64 → tL X s = (decide ((s : Int) < m 0) && decide (0 < cnt (fun t => rPin m u s t) (m 4).toNat))) → Q (.inl (some (.long X))) w) : pC 154 [.ref b, iv (u : Nat)] w Q :=
  e154 hs hB.bx (bdk (by have := hB.ok.u; omega)) (l154_5 hs hB hu h (m 4).toNat 0 (by omega) 0 (fun s _ => by rw [tL_0, show decide (0 < cnt (fun t => rPin m u s t) 0) = false from rfl, Bool.and_false]))
theorem c84 {w : PW} {Q : PO → PW → Prop} {b u s : Nat} {m : Row} (hs : Sh w) (hB : BR w b m) (hu : (u : Int) < m 1) (hS : (s : Int) < m 0) (h : Q (.inl (some (iv (m (251 + 64 * u + s))))) w) : pC 84 [.ref b, iv (u : Nat), iv (s : Nat)] w Q :=
  e84 hs hB.bx (bdk (by have := hB.ok.u; omega)) (bdk (by have := hB.ok.s; omega)) (l84_5 hs hB hu hS h (m 4).toNat 0 (by omega) 0 bd0 (fun t _ => by rw [tI_0]; rfl))

