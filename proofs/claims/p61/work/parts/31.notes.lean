/-! NOTES AND PINS, counted: the class -/
theorem bdk {n : Nat} (h : n ≤ 2000000) : bd (n : Int) := ⟨by omega, by omega⟩
def sNotes (m : Row) (x : Int) : Nat := cnt (fun i => decide (rN m i 0 = x)) (m 5).toNat
def sUses (m : Row) (x p : Int) : Nat := cnt (fun i => decide (rN m i 0 = x ∧ rN m i 2 = p)) (m 5).toNat
def sLike (m : Row) (k : Nat) : Nat := cnt (fun i => decide (rN m i 0 = rN m k 0 ∧ rN m i 1 = rN m k 1 ∧ rN m i 2 = rN m k 2)) k
def sPlayP (m : Row) (k t : Nat) : Bool := decide (rT m t 0 = rN m k 2) && rPin m (rN m k 0).toNat (rN m k 1).toNat t
def sPlay (m : Row) (k : Nat) : Int := sel (sPlayP m k) (sLike m k) (m 4).toNat
def sPlayed (m : Row) (x : Int) : Nat := cnt (fun k => decide (rN m k 0 = x) && decide (sPlay m k ≠ -1)) (m 5).toNat
def sPinT (m : Row) (u t : Nat) : Int := (cnt (fun s => rPin m u s t) (m 0).toNat : Int)
def sPins (m : Row) (u : Nat) : Int := sm (sPinT m u) (m 4).toNat
def sAll (m : Row) : Int := sm (sPins m) (m 1).toNat
def sTooth (m : Row) (t : Nat) : Int := sm (fun u => sPinT m u t) (m 1).toNat
theorem sPinT_bd {m : Row} (h : RowOK m) (u t : Nat) : 0 ≤ sPinT m u t ∧ sPinT m u t ≤ 64 := by
  have h1 := h.s
  have h2 := cnt_le (fun s => rPin m u s t) (m 0).toNat
  unfold sPinT
  omega
theorem sm_le {f : Nat → Int} {n N : Nat} {c : Int} (h : ∀ i, 0 ≤ f i ∧ f i ≤ c) (hn : n ≤ N) (hc : 0 ≤ c) : 0 ≤ sm f n ∧ sm f n ≤ c * N := by
  have h1 := sm_bd (f := f) (n := n) (fun i _ => h i)
  have h2 : c * (n : Int) ≤ c * N := Int.mul_le_mul_of_nonneg_left (by omega) hc
  omega
theorem sPins_bd {m : Row} (h : RowOK m) (u : Nat) : 0 ≤ sPins m u ∧ sPins m u ≤ 768 := by
  have := sm_le (N := 12) (n := (m 4).toNat) (c := 64) (fun i => sPinT_bd h u i) (by have := h.t; omega) (by decide)
  unfold sPins
  omega
theorem sAll_bd {m : Row} (h : RowOK m) : 0 ≤ sAll m ∧ sAll m ≤ 2304 := by
  have := sm_le (N := 3) (n := (m 1).toNat) (c := 768) (fun i => sPins_bd h i) (by have := h.u; omega) (by decide)
  unfold sAll
  omega
theorem sTooth_bd {m : Row} (h : RowOK m) (t : Nat) : 0 ≤ sTooth m t ∧ sTooth m t ≤ 192 := by
  have := sm_le (N := 3) (n := (m 1).toNat) (c := 64) (fun u => sPinT_bd h u t) (by have := h.u; omega) (by decide)
  unfold sTooth
  omega
/-! 106: PinBarrel$Notes.countOf(I)I -/
theorem b106 : mB 106 = cX2_countOf := rfl
theorem r106 : mR 106 = (some .int) := rfl
theorem p106 (a b : Nat) : phi 106 a ≤ phi 106 b := Nat.le_refl 0
theorem d106_0 : decode cX2_countOf 0 = .ok (.iconst 0, 1) := by decide +kernel
theorem d106_1 : decode cX2_countOf 1 = .ok (.istore_n 2, 1) := by decide +kernel
theorem d106_2 : decode cX2_countOf 2 = .ok (.iconst 0, 1) := by decide +kernel
theorem d106_3 : decode cX2_countOf 3 = .ok (.istore_n 3, 1) := by decide +kernel
theorem d106_4 : decode cX2_countOf 4 = .ok (.iload_n 3, 1) := by decide +kernel
theorem d106_5 : decode cX2_countOf 5 = .ok (.aload_n 0, 1) := by decide +kernel
theorem d106_6 : decode cX2_countOf 6 = .ok (.getfield 9, 3) := by decide +kernel
theorem d106_9 : decode cX2_countOf 9 = .ok (.if_icmp .ge 22, 3) := by decide +kernel
theorem d106_12 : decode cX2_countOf 12 = .ok (.aload_n 0, 1) := by decide +kernel
theorem d106_13 : decode cX2_countOf 13 = .ok (.getfield 15, 3) := by decide +kernel
theorem d106_16 : decode cX2_countOf 16 = .ok (.iload_n 3, 1) := by decide +kernel
theorem d106_17 : decode cX2_countOf 17 = .ok (.iaload, 1) := by decide +kernel
theorem d106_18 : decode cX2_countOf 18 = .ok (.iload_n 1, 1) := by decide +kernel
theorem d106_19 : decode cX2_countOf 19 = .ok (.if_icmp .ne 6, 3) := by decide +kernel
theorem d106_22 : decode cX2_countOf 22 = .ok (.iinc 2 1, 3) := by decide +kernel
theorem d106_25 : decode cX2_countOf 25 = .ok (.iinc 3 1, 3) := by decide +kernel
theorem d106_28 : decode cX2_countOf 28 = .ok (.goto (-24), 3) := by decide +kernel
theorem d106_31 : decode cX2_countOf 31 = .ok (.iload_n 2, 1) := by decide +kernel
theorem d106_32 : decode cX2_countOf 32 = .ok (.ireturn, 1) := by decide +kernel
theorem v106_0 {w : PW} {Q : PO → PW → Prop} {b : Nat} {x1 : Int} (hs : Sh w) (hb : bx b) (hx1 : bd x1) (h : pX 106 4 [some (.ref (b + 4)), some (iv x1), some (iv 0), some (iv 0)] [] w Q) : pX 106 0 [some (.ref (b + 4)), some (iv x1), none, none] [] w Q :=
  w_f b106 d106_0 rfl rfl rfl <| w_f b106 d106_1 rfl rfl rfl <| w_f b106 d106_2 rfl rfl rfl <| w_f b106 d106_3 rfl rfl rfl <| h
theorem e106 {w : PW} {Q : PO → PW → Prop} {b : Nat} {x1 : Int} (hs : Sh w) (hb : bx b) (hx1 : bd x1) (h : pX 106 4 [some (.ref (b + 4)), some (iv x1), some (iv 0), some (iv 0)] [] w Q) : pC 106 [.ref (b + 4), iv x1] w Q :=
  (pC_in (Nat.le_of_ble_eq_true rfl) rfl Q).mpr (v106_0 hs hb hx1 h)
theorem v106_4 {w : PW} {Q : PO → PW → Prop} {b : Nat} {x1 : Int} {x2 : Int} {x3 : Int} (hs : Sh w) (hb : bx b) (hx1 : bd x1) (hx2 : bd x2) (hx3 : bd x3) (h : ((gI w (b + 4) 0) ≤ x3 → Q (.inl (some (iv x2))) w) ∧ (x3 < (gI w (b + 4) 0) → (0 ≤ x3 ∧ x3 < 60) ∧ ((gI w (b + 5) x3.toNat) ≠ x1 → pX 106 4 [some (.ref (b + 4)), some (iv x1), some (iv x2), some (iv (x3 + 1))] [] w Q) ∧ ((gI w (b + 5) x3.toNat) = x1 → pX 106 4 [some (.ref (b + 4)), some (iv x1), some (iv (x2 + 1)), some (iv (x3 + 1))] [] w Q))) : pX 106 4 [some (.ref (b + 4)), some (iv x1), some (iv x2), some (iv x3)] [] w Q :=
  w_f b106 d106_4 rfl rfl rfl <| w_f b106 d106_5 rfl rfl rfl <| w_gi b106 d106_6 rfl rfl hs (bxk hb 4 rfl) (tb4 hb) rfl <| w_icge b106 d106_9 rfl rfl (p106 _ _) hx3 (bd_gI _ _ _) (fun c1 => w_f b106 d106_31 rfl rfl rfl <| w_ri b106 d106_32 r106 (h.1 c1)) (fun c1 => w_f b106 d106_12 rfl rfl rfl <| w_gr b106 d106_13 rfl rfl hs (bxk hb 4 rfl) (tb4 hb) rfl (bxr hb 5 rfl) <| w_f b106 d106_16 rfl rfl rfl <| w_ial b106 d106_17 rfl hs (bxk hb 5 rfl) (tb5 hb) (bdix (n := 60) (h.2 c1).1 rfl) (h.2 c1).1 <| w_f b106 d106_18 rfl rfl rfl <| w_icne b106 d106_19 rfl rfl (p106 _ _) (bd_gI _ _ _) hx1 (fun c2 => w_f b106 d106_25 rfl (pf_iinc rfl rfl) rfl <| w_j b106 d106_28 rfl (p106 _ _) <| ((h.2 c1).2.1 c2)) (fun c2 => w_f b106 d106_22 rfl (pf_iinc rfl rfl) rfl <| w_f b106 d106_25 rfl (pf_iinc rfl rfl) rfl <| w_j b106 d106_28 rfl (p106 _ _) <| ((h.2 c1).2.2 c2)))
theorem l106_4 {w : PW} {Q : PO → PW → Prop} {b : Nat} {m : Row} {x1 : Int} (hs : Sh w) (hB : BR w b m) (hx : bd x1) (h : Q (.inl (some (iv (sNotes m x1 : Nat)))) w) : ∀ k i : Nat, i + k = (m 5).toNat → pX 106 4 [some (.ref (b + 4)), some (iv x1), some (iv (cnt (fun j => decide (rN m j 0 = x1)) i : Nat)), some (iv (i : Nat))] [] w Q := by
  have h5 := hB.ok.n
  intro k
  induction k with
  | zero =>
    intro i hi 
    refine v106_4 hs hB.bx hx (bdk (Nat.le_trans (cnt_le _ _) (by omega))) (bdk (by omega)) ?_
    rw [hB.n]
    refine ⟨fun _ => ?_, fun q => by omega⟩
    unfold sNotes at h
    rw [show (m 5).toNat = i from by omega] at h
    exact h
  | succ k ih =>
    intro i hi 
    obtain ⟨e1, e2, e3⟩ := hB.N (i := i) (by omega)
    refine v106_4 hs hB.bx hx (bdk (Nat.le_trans (cnt_le _ _) (by omega))) (bdk (by omega)) ?_
    rw [hB.n, Int.toNat_natCast, e1]
    refine ⟨fun q => by omega, fun _ => ⟨⟨by omega, by omega⟩, fun q => ?_, fun q => ?_⟩⟩
    · have := ih (i + 1) (by omega)
      rw [cnt_f (decide_eq_false q)] at this
      exact this
    · have := ih (i + 1) (by omega)
      rw [cnt_t (decide_eq_true q)] at this
      exact this
theorem c106 {w : PW} {Q : PO → PW → Prop} {b : Nat} {m : Row} {x1 : Int} (hs : Sh w) (hB : BR w b m) (hx : bd x1) (h : Q (.inl (some (iv (sNotes m x1 : Nat)))) w) : pC 106 [.ref (b + 4), iv x1] w Q :=
  e106 hs hB.bx hx (l106_4 hs hB hx h (m 5).toNat 0 (by omega))
/-! 72: PinBarrel$Notes.likeAhead(I)I -/
theorem b72 : mB 72 = cX2_likeAhead := rfl
theorem r72 : mR 72 = (some .int) := rfl
theorem p72 (a b : Nat) : phi 72 a ≤ phi 72 b := Nat.le_refl 0
theorem d72_0 : decode cX2_likeAhead 0 = .ok (.iconst 0, 1) := by decide +kernel
theorem d72_1 : decode cX2_likeAhead 1 = .ok (.istore_n 2, 1) := by decide +kernel
theorem d72_2 : decode cX2_likeAhead 2 = .ok (.iconst 0, 1) := by decide +kernel
theorem d72_3 : decode cX2_likeAhead 3 = .ok (.istore_n 3, 1) := by decide +kernel
theorem d72_4 : decode cX2_likeAhead 4 = .ok (.iload_n 3, 1) := by decide +kernel
theorem d72_5 : decode cX2_likeAhead 5 = .ok (.iload_n 1, 1) := by decide +kernel
theorem d72_6 : decode cX2_likeAhead 6 = .ok (.if_icmp .ge 57, 3) := by decide +kernel
theorem d72_9 : decode cX2_likeAhead 9 = .ok (.aload_n 0, 1) := by decide +kernel
theorem d72_10 : decode cX2_likeAhead 10 = .ok (.getfield 15, 3) := by decide +kernel
theorem d72_13 : decode cX2_likeAhead 13 = .ok (.iload_n 3, 1) := by decide +kernel
theorem d72_14 : decode cX2_likeAhead 14 = .ok (.iaload, 1) := by decide +kernel
theorem d72_15 : decode cX2_likeAhead 15 = .ok (.aload_n 0, 1) := by decide +kernel
theorem d72_16 : decode cX2_likeAhead 16 = .ok (.getfield 15, 3) := by decide +kernel
theorem d72_19 : decode cX2_likeAhead 19 = .ok (.iload_n 1, 1) := by decide +kernel
theorem d72_20 : decode cX2_likeAhead 20 = .ok (.iaload, 1) := by decide +kernel
theorem d72_21 : decode cX2_likeAhead 21 = .ok (.if_icmp .ne 36, 3) := by decide +kernel
theorem d72_24 : decode cX2_likeAhead 24 = .ok (.aload_n 0, 1) := by decide +kernel
theorem d72_25 : decode cX2_likeAhead 25 = .ok (.getfield 19, 3) := by decide +kernel
theorem d72_28 : decode cX2_likeAhead 28 = .ok (.iload_n 3, 1) := by decide +kernel
theorem d72_29 : decode cX2_likeAhead 29 = .ok (.iaload, 1) := by decide +kernel
theorem d72_30 : decode cX2_likeAhead 30 = .ok (.aload_n 0, 1) := by decide +kernel
theorem d72_31 : decode cX2_likeAhead 31 = .ok (.getfield 19, 3) := by decide +kernel
theorem d72_34 : decode cX2_likeAhead 34 = .ok (.iload_n 1, 1) := by decide +kernel
theorem d72_35 : decode cX2_likeAhead 35 = .ok (.iaload, 1) := by decide +kernel
theorem d72_36 : decode cX2_likeAhead 36 = .ok (.if_icmp .ne 21, 3) := by decide +kernel
theorem d72_39 : decode cX2_likeAhead 39 = .ok (.aload_n 0, 1) := by decide +kernel
theorem d72_40 : decode cX2_likeAhead 40 = .ok (.getfield 22, 3) := by decide +kernel
theorem d72_43 : decode cX2_likeAhead 43 = .ok (.iload_n 3, 1) := by decide +kernel
theorem d72_44 : decode cX2_likeAhead 44 = .ok (.iaload, 1) := by decide +kernel
theorem d72_45 : decode cX2_likeAhead 45 = .ok (.aload_n 0, 1) := by decide +kernel
theorem d72_46 : decode cX2_likeAhead 46 = .ok (.getfield 22, 3) := by decide +kernel
theorem d72_49 : decode cX2_likeAhead 49 = .ok (.iload_n 1, 1) := by decide +kernel
theorem d72_50 : decode cX2_likeAhead 50 = .ok (.iaload, 1) := by decide +kernel
theorem d72_51 : decode cX2_likeAhead 51 = .ok (.if_icmp .ne 6, 3) := by decide +kernel
theorem d72_54 : decode cX2_likeAhead 54 = .ok (.iinc 2 1, 3) := by decide +kernel
theorem d72_57 : decode cX2_likeAhead 57 = .ok (.iinc 3 1, 3) := by decide +kernel
theorem d72_60 : decode cX2_likeAhead 60 = .ok (.goto (-56), 3) := by decide +kernel
theorem d72_63 : decode cX2_likeAhead 63 = .ok (.iload_n 2, 1) := by decide +kernel
theorem d72_64 : decode cX2_likeAhead 64 = .ok (.ireturn, 1) := by decide +kernel
theorem v72_0 {w : PW} {Q : PO → PW → Prop} {b : Nat} {x1 : Int} (hs : Sh w) (hb : bx b) (hx1 : bd x1) (h : pX 72 4 [some (.ref (b + 4)), some (iv x1), some (iv 0), some (iv 0)] [] w Q) : pX 72 0 [some (.ref (b + 4)), some (iv x1), none, none] [] w Q :=
  w_f b72 d72_0 rfl rfl rfl <| w_f b72 d72_1 rfl rfl rfl <| w_f b72 d72_2 rfl rfl rfl <| w_f b72 d72_3 rfl rfl rfl <| h
theorem e72 {w : PW} {Q : PO → PW → Prop} {b : Nat} {x1 : Int} (hs : Sh w) (hb : bx b) (hx1 : bd x1) (h : pX 72 4 [some (.ref (b + 4)), some (iv x1), some (iv 0), some (iv 0)] [] w Q) : pC 72 [.ref (b + 4), iv x1] w Q :=
  (pC_in (Nat.le_of_ble_eq_true rfl) rfl Q).mpr (v72_0 hs hb hx1 h)
theorem v72_4 {w : PW} {Q : PO → PW → Prop} {b : Nat} {x1 : Int} {x2 : Int} {x3 : Int} (hs : Sh w) (hb : bx b) (hx1 : bd x1) (hx2 : bd x2) (hx3 : bd x3) (h : (x1 ≤ x3 → Q (.inl (some (iv x2))) w) ∧ (x3 < x1 → (0 ≤ x3 ∧ x3 < 60) ∧ (0 ≤ x1 ∧ x1 < 60) ∧ ((gI w (b + 5) x3.toNat) ≠ (gI w (b + 5) x1.toNat) → pX 72 4 [some (.ref (b + 4)), some (iv x1), some (iv x2), some (iv (x3 + 1))] [] w Q) ∧ ((gI w (b + 5) x3.toNat) = (gI w (b + 5) x1.toNat) → (0 ≤ x3 ∧ x3 < 60) ∧ (0 ≤ x1 ∧ x1 < 60) ∧ ((gI w (b + 6) x3.toNat) ≠ (gI w (b + 6) x1.toNat) → pX 72 4 [some (.ref (b + 4)), some (iv x1), some (iv x2), some (iv (x3 + 1))] [] w Q) ∧ ((gI w (b + 6) x3.toNat) = (gI w (b + 6) x1.toNat) → (0 ≤ x3 ∧ x3 < 60) ∧ (0 ≤ x1 ∧ x1 < 60) ∧ ((gI w (b + 7) x3.toNat) ≠ (gI w (b + 7) x1.toNat) → pX 72 4 [some (.ref (b + 4)), some (iv x1), some (iv x2), some (iv (x3 + 1))] [] w Q) ∧ ((gI w (b + 7) x3.toNat) = (gI w (b + 7) x1.toNat) → pX 72 4 [some (.ref (b + 4)), some (iv x1), some (iv (x2 + 1)), some (iv (x3 + 1))] [] w Q))))) : pX 72 4 [some (.ref (b + 4)), some (iv x1), some (iv x2), some (iv x3)] [] w Q :=
  w_f b72 d72_4 rfl rfl rfl <| w_f b72 d72_5 rfl rfl rfl <| w_icge b72 d72_6 rfl rfl (p72 _ _) hx3 hx1 (fun c1 => w_f b72 d72_63 rfl rfl rfl <| w_ri b72 d72_64 r72 (h.1 c1)) (fun c1 => w_f b72 d72_9 rfl rfl rfl <| w_gr b72 d72_10 rfl rfl hs (bxk hb 4 rfl) (tb4 hb) rfl (bxr hb 5 rfl) <| w_f b72 d72_13 rfl rfl rfl <| w_ial b72 d72_14 rfl hs (bxk hb 5 rfl) (tb5 hb) (bdix (n := 60) (h.2 c1).1 rfl) (h.2 c1).1 <| w_f b72 d72_15 rfl rfl rfl <| w_gr b72 d72_16 rfl rfl hs (bxk hb 4 rfl) (tb4 hb) rfl (bxr hb 5 rfl) <| w_f b72 d72_19 rfl rfl rfl <| w_ial b72 d72_20 rfl hs (bxk hb 5 rfl) (tb5 hb) (bdix (n := 60) (h.2 c1).2.1 rfl) (h.2 c1).2.1 <| w_icne b72 d72_21 rfl rfl (p72 _ _) (bd_gI _ _ _) (bd_gI _ _ _) (fun c2 => w_f b72 d72_57 rfl (pf_iinc rfl rfl) rfl <| w_j b72 d72_60 rfl (p72 _ _) <| ((h.2 c1).2.2.1 c2)) (fun c2 => w_f b72 d72_24 rfl rfl rfl <| w_gr b72 d72_25 rfl rfl hs (bxk hb 4 rfl) (tb4 hb) rfl (bxr hb 6 rfl) <| w_f b72 d72_28 rfl rfl rfl <| w_ial b72 d72_29 rfl hs (bxk hb 6 rfl) (tb6 hb) (bdix (n := 60) ((h.2 c1).2.2.2 c2).1 rfl) ((h.2 c1).2.2.2 c2).1 <| w_f b72 d72_30 rfl rfl rfl <| w_gr b72 d72_31 rfl rfl hs (bxk hb 4 rfl) (tb4 hb) rfl (bxr hb 6 rfl) <| w_f b72 d72_34 rfl rfl rfl <| w_ial b72 d72_35 rfl hs (bxk hb 6 rfl) (tb6 hb) (bdix (n := 60) ((h.2 c1).2.2.2 c2).2.1 rfl) ((h.2 c1).2.2.2 c2).2.1 <| w_icne b72 d72_36 rfl rfl (p72 _ _) (bd_gI _ _ _) (bd_gI _ _ _) (fun c3 => w_f b72 d72_57 rfl (pf_iinc rfl rfl) rfl <| w_j b72 d72_60 rfl (p72 _ _) <| (((h.2 c1).2.2.2 c2).2.2.1 c3)) (fun c3 => w_f b72 d72_39 rfl rfl rfl <| w_gr b72 d72_40 rfl rfl hs (bxk hb 4 rfl) (tb4 hb) rfl (bxr hb 7 rfl) <| w_f b72 d72_43 rfl rfl rfl <| w_ial b72 d72_44 rfl hs (bxk hb 7 rfl) (tb7 hb) (bdix (n := 60) (((h.2 c1).2.2.2 c2).2.2.2 c3).1 rfl) (((h.2 c1).2.2.2 c2).2.2.2 c3).1 <| w_f b72 d72_45 rfl rfl rfl <| w_gr b72 d72_46 rfl rfl hs (bxk hb 4 rfl) (tb4 hb) rfl (bxr hb 7 rfl) <| w_f b72 d72_49 rfl rfl rfl <| w_ial b72 d72_50 rfl hs (bxk hb 7 rfl) (tb7 hb) (bdix (n := 60) (((h.2 c1).2.2.2 c2).2.2.2 c3).2.1 rfl) (((h.2 c1).2.2.2 c2).2.2.2 c3).2.1 <| w_icne b72 d72_51 rfl rfl (p72 _ _) (bd_gI _ _ _) (bd_gI _ _ _) (fun c4 => w_f b72 d72_57 rfl (pf_iinc rfl rfl) rfl <| w_j b72 d72_60 rfl (p72 _ _) <| ((((h.2 c1).2.2.2 c2).2.2.2 c3).2.2.1 c4)) (fun c4 => w_f b72 d72_54 rfl (pf_iinc rfl rfl) rfl <| w_f b72 d72_57 rfl (pf_iinc rfl rfl) rfl <| w_j b72 d72_60 rfl (p72 _ _) <| ((((h.2 c1).2.2.2 c2).2.2.2 c3).2.2.2 c4)))))
theorem l72_4 {w : PW} {Q : PO → PW → Prop} {b x : Nat} {m : Row} (hs : Sh w) (hB : BR w b m) (hx : (x : Int) < m 5) (h : Q (.inl (some (iv (sLike m x : Nat)))) w) : ∀ k i : Nat, i + k = x → pX 72 4 [some (.ref (b + 4)), some (iv (x : Nat)), some (iv (cnt (fun i => decide (rN m i 0 = rN m x 0 ∧ rN m i 1 = rN m x 1 ∧ rN m i 2 = rN m x 2)) i : Nat)), some (iv (i : Nat))] [] w Q := by
  have h5 := hB.ok.n
  intro k
  induction k with
  | zero =>
    intro i hi 
    refine v72_4 hs hB.bx (bdk (by omega)) (bdk (Nat.le_trans (cnt_le _ _) (by omega))) (bdk (by omega)) ?_
    refine ⟨fun _ => ?_, fun q => by omega⟩
    unfold sLike at h
    rw [show x = i from by omega] at h ⊢
    exact h
  | succ k ih =>
    intro i hi 
    obtain ⟨e1, e2, e3⟩ := hB.N (i := i) (by omega)
    obtain ⟨f1, f2, f3⟩ := hB.N (i := x) hx
    refine v72_4 hs hB.bx (bdk (by omega)) (bdk (Nat.le_trans (cnt_le _ _) (by omega))) (bdk (by omega)) ?_
    rw [Int.toNat_natCast, Int.toNat_natCast, e1, e2, e3, f1, f2, f3]
    have hb : 0 ≤ (i : Int) ∧ (i : Int) < 60 := ⟨by omega, by omega⟩
    have hb2 : 0 ≤ (x : Int) ∧ (x : Int) < 60 := ⟨by omega, by omega⟩
    have hF : ¬ (rN m i 0 = rN m x 0 ∧ rN m i 1 = rN m x 1 ∧ rN m i 2 = rN m x 2) → _ := fun q => by
      have := ih (i + 1) (by omega)
      rw [cnt_f (decide_eq_false q)] at this
      exact this
    refine ⟨fun q => by omega, fun _ => ⟨hb, hb2, fun q => hF (fun z => q z.1), fun q => ⟨hb, hb2, fun q2 => hF (fun z => q2 z.2.1), fun q2 => ⟨hb, hb2, fun q3 => hF (fun z => q3 z.2.2), fun q3 => ?_⟩⟩⟩⟩
    have := ih (i + 1) (by omega)
    rw [cnt_t (decide_eq_true ⟨q, q2, q3⟩)] at this
    exact this
theorem c72 {w : PW} {Q : PO → PW → Prop} {b x : Nat} {m : Row} (hs : Sh w) (hB : BR w b m) (hx : (x : Int) < m 5) (h : Q (.inl (some (iv (sLike m x : Nat)))) w) : pC 72 [.ref (b + 4), iv (x : Nat)] w Q :=
  e72 hs hB.bx (bdk (by have := hB.ok.n; omega)) (l72_4 hs hB hx h x 0 (by omega))

