/-! COLLISIONS: the class -/
def sCo1 (m : Row) (j c : Nat) : Bool := prP (rTr m j) (rTr m (j + 1)) (m 0) (m 2) c
def sCoP (m : Row) (c : Nat) : Bool := sCo1 m (c / 4096) (c % 4096)
def sCo (m : Row) : Nat := cnt (sCoP m) (4096 * 36)
theorem sCoP_at {m : Row} {j c : Nat} (hc : c < 4096) : sCoP m (4096 * j + c) = sCo1 m j c := by
  unfold sCoP
  rw [Nat.mul_add_mod, Nat.mod_eq_of_lt hc, Nat.mul_add_div (by decide), Nat.div_eq_of_lt hc, Nat.add_zero]
theorem rTr_no {m : Row} {j s : Nat} (h : (m 1).toNat * (m 4).toNat ≤ j ∨ (m 0).toNat ≤ s) : rTr m j s = false := by
  unfold rTr
  rcases h with h | h
  · rw [decide_eq_false (by omega), Bool.false_and]
  · rw [decide_eq_false (p := s < (m 0).toNat) (by omega), Bool.false_and, Bool.and_false]
theorem sCo1_no {m : Row} {j c : Nat} (h : (m 1).toNat * (m 4).toNat ≤ j + 1) : sCo1 m j c = false := by
  unfold sCo1 prP
  rw [rTr_no (j := j + 1) (Or.inl h), Bool.false_and, Bool.and_false]
theorem sCoP_end {m : Row} {j n : Nat} (h : (m 1).toNat * (m 4).toNat ≤ j + 1) (hn : j ≤ n) : cnt (sCoP m) (4096 * j) = cnt (sCoP m) (4096 * n) := by
  refine cnt_gap (by omega) (fun i h1 h2 => ?_)
  unfold sCoP
  exact sCo1_no (by omega)
theorem UT_le {m : Row} (h : RowOK m) : (m 1).toNat * (m 4).toNat ≤ 36 ∧ m 1 * m 4 = (((m 1).toNat * (m 4).toNat : Nat) : Int) := by
  have h1 := h.u
  have h4 := h.t
  refine ⟨Nat.mul_le_mul (show (m 1).toNat ≤ 3 by omega) (show (m 4).toNat ≤ 12 by omega), ?_⟩
  rw [Int.natCast_mul]
  congr 1 <;> omega
theorem sCo_step {m : Row} (j : Nat) : cnt (sCoP m) (4096 * (j + 1)) = cnt (sCoP m) (4096 * j) + cnt (sCo1 m j) 4096 := by
  rw [show 4096 * (j + 1) = 4096 * j + 4096 from by omega, cnt_split]
  exact congrArg (cnt (sCoP m) (4096 * j) + ·) (cnt_congr (fun i hi => sCoP_at hi))
theorem sCo_tot {m : Row} (h : RowOK m) {j : Nat} (hj : (m 1).toNat * (m 4).toNat ≤ j + 1) (h36 : j ≤ 36) : cnt (sCoP m) (4096 * j) = sCo m := sCoP_end hj h36
theorem BR.prs {w : PW} {b : Nat} {m : Row} (h : BR w b m) (j : Nat) : lPrs (lP w b (j : Int)) (lP w b ((j : Int) + 1)) (gI w b 2) (gI w b 0) = (cnt (sCo1 m j) 4096 : Nat) := by
  have h0 := h.ok.s
  have h2 := h.ok.g
  obtain ⟨S, hS⟩ : ∃ S : Nat, m 0 = S := ⟨(m 0).toNat, by omega⟩
  obtain ⟨g, hg⟩ : ∃ g : Nat, m 2 = g := ⟨(m 2).toNat, by omega⟩
  have hi : ∀ (j z : Nat), S ≤ z → tL (lP w b (j : Int)) z = false := by
    intro j z hz
    by_cases q : z < 64
    · rw [h.lPj q]; exact rTr_no (Or.inr (by omega))
    · exact tL_big (by omega)
  rw [h.g, h.s, hS, hg, show ((j : Int) + 1) = ((j + 1 : Nat) : Int) from rfl, lPrs_eq (by omega) (by omega) (hi j) (hi (j + 1))]
  refine congrArg (fun n : Nat => (n : Int)) (cnt_congr (fun c hc => ?_))
  unfold sCo1 prP
  rw [h.lPj (by omega), h.lPj (by omega), hS, hg]
theorem BR.prs0 {w : PW} {b : Nat} {m : Row} (h : BR w b m) : lPrs (lP w b (-1)) (lP w b (-1 + 1)) (gI w b 2) (gI w b 0) = 0 := by
  have h0 := h.ok.s
  have h2 := h.ok.g
  obtain ⟨S, hS⟩ : ∃ S : Nat, m 0 = S := ⟨(m 0).toNat, by omega⟩
  obtain ⟨g, hg⟩ : ∃ g : Nat, m 2 = g := ⟨(m 2).toNat, by omega⟩
  have hi : ∀ (j z : Nat), S ≤ z → tL (lP w b (j : Int)) z = false := by
    intro j z hz
    by_cases q : z < 64
    · rw [h.lPj q]; exact rTr_no (Or.inr (by omega))
    · exact tL_big (by omega)
  have hl : lP w b (-1) = 0 := BR.lPneg (by decide)
  rw [h.g, h.s, hS, hg, hl, show ((-1 : Int) + 1) = ((0 : Nat) : Int) from rfl, lPrs_eq (by omega) (by omega) (fun z _ => tL_0 z) (hi 0), cnt_zero (fun c _ => by unfold prP; rw [tL_0, Bool.false_and])]
  rfl
theorem BR.gs {w : PW} {b : Nat} {m : Row} (h : BR w b m) : gI w b 2 ≤ 3 ∧ (3 ≤ gI w b 0 ∧ gI w b 0 ≤ 64) := by
  have h0 := h.ok.s
  have h2 := h.ok.g
  rw [h.g, h.s]
  omega
/-! 64: PinBarrel$Box.allCollisions()I -/
theorem b64 : mB 64 = cX0_allCollisions := rfl
theorem r64 : mR 64 = (some .int) := rfl
theorem p64 (a b : Nat) : phi 64 a ≤ phi 64 b := Nat.le_refl 0
theorem d64_0 : decode cX0_allCollisions 0 = .ok (.iconst 0, 1) := by decide +kernel
theorem d64_1 : decode cX0_allCollisions 1 = .ok (.istore_n 1, 1) := by decide +kernel
theorem d64_2 : decode cX0_allCollisions 2 = .ok (.iconst 0, 1) := by decide +kernel
theorem d64_3 : decode cX0_allCollisions 3 = .ok (.istore_n 2, 1) := by decide +kernel
theorem d64_4 : decode cX0_allCollisions 4 = .ok (.iload_n 2, 1) := by decide +kernel
theorem d64_5 : decode cX0_allCollisions 5 = .ok (.iconst 1, 1) := by decide +kernel
theorem d64_6 : decode cX0_allCollisions 6 = .ok (.iadd, 1) := by decide +kernel
theorem d64_7 : decode cX0_allCollisions 7 = .ok (.aload_n 0, 1) := by decide +kernel
theorem d64_8 : decode cX0_allCollisions 8 = .ok (.getfield 15, 3) := by decide +kernel
theorem d64_11 : decode cX0_allCollisions 11 = .ok (.aload_n 0, 1) := by decide +kernel
theorem d64_12 : decode cX0_allCollisions 12 = .ok (.getfield 24, 3) := by decide +kernel
theorem d64_15 : decode cX0_allCollisions 15 = .ok (.imul, 1) := by decide +kernel
theorem d64_16 : decode cX0_allCollisions 16 = .ok (.if_icmp .ge 17, 3) := by decide +kernel
theorem d64_19 : decode cX0_allCollisions 19 = .ok (.iload_n 1, 1) := by decide +kernel
theorem d64_20 : decode cX0_allCollisions 20 = .ok (.aload_n 0, 1) := by decide +kernel
theorem d64_21 : decode cX0_allCollisions 21 = .ok (.iload_n 2, 1) := by decide +kernel
theorem d64_22 : decode cX0_allCollisions 22 = .ok (.invokevirtual 146, 3) := by decide +kernel
theorem d64_25 : decode cX0_allCollisions 25 = .ok (.iadd, 1) := by decide +kernel
theorem d64_26 : decode cX0_allCollisions 26 = .ok (.istore_n 1, 1) := by decide +kernel
theorem d64_27 : decode cX0_allCollisions 27 = .ok (.iinc 2 1, 3) := by decide +kernel
theorem d64_30 : decode cX0_allCollisions 30 = .ok (.goto (-26), 3) := by decide +kernel
theorem d64_33 : decode cX0_allCollisions 33 = .ok (.iload_n 1, 1) := by decide +kernel
theorem d64_34 : decode cX0_allCollisions 34 = .ok (.ireturn, 1) := by decide +kernel
theorem v64_0 {w : PW} {Q : PO → PW → Prop} {b : Nat} (hs : Sh w) (hb : bx b) (h : pX 64 4 [some (.ref b), some (iv 0), some (iv 0)] [] w Q) : pX 64 0 [some (.ref b), none, none] [] w Q :=
  w_f b64 d64_0 rfl rfl rfl <| w_f b64 d64_1 rfl rfl rfl <| w_f b64 d64_2 rfl rfl rfl <| w_f b64 d64_3 rfl rfl rfl <| h
theorem e64 {w : PW} {Q : PO → PW → Prop} {b : Nat} (hs : Sh w) (hb : bx b) (h : pX 64 4 [some (.ref b), some (iv 0), some (iv 0)] [] w Q) : pC 64 [.ref b] w Q :=
  (pC_in (Nat.le_of_ble_eq_true rfl) rfl Q).mpr (v64_0 hs hb h)
theorem v64_4 {w : PW} {Q : PO → PW → Prop} {b : Nat} {x1 : Int} {x2 : Int} (hs : Sh w) (hb : bx b) (hx1 : bd x1) (hx2 : bd x2) (h : (bd (x2 + 1)) ∧ (bd ((gI w b 1) * (gI w b 4))) ∧ (((gI w b 1) * (gI w b 4)) ≤ (x2 + 1) → Q (.inl (some (iv x1))) w) ∧ ((x2 + 1) < ((gI w b 1) * (gI w b 4)) → (bd (x2 + 1)) ∧ (gI w b 2 ≤ 3) ∧ (3 ≤ gI w b 0 ∧ gI w b 0 ≤ 64) ∧ pX 64 4 [some (.ref b), some (iv (x1 + (lPrs (lP w b x2) (lP w b (x2 + 1)) (gI w b 2) (gI w b 0)))), some (iv (x2 + 1))] [] w Q)) : pX 64 4 [some (.ref b), some (iv x1), some (iv x2)] [] w Q :=
  w_f b64 d64_4 rfl rfl rfl <| w_f b64 d64_5 rfl rfl rfl <| w_f b64 d64_6 rfl (pf_iadd x2 1) rfl <| w_f b64 d64_7 rfl rfl rfl <| w_gi b64 d64_8 rfl rfl hs (bx00 hb) (tb0 hb) rfl <| w_f b64 d64_11 rfl rfl rfl <| w_gi b64 d64_12 rfl rfl hs (bx00 hb) (tb0 hb) rfl <| w_f b64 d64_15 rfl (pf_imul (gI w b 1) (gI w b 4)) rfl <| w_icge b64 d64_16 rfl rfl (p64 _ _) h.1 h.2.1 (fun c1 => w_f b64 d64_33 rfl rfl rfl <| w_ri b64 d64_34 r64 (h.2.2.1 c1)) (fun c1 => w_f b64 d64_19 rfl rfl rfl <| w_f b64 d64_20 rfl rfl rfl <| w_f b64 d64_21 rfl rfl rfl <| w_cc b64 d64_22 rfl (pcl_v (n := 1) rfl rfl rfl (by decide +kernel) (sh_isOb hs (bx00 hb) (tb0 hb)) rfl rfl) rfl <| c63 hs hb hx2 (h.2.2.2 c1).1 (h.2.2.2 c1).2.1 (h.2.2.2 c1).2.2.1 <| w_f b64 d64_25 rfl (pf_iadd x1 (lPrs (lP w b x2) (lP w b (x2 + 1)) (gI w b 2) (gI w b 0))) rfl <| w_f b64 d64_26 rfl rfl rfl <| w_f b64 d64_27 rfl (pf_iinc rfl rfl) rfl <| w_j b64 d64_30 rfl (p64 _ _) <| (h.2.2.2 c1).2.2.2)
theorem l64_4 {w : PW} {Q : PO → PW → Prop} {b : Nat} {m : Row} (hs : Sh w) (hB : BR w b m) (h : Q (.inl (some (iv (sCo m : Nat)))) w) : ∀ k i : Nat, i + k = (m 1).toNat * (m 4).toNat → pX 64 4 [some (.ref b), some (iv (cnt (sCoP m) (4096 * i) : Nat)), some (iv (i : Nat))] [] w Q := by
  have hU := UT_le hB.ok
  intro k
  induction k with
  | zero =>
    intro i hi 
    have hc := cnt_le (sCoP m) (4096 * i)
    refine v64_4 hs hB.bx (bdk (by omega)) (bdk (by omega)) ⟨bdk (n := i + 1) (by omega), ?_⟩
    rw [hB.u, hB.t, hU.2]
    refine ⟨bdk (by omega), fun _ => ?_, fun q => by omega⟩
    rw [sCo_tot hB.ok (by omega) (by omega)]
    exact h
  | succ k ih =>
    intro i hi 
    have hc := cnt_le (sCoP m) (4096 * i)
    refine v64_4 hs hB.bx (bdk (by omega)) (bdk (by omega)) ⟨bdk (n := i + 1) (by omega), ?_⟩
    rw [hB.u, hB.t, hU.2, hB.prs]
    refine ⟨bdk (by omega), fun _ => ?_, fun q => ⟨bdk (n := i + 1) (by omega), hB.gs.1, hB.gs.2, ?_⟩⟩
    · rw [sCo_tot hB.ok (by omega) (by omega)]
      exact h
    · have := ih (i + 1) (by omega)
      rw [sCo_step] at this
      exact this
theorem sCo_bd (m : Row) : sCo m ≤ 147456 := cnt_le _ _
theorem c64 {w : PW} {Q : PO → PW → Prop} {b : Nat} {m : Row} (hs : Sh w) (hB : BR w b m) (h : Q (.inl (some (iv (sCo m : Nat)))) w) : pC 64 [.ref b] w Q :=
  e64 hs hB.bx (l64_4 hs hB h _ 0 (Nat.zero_add _))
/-- does a track of the tune collide with a neighbour -/
def sHasT (m : Row) (u t : Nat) : Bool := decide (0 < cnt (sCo1 m ((m 1).toNat * t + u)) 4096) || (decide (0 < (m 1).toNat * t + u) && decide (0 < cnt (sCo1 m ((m 1).toNat * t + u - 1)) 4096))
def sHas (m : Row) (u : Nat) : Prop := 0 < cnt (sHasT m u) (m 4).toNat
/-! 112: PinBarrel$Box.hasCollisionOf(I)Z -/
theorem b112 : mB 112 = cX0_hasCollisionOf := rfl
theorem r112 : mR 112 = (some .boolean) := rfl
theorem p112 (a b : Nat) : phi 112 a ≤ phi 112 b := Nat.le_refl 0
theorem d112_0 : decode cX0_hasCollisionOf 0 = .ok (.iconst 0, 1) := by decide +kernel
theorem d112_1 : decode cX0_hasCollisionOf 1 = .ok (.istore_n 2, 1) := by decide +kernel
theorem d112_2 : decode cX0_hasCollisionOf 2 = .ok (.iload_n 2, 1) := by decide +kernel
theorem d112_3 : decode cX0_hasCollisionOf 3 = .ok (.aload_n 0, 1) := by decide +kernel
theorem d112_4 : decode cX0_hasCollisionOf 4 = .ok (.getfield 24, 3) := by decide +kernel
theorem d112_7 : decode cX0_hasCollisionOf 7 = .ok (.if_icmp .ge 36, 3) := by decide +kernel
theorem d112_10 : decode cX0_hasCollisionOf 10 = .ok (.aload_n 0, 1) := by decide +kernel
theorem d112_11 : decode cX0_hasCollisionOf 11 = .ok (.iload_n 1, 1) := by decide +kernel
theorem d112_12 : decode cX0_hasCollisionOf 12 = .ok (.iload_n 2, 1) := by decide +kernel
theorem d112_13 : decode cX0_hasCollisionOf 13 = .ok (.invokevirtual 81, 3) := by decide +kernel
theorem d112_16 : decode cX0_hasCollisionOf 16 = .ok (.istore_n 3, 1) := by decide +kernel
theorem d112_17 : decode cX0_hasCollisionOf 17 = .ok (.aload_n 0, 1) := by decide +kernel
theorem d112_18 : decode cX0_hasCollisionOf 18 = .ok (.iload_n 3, 1) := by decide +kernel
theorem d112_19 : decode cX0_hasCollisionOf 19 = .ok (.invokevirtual 146, 3) := by decide +kernel
theorem d112_22 : decode cX0_hasCollisionOf 22 = .ok (.ifCond .gt 13, 3) := by decide +kernel
theorem d112_25 : decode cX0_hasCollisionOf 25 = .ok (.aload_n 0, 1) := by decide +kernel
theorem d112_26 : decode cX0_hasCollisionOf 26 = .ok (.iload_n 3, 1) := by decide +kernel
theorem d112_27 : decode cX0_hasCollisionOf 27 = .ok (.iconst 1, 1) := by decide +kernel
theorem d112_28 : decode cX0_hasCollisionOf 28 = .ok (.isub, 1) := by decide +kernel
theorem d112_29 : decode cX0_hasCollisionOf 29 = .ok (.invokevirtual 146, 3) := by decide +kernel
theorem d112_32 : decode cX0_hasCollisionOf 32 = .ok (.ifCond .le 5, 3) := by decide +kernel
theorem d112_35 : decode cX0_hasCollisionOf 35 = .ok (.iconst 1, 1) := by decide +kernel
theorem d112_36 : decode cX0_hasCollisionOf 36 = .ok (.ireturn, 1) := by decide +kernel
theorem d112_37 : decode cX0_hasCollisionOf 37 = .ok (.iinc 2 1, 3) := by decide +kernel
theorem d112_40 : decode cX0_hasCollisionOf 40 = .ok (.goto (-38), 3) := by decide +kernel
theorem d112_43 : decode cX0_hasCollisionOf 43 = .ok (.iconst 0, 1) := by decide +kernel
theorem d112_44 : decode cX0_hasCollisionOf 44 = .ok (.ireturn, 1) := by decide +kernel
theorem v112_0 {w : PW} {Q : PO → PW → Prop} {b : Nat} {x1 : Int} (hs : Sh w) (hb : bx b) (hx1 : bd x1) (h : pX 112 2 [some (.ref b), some (iv x1), some (iv 0), none] [] w Q) : pX 112 0 [some (.ref b), some (iv x1), none, none] [] w Q :=
  w_f b112 d112_0 rfl rfl rfl <| w_f b112 d112_1 rfl rfl rfl <| h
theorem e112 {w : PW} {Q : PO → PW → Prop} {b : Nat} {x1 : Int} (hs : Sh w) (hb : bx b) (hx1 : bd x1) (h : pX 112 2 [some (.ref b), some (iv x1), some (iv 0), none] [] w Q) : pC 112 [.ref b, iv x1] w Q :=
  (pC_in (Nat.le_of_ble_eq_true rfl) rfl Q).mpr (v112_0 hs hb hx1 h)
theorem v112_2 {w : PW} {Q : PO → PW → Prop} {b : Nat} {x1 : Int} {x2 : Int} {o3 : Option Value} (hs : Sh w) (hb : bx b) (hx1 : bd x1) (hx2 : bd x2) (ho3 : pc2 o3 = false) (h : ((gI w b 4) ≤ x2 → Q (.inl (some (iv 0))) w) ∧ (x2 < (gI w b 4) → (bd ((gI w b 1) * x2 + x1)) ∧ (bd (((gI w b 1) * x2 + x1) + 1)) ∧ (gI w b 2 ≤ 3) ∧ (3 ≤ gI w b 0 ∧ gI w b 0 ≤ 64) ∧ (bd (lPrs (lP w b ((gI w b 1) * x2 + x1)) (lP w b (((gI w b 1) * x2 + x1) + 1)) (gI w b 2) (gI w b 0))) ∧ (0 < (lPrs (lP w b ((gI w b 1) * x2 + x1)) (lP w b (((gI w b 1) * x2 + x1) + 1)) (gI w b 2) (gI w b 0)) → Q (.inl (some (iv 1))) w) ∧ ((lPrs (lP w b ((gI w b 1) * x2 + x1)) (lP w b (((gI w b 1) * x2 + x1) + 1)) (gI w b 2) (gI w b 0)) ≤ 0 → (bd (((gI w b 1) * x2 + x1) - 1)) ∧ (bd ((((gI w b 1) * x2 + x1) - 1) + 1)) ∧ (gI w b 2 ≤ 3) ∧ (3 ≤ gI w b 0 ∧ gI w b 0 ≤ 64) ∧ (bd (lPrs (lP w b (((gI w b 1) * x2 + x1) - 1)) (lP w b ((((gI w b 1) * x2 + x1) - 1) + 1)) (gI w b 2) (gI w b 0))) ∧ ((lPrs (lP w b (((gI w b 1) * x2 + x1) - 1)) (lP w b ((((gI w b 1) * x2 + x1) - 1) + 1)) (gI w b 2) (gI w b 0)) ≤ 0 → pX 112 2 [some (.ref b), some (iv x1), some (iv (x2 + 1)), some (iv ((gI w b 1) * x2 + x1))] [] w Q) ∧ (0 < (lPrs (lP w b (((gI w b 1) * x2 + x1) - 1)) (lP w b ((((gI w b 1) * x2 + x1) - 1) + 1)) (gI w b 2) (gI w b 0)) → Q (.inl (some (iv 1))) w)))) : pX 112 2 [some (.ref b), some (iv x1), some (iv x2), o3] [] w Q :=
  w_f b112 d112_2 rfl rfl rfl <| w_f b112 d112_3 rfl rfl rfl <| w_gi b112 d112_4 rfl rfl hs (bx00 hb) (tb0 hb) rfl <| w_icge b112 d112_7 rfl rfl (p112 _ _) hx2 (bd_gI _ _ _) (fun c1 => w_f b112 d112_43 rfl rfl rfl <| w_rz b112 d112_44 r112 (by decide) (h.1 c1)) (fun c1 => w_f b112 d112_10 rfl rfl rfl <| w_f b112 d112_11 rfl rfl rfl <| w_f b112 d112_12 rfl rfl rfl <| w_cc b112 d112_13 rfl (pcl_v (n := 2) rfl rfl rfl (by decide +kernel) (sh_isOb hs (bx00 hb) (tb0 hb)) rfl rfl) rfl <| c28 hs hb hx1 hx2 <| w_f b112 d112_16 rfl rfl rfl <| w_f b112 d112_17 rfl rfl rfl <| w_f b112 d112_18 rfl rfl rfl <| w_cc b112 d112_19 rfl (pcl_v (n := 1) rfl rfl rfl (by decide +kernel) (sh_isOb hs (bx00 hb) (tb0 hb)) rfl rfl) rfl <| c63 hs hb (h.2 c1).1 (h.2 c1).2.1 (h.2 c1).2.2.1 (h.2 c1).2.2.2.1 <| w_ifgt b112 d112_22 rfl rfl (p112 _ _) (h.2 c1).2.2.2.2.1 (fun c2 => w_f b112 d112_35 rfl rfl rfl <| w_rz b112 d112_36 r112 (by decide) ((h.2 c1).2.2.2.2.2.1 c2)) (fun c2 => w_f b112 d112_25 rfl rfl rfl <| w_f b112 d112_26 rfl rfl rfl <| w_f b112 d112_27 rfl rfl rfl <| w_f b112 d112_28 rfl (pf_isub ((gI w b 1) * x2 + x1) 1) rfl <| w_cc b112 d112_29 rfl (pcl_v (n := 1) rfl rfl rfl (by decide +kernel) (sh_isOb hs (bx00 hb) (tb0 hb)) rfl rfl) rfl <| c63 hs hb ((h.2 c1).2.2.2.2.2.2 c2).1 ((h.2 c1).2.2.2.2.2.2 c2).2.1 ((h.2 c1).2.2.2.2.2.2 c2).2.2.1 ((h.2 c1).2.2.2.2.2.2 c2).2.2.2.1 <| w_ifle b112 d112_32 rfl rfl (p112 _ _) ((h.2 c1).2.2.2.2.2.2 c2).2.2.2.2.1 (fun c3 => w_f b112 d112_37 rfl (pf_iinc rfl rfl) rfl <| w_j b112 d112_40 rfl (p112 _ _) <| (((h.2 c1).2.2.2.2.2.2 c2).2.2.2.2.2.1 c3)) (fun c3 => w_f b112 d112_35 rfl rfl rfl <| w_rz b112 d112_36 r112 (by decide) (((h.2 c1).2.2.2.2.2.2 c2).2.2.2.2.2.2 c3))))
theorem l112_2 {w : PW} {Q : PO → PW → Prop} {b u : Nat} {m : Row} (hs : Sh w) (hB : BR w b m) (hu : (u : Int) < m 1) (h0 : ¬ sHas m u → Q (.inl (some (iv 0))) w) (h : sHas m u → Q (.inl (some (iv 1))) w) : ∀ k i : Nat, i + k = (m 4).toNat → cnt (sHasT m u) i = 0 → ∀ o3 : Option Value, pc2 o3 = false → pX 112 2 [some (.ref b), some (iv (u : Nat)), some (iv (i : Nat)), o3] [] w Q := by
  have h4 := hB.ok.t
  have h1 := hB.ok.u
  intro k
  induction k with
  | zero =>
    intro i hi hinv o3 ho 
    refine v112_2 hs hB.bx (bdk (by omega)) (bdk (by omega)) ho ?_
    rw [hB.t]
    refine ⟨fun _ => h0 ?_, fun q => by omega⟩
    unfold sHas
    rw [show (m 4).toNat = i from by omega]
    omega
  | succ k ih =>
    intro i hi hinv o3 ho 
    have htr := hB.trk (t := i) hu
    have hlt := trk_lt hB.ok hu (show i < 12 from by omega)
    have hb := hB.tb (u := (u : Nat)) (t := i) ⟨by omega, hu⟩ (by omega)
    have c1 := cnt_le (sCo1 m ((m 1).toNat * i + u)) 4096
    have c2 := cnt_le (sCo1 m ((m 1).toNat * i + u - 1)) 4096
    have hpos : sHasT m u i = true → sHas m u := fun q => cnt_pos (i := i) (by omega) q
    refine v112_2 hs hB.bx (bdk (by omega)) (bdk (by omega)) ho ?_
    rw [hB.t, hB.u, htr]
    refine ⟨fun q => by omega, fun _ => ⟨bdk (by omega), bdk (n := (m 1).toNat * i + u + 1) (by omega), hB.gs.1, hB.gs.2, ?_⟩⟩
    rw [hB.prs]
    refine ⟨bdk (by omega), fun q => h (hpos ?_), fun q => ⟨⟨by omega, by omega⟩, ⟨by omega, by omega⟩, hB.gs.1, hB.gs.2, ?_⟩⟩
    · unfold sHasT
      rw [decide_eq_true (by omega)]; rfl
    · by_cases hz : (m 1).toNat * i + u = 0
      · have e0 : lPrs (lP w b ((((m 1).toNat * i + u : Nat) : Int) - 1)) (lP w b ((((m 1).toNat * i + u : Nat) : Int) - 1 + 1)) (gI w b 2) (gI w b 0) = 0 := by
          rw [hz]
          exact hB.prs0
        rw [e0]
        refine ⟨bd0, fun _ => ?_, fun q => absurd q (by decide)⟩
        have := ih (i + 1) (by omega) (by
          rw [cnt_f, hinv]
          unfold sHasT
          rw [decide_eq_false (by omega), decide_eq_false (p := 0 < (m 1).toNat * i + u) (by omega)]; rfl) (some (iv (((m 1).toNat * i + u : Nat) : Int))) rfl
        exact this
      · rw [show ((((m 1).toNat * i + u : Nat) : Int) - 1) = (((m 1).toNat * i + u - 1 : Nat) : Int) from by omega, hB.prs]
        refine ⟨bdk (by omega), fun q2 => ?_, fun q2 => h (hpos ?_)⟩
        · have := ih (i + 1) (by omega) (by
            rw [cnt_f, hinv]
            unfold sHasT
            rw [decide_eq_false (by omega), decide_eq_false (p := 0 < cnt (sCo1 m ((m 1).toNat * i + u - 1)) 4096) (by omega), Bool.and_false]; rfl) (some (iv (((m 1).toNat * i + u : Nat) : Int))) rfl
          exact this
        · unfold sHasT
          rw [decide_eq_true (p := 0 < (m 1).toNat * i + u) (by omega), decide_eq_true (p := 0 < cnt (sCo1 m ((m 1).toNat * i + u - 1)) 4096) (by omega), Bool.and_true, Bool.or_true]
theorem c112 {w : PW} {Q : PO → PW → Prop} {b u : Nat} {m : Row} (hs : Sh w) (hB : BR w b m) (hu : (u : Int) < m 1) (h0 : ¬ sHas m u → Q (.inl (some (iv 0))) w) (h1 : sHas m u → Q (.inl (some (iv 1))) w) : pC 112 [.ref b, iv (u : Nat)] w Q :=
  e112 hs hB.bx (bdk (by have := hB.ok.u; omega)) (l112_2 hs hB hu h0 h1 (m 4).toNat 0 (by omega) rfl none rfl)
theorem sel_ex {P : Nat → Bool} {x : Int} {n : Nat} (h0 : 0 ≤ x) (h : x < (cnt P n : Int)) : ∃ i, i < n ∧ P i = true ∧ (cnt P i : Int) = x ∧ sel P x n = i := by
  induction n with
  | zero => exact absurd h (by show ¬ x < 0; omega)
  | succ n ih =>
    by_cases q : x < (cnt P n : Int)
    · obtain ⟨i, h1, h2, h3, -⟩ := ih q
      exact ⟨i, by omega, h2, h3, sel_at (by omega) h2 h3⟩
    · rw [cnt_s] at h
      by_cases q2 : P n = true
      · rw [if_pos q2] at h
        exact ⟨n, by omega, q2, by omega, sel_at (by omega) q2 (by omega)⟩
      · rw [if_neg q2] at h
        omega
/-- a block of the places -/
theorem sel_block {P : Nat → Bool} {x : Int} {a k n : Nat} (h0 : (cnt P a : Int) ≤ x) (h1 : x < (cnt P (a + k) : Int)) (hn : a + k ≤ n) : sel P x n = a + sel (fun i => P (a + i)) (x - cnt P a) k := by
  rw [cnt_split] at h1
  obtain ⟨i, i1, i2, i3, i4⟩ := sel_ex (P := fun i => P (a + i)) (x := x - cnt P a) (n := k) (by omega) (by omega)
  rw [i4, sel_at (P := P) (i := a + i) (by omega) i2 (by rw [cnt_split]; omega)]
  omega
/-! 100: PinBarrel$Box.stepsOfCollision(II)I -/
theorem b100 : mB 100 = cX0_stepsOfCollision := rfl
theorem r100 : mR 100 = (some .int) := rfl
theorem p100 (a b : Nat) : phi 100 a ≤ phi 100 b := Nat.le_refl 0
theorem d100_0 : decode cX0_stepsOfCollision 0 = .ok (.iload_n 2, 1) := by decide +kernel
theorem d100_1 : decode cX0_stepsOfCollision 1 = .ok (.istore_n 3, 1) := by decide +kernel
theorem d100_2 : decode cX0_stepsOfCollision 2 = .ok (.iconst 0, 1) := by decide +kernel
theorem d100_3 : decode cX0_stepsOfCollision 3 = .ok (.istore 4, 2) := by decide +kernel
theorem d100_5 : decode cX0_stepsOfCollision 5 = .ok (.iload 4, 2) := by decide +kernel
theorem d100_7 : decode cX0_stepsOfCollision 7 = .ok (.aload_n 0, 1) := by decide +kernel
theorem d100_8 : decode cX0_stepsOfCollision 8 = .ok (.getfield 9, 3) := by decide +kernel
theorem d100_11 : decode cX0_stepsOfCollision 11 = .ok (.if_icmp .ge 80, 3) := by decide +kernel
theorem d100_14 : decode cX0_stepsOfCollision 14 = .ok (.aload_n 0, 1) := by decide +kernel
theorem d100_15 : decode cX0_stepsOfCollision 15 = .ok (.iload_n 1, 1) := by decide +kernel
theorem d100_16 : decode cX0_stepsOfCollision 16 = .ok (.invokevirtual 85, 3) := by decide +kernel
theorem d100_19 : decode cX0_stepsOfCollision 19 = .ok (.iload 4, 2) := by decide +kernel
theorem d100_21 : decode cX0_stepsOfCollision 21 = .ok (.invokestatic 89, 3) := by decide +kernel
theorem d100_24 : decode cX0_stepsOfCollision 24 = .ok (.ifCond .eq 61, 3) := by decide +kernel
theorem d100_27 : decode cX0_stepsOfCollision 27 = .ok (.aload_n 0, 1) := by decide +kernel
theorem d100_28 : decode cX0_stepsOfCollision 28 = .ok (.iload_n 1, 1) := by decide +kernel
theorem d100_29 : decode cX0_stepsOfCollision 29 = .ok (.iconst 1, 1) := by decide +kernel
theorem d100_30 : decode cX0_stepsOfCollision 30 = .ok (.iadd, 1) := by decide +kernel
theorem d100_31 : decode cX0_stepsOfCollision 31 = .ok (.invokevirtual 85, 3) := by decide +kernel
theorem d100_34 : decode cX0_stepsOfCollision 34 = .ok (.iload 4, 2) := by decide +kernel
theorem d100_36 : decode cX0_stepsOfCollision 36 = .ok (.aload_n 0, 1) := by decide +kernel
theorem d100_37 : decode cX0_stepsOfCollision 37 = .ok (.getfield 18, 3) := by decide +kernel
theorem d100_40 : decode cX0_stepsOfCollision 40 = .ok (.aload_n 0, 1) := by decide +kernel
theorem d100_41 : decode cX0_stepsOfCollision 41 = .ok (.getfield 9, 3) := by decide +kernel
theorem d100_44 : decode cX0_stepsOfCollision 44 = .ok (.invokestatic 152, 3) := by decide +kernel
theorem d100_47 : decode cX0_stepsOfCollision 47 = .ok (.land, 1) := by decide +kernel
theorem d100_48 : decode cX0_stepsOfCollision 48 = .ok (.lstore 5, 2) := by decide +kernel
theorem d100_50 : decode cX0_stepsOfCollision 50 = .ok (.lload 5, 2) := by decide +kernel
theorem d100_52 : decode cX0_stepsOfCollision 52 = .ok (.invokestatic 105, 3) := by decide +kernel
theorem d100_55 : decode cX0_stepsOfCollision 55 = .ok (.istore 7, 2) := by decide +kernel
theorem d100_57 : decode cX0_stepsOfCollision 57 = .ok (.iload_n 3, 1) := by decide +kernel
theorem d100_58 : decode cX0_stepsOfCollision 58 = .ok (.iload 7, 2) := by decide +kernel
theorem d100_60 : decode cX0_stepsOfCollision 60 = .ok (.if_icmp .ge 20, 3) := by decide +kernel
theorem d100_63 : decode cX0_stepsOfCollision 63 = .ok (.bipush 64, 2) := by decide +kernel
theorem d100_65 : decode cX0_stepsOfCollision 65 = .ok (.iload 4, 2) := by decide +kernel
theorem d100_67 : decode cX0_stepsOfCollision 67 = .ok (.imul, 1) := by decide +kernel
theorem d100_68 : decode cX0_stepsOfCollision 68 = .ok (.lload 5, 2) := by decide +kernel
theorem d100_70 : decode cX0_stepsOfCollision 70 = .ok (.iload_n 3, 1) := by decide +kernel
theorem d100_71 : decode cX0_stepsOfCollision 71 = .ok (.aload_n 0, 1) := by decide +kernel
theorem d100_72 : decode cX0_stepsOfCollision 72 = .ok (.getfield 9, 3) := by decide +kernel
theorem d100_75 : decode cX0_stepsOfCollision 75 = .ok (.invokestatic 156, 3) := by decide +kernel
theorem d100_78 : decode cX0_stepsOfCollision 78 = .ok (.iadd, 1) := by decide +kernel
theorem d100_79 : decode cX0_stepsOfCollision 79 = .ok (.ireturn, 1) := by decide +kernel
theorem d100_80 : decode cX0_stepsOfCollision 80 = .ok (.iload_n 3, 1) := by decide +kernel
theorem d100_81 : decode cX0_stepsOfCollision 81 = .ok (.iload 7, 2) := by decide +kernel
theorem d100_83 : decode cX0_stepsOfCollision 83 = .ok (.isub, 1) := by decide +kernel
theorem d100_84 : decode cX0_stepsOfCollision 84 = .ok (.istore_n 3, 1) := by decide +kernel
theorem d100_85 : decode cX0_stepsOfCollision 85 = .ok (.iinc 4 1, 3) := by decide +kernel
theorem d100_88 : decode cX0_stepsOfCollision 88 = .ok (.goto (-83), 3) := by decide +kernel
theorem d100_91 : decode cX0_stepsOfCollision 91 = .ok (.iconst 0, 1) := by decide +kernel
theorem d100_92 : decode cX0_stepsOfCollision 92 = .ok (.ireturn, 1) := by decide +kernel
theorem v100_0 {w : PW} {Q : PO → PW → Prop} {b : Nat} {x1 : Int} {x2 : Int} (hs : Sh w) (hb : bx b) (hx1 : bd x1) (hx2 : bd x2) (h : pX 100 5 [some (.ref b), some (iv x1), some (iv x2), some (iv x2), some (iv 0), none, none, none] [] w Q) : pX 100 0 [some (.ref b), some (iv x1), some (iv x2), none, none, none, none, none] [] w Q :=
  w_f b100 d100_0 rfl rfl rfl <| w_f b100 d100_1 rfl rfl rfl <| w_f b100 d100_2 rfl rfl rfl <| w_f b100 d100_3 rfl rfl rfl <| h
theorem e100 {w : PW} {Q : PO → PW → Prop} {b : Nat} {x1 : Int} {x2 : Int} (hs : Sh w) (hb : bx b) (hx1 : bd x1) (hx2 : bd x2) (h : pX 100 5 [some (.ref b), some (iv x1), some (iv x2), some (iv x2), some (iv 0), none, none, none] [] w Q) : pC 100 [.ref b, iv x1, iv x2] w Q :=
  (pC_in (Nat.le_of_ble_eq_true rfl) rfl Q).mpr (v100_0 hs hb hx1 hx2 h)
theorem v100_5 {w : PW} {Q : PO → PW → Prop} {b : Nat} {x1 : Int} {x2 : Int} {x3 : Int} {x4 : Int} {o5 : Option Value} {o6 : Option Value} {o7 : Option Value} (hs : Sh w) (hb : bx b) (hx1 : bd x1) (hx2 : bd x2) (hx3 : bd x3) (hx4 : bd x4) (ho6 : pc2 o6 = false) (ho7 : pc2 o7 = false) (h : ((gI w b 0) ≤ x4 → Q (.inl (some (iv 0))) w) ∧ (x4 < (gI w b 0) → (0 ≤ x4 ∧ x4 < 64) ∧ ((¬ (tL (lP w b x1) (x4).toNat = true)) → pX 100 5 [some (.ref b), some (iv x1), some (iv x2), some (iv x3), some (iv (x4 + 1)), o5, o6, o7] [] w Q) ∧ ((tL (lP w b x1) (x4).toNat = true) → (bd (x1 + 1)) ∧ (bd ((gI w b 0) - (gI w b 2) + 1)) ∧ (bd ((gI w b 0) - x4)) ∧ (bd ((gI w b 0) - ((gI w b 0) - (gI w b 2) + 1))) ∧ (((cnt (tL ((lP w b (x1 + 1)) &&& (lNear x4 (gI w b 2) (gI w b 0)))) 64 : Int)) ≤ x3 → pX 100 5 [some (.ref b), some (iv x1), some (iv x2), some (iv (x3 - ((cnt (tL ((lP w b (x1 + 1)) &&& (lNear x4 (gI w b 2) (gI w b 0)))) 64 : Int)))), some (iv (x4 + 1)), some (.long ((lP w b (x1 + 1)) &&& (lNear x4 (gI w b 2) (gI w b 0)))), none, some (iv ((cnt (tL ((lP w b (x1 + 1)) &&& (lNear x4 (gI w b 2) (gI w b 0)))) 64 : Int)))] [] w Q) ∧ (x3 < ((cnt (tL ((lP w b (x1 + 1)) &&& (lNear x4 (gI w b 2) (gI w b 0)))) 64 : Int)) → (0 ≤ (gI w b 0) ∧ (gI w b 0) ≤ 64) ∧ Q (.inl (some (iv ((64 * x4) + (sel (tL ((lP w b (x1 + 1)) &&& (lNear x4 (gI w b 2) (gI w b 0)))) x3 ((gI w b 0)).toNat))))) w)))) : pX 100 5 [some (.ref b), some (iv x1), some (iv x2), some (iv x3), some (iv x4), o5, o6, o7] [] w Q :=
  w_f b100 d100_5 rfl rfl rfl <| w_f b100 d100_7 rfl rfl rfl <| w_gi b100 d100_8 rfl rfl hs (bx00 hb) (tb0 hb) rfl <| w_icge b100 d100_11 rfl rfl (p100 _ _) hx4 (bd_gI _ _ _) (fun c1 => w_f b100 d100_91 rfl rfl rfl <| w_ri b100 d100_92 r100 (h.1 c1)) (fun c1 => w_f b100 d100_14 rfl rfl rfl <| w_f b100 d100_15 rfl rfl rfl <| w_cc b100 d100_16 rfl (pcl_v (n := 1) rfl rfl rfl (by decide +kernel) (sh_isOb hs (bx00 hb) (tb0 hb)) rfl rfl) rfl <| c29 hs hb hx1 <| w_f b100 d100_19 rfl rfl rfl <| w_cc b100 d100_21 rfl (pcl_s1 (n := 2) rfl rfl rfl (by decide +kernel) rfl rfl) rfl <| c42 hs hx4 (h.2 c1).1 <| w_ifeqZ b100 d100_24 rfl rfl (p100 _ _) (fun c2 => w_f b100 d100_85 rfl (pf_iinc rfl rfl) rfl <| w_j b100 d100_88 rfl (p100 _ _) <| ((h.2 c1).2.1 c2)) (fun c2 => w_f b100 d100_27 rfl rfl rfl <| w_f b100 d100_28 rfl rfl rfl <| w_f b100 d100_29 rfl rfl rfl <| w_f b100 d100_30 rfl (pf_iadd x1 1) rfl <| w_cc b100 d100_31 rfl (pcl_v (n := 1) rfl rfl rfl (by decide +kernel) (sh_isOb hs (bx00 hb) (tb0 hb)) rfl rfl) rfl <| c29 hs hb ((h.2 c1).2.2 c2).1 <| w_f b100 d100_34 rfl rfl rfl <| w_f b100 d100_36 rfl rfl rfl <| w_gi b100 d100_37 rfl rfl hs (bx00 hb) (tb0 hb) rfl <| w_f b100 d100_40 rfl rfl rfl <| w_gi b100 d100_41 rfl rfl hs (bx00 hb) (tb0 hb) rfl <| w_cc b100 d100_44 rfl (pcl_s1 (n := 3) rfl rfl rfl (by decide +kernel) rfl rfl) rfl <| c99 hs hx4 (bd_gI _ _ _) (bd_gI _ _ _) ((h.2 c1).2.2 c2).2.1 ((h.2 c1).2.2 c2).2.2.1 ((h.2 c1).2.2 c2).2.2.2.1 <| w_f b100 d100_47 rfl rfl rfl <| w_f b100 d100_48 rfl rfl rfl <| w_f b100 d100_50 rfl rfl rfl <| w_cc b100 d100_52 rfl (pcl_s1 (n := 1) rfl rfl rfl (by decide +kernel) rfl rfl) rfl <| c57 hs <| w_f b100 d100_55 rfl rfl rfl <| w_f b100 d100_57 rfl rfl rfl <| w_f b100 d100_58 rfl rfl rfl <| w_icge b100 d100_60 rfl rfl (p100 _ _) hx3 (bd_c64 _) (fun c3 => w_f b100 d100_80 rfl rfl rfl <| w_f b100 d100_81 rfl rfl rfl <| w_f b100 d100_83 rfl (pf_isub x3 ((cnt (tL ((lP w b (x1 + 1)) &&& (lNear x4 (gI w b 2) (gI w b 0)))) 64 : Int))) rfl <| w_f b100 d100_84 rfl rfl rfl <| w_f b100 d100_85 rfl (pf_iinc rfl rfl) rfl <| w_j b100 d100_88 rfl (p100 _ _) <| (((h.2 c1).2.2 c2).2.2.2.2.1 c3)) (fun c3 => w_f b100 d100_63 rfl rfl rfl <| w_f b100 d100_65 rfl rfl rfl <| w_f b100 d100_67 rfl (pf_imul 64 x4) rfl <| w_f b100 d100_68 rfl rfl rfl <| w_f b100 d100_70 rfl rfl rfl <| w_f b100 d100_71 rfl rfl rfl <| w_gi b100 d100_72 rfl rfl hs (bx00 hb) (tb0 hb) rfl <| w_cc b100 d100_75 rfl (pcl_s1 (n := 3) rfl rfl rfl (by decide +kernel) rfl rfl) rfl <| c81 hs hx3 (bd_gI _ _ _) (((h.2 c1).2.2 c2).2.2.2.2.2 c3).1 <| w_f b100 d100_78 rfl (pf_iadd (64 * x4) (sel (tL ((lP w b (x1 + 1)) &&& (lNear x4 (gI w b 2) (gI w b 0)))) x3 ((gI w b 0)).toNat)) rfl <| w_ri b100 d100_79 r100 (((h.2 c1).2.2 c2).2.2.2.2.2 c3).2)))
/-! 101: PinBarrel$Box.placeOfCollision(I)I -/
theorem b101 : mB 101 = cX0_placeOfCollision := rfl
theorem r101 : mR 101 = (some .int) := rfl
theorem p101 (a b : Nat) : phi 101 a ≤ phi 101 b := Nat.le_refl 0
theorem d101_0 : decode cX0_placeOfCollision 0 = .ok (.iload_n 1, 1) := by decide +kernel
theorem d101_1 : decode cX0_placeOfCollision 1 = .ok (.istore_n 2, 1) := by decide +kernel
theorem d101_2 : decode cX0_placeOfCollision 2 = .ok (.iconst 0, 1) := by decide +kernel
theorem d101_3 : decode cX0_placeOfCollision 3 = .ok (.istore_n 3, 1) := by decide +kernel
theorem d101_4 : decode cX0_placeOfCollision 4 = .ok (.iload_n 3, 1) := by decide +kernel
theorem d101_5 : decode cX0_placeOfCollision 5 = .ok (.iconst 1, 1) := by decide +kernel
theorem d101_6 : decode cX0_placeOfCollision 6 = .ok (.iadd, 1) := by decide +kernel
theorem d101_7 : decode cX0_placeOfCollision 7 = .ok (.aload_n 0, 1) := by decide +kernel
theorem d101_8 : decode cX0_placeOfCollision 8 = .ok (.getfield 15, 3) := by decide +kernel
theorem d101_11 : decode cX0_placeOfCollision 11 = .ok (.aload_n 0, 1) := by decide +kernel
theorem d101_12 : decode cX0_placeOfCollision 12 = .ok (.getfield 24, 3) := by decide +kernel
theorem d101_15 : decode cX0_placeOfCollision 15 = .ok (.imul, 1) := by decide +kernel
theorem d101_16 : decode cX0_placeOfCollision 16 = .ok (.if_icmp .ge 44, 3) := by decide +kernel
theorem d101_19 : decode cX0_placeOfCollision 19 = .ok (.iload_n 2, 1) := by decide +kernel
theorem d101_20 : decode cX0_placeOfCollision 20 = .ok (.ifCond .lt 40, 3) := by decide +kernel
theorem d101_23 : decode cX0_placeOfCollision 23 = .ok (.aload_n 0, 1) := by decide +kernel
theorem d101_24 : decode cX0_placeOfCollision 24 = .ok (.iload_n 3, 1) := by decide +kernel
theorem d101_25 : decode cX0_placeOfCollision 25 = .ok (.invokevirtual 146, 3) := by decide +kernel
theorem d101_28 : decode cX0_placeOfCollision 28 = .ok (.istore 4, 2) := by decide +kernel
theorem d101_30 : decode cX0_placeOfCollision 30 = .ok (.iload_n 2, 1) := by decide +kernel
theorem d101_31 : decode cX0_placeOfCollision 31 = .ok (.iload 4, 2) := by decide +kernel
theorem d101_33 : decode cX0_placeOfCollision 33 = .ok (.if_icmp .ge 16, 3) := by decide +kernel
theorem d101_36 : decode cX0_placeOfCollision 36 = .ok (.sipush 4096, 3) := by decide +kernel
theorem d101_39 : decode cX0_placeOfCollision 39 = .ok (.iload_n 3, 1) := by decide +kernel
theorem d101_40 : decode cX0_placeOfCollision 40 = .ok (.imul, 1) := by decide +kernel
theorem d101_41 : decode cX0_placeOfCollision 41 = .ok (.aload_n 0, 1) := by decide +kernel
theorem d101_42 : decode cX0_placeOfCollision 42 = .ok (.iload_n 3, 1) := by decide +kernel
theorem d101_43 : decode cX0_placeOfCollision 43 = .ok (.iload_n 2, 1) := by decide +kernel
theorem d101_44 : decode cX0_placeOfCollision 44 = .ok (.invokevirtual 149, 3) := by decide +kernel
theorem d101_47 : decode cX0_placeOfCollision 47 = .ok (.iadd, 1) := by decide +kernel
theorem d101_48 : decode cX0_placeOfCollision 48 = .ok (.ireturn, 1) := by decide +kernel
theorem d101_49 : decode cX0_placeOfCollision 49 = .ok (.iload_n 2, 1) := by decide +kernel
theorem d101_50 : decode cX0_placeOfCollision 50 = .ok (.iload 4, 2) := by decide +kernel
theorem d101_52 : decode cX0_placeOfCollision 52 = .ok (.isub, 1) := by decide +kernel
theorem d101_53 : decode cX0_placeOfCollision 53 = .ok (.istore_n 2, 1) := by decide +kernel
theorem d101_54 : decode cX0_placeOfCollision 54 = .ok (.iinc 3 1, 3) := by decide +kernel
theorem d101_57 : decode cX0_placeOfCollision 57 = .ok (.goto (-53), 3) := by decide +kernel
theorem d101_60 : decode cX0_placeOfCollision 60 = .ok (.iconst (-1), 1) := by decide +kernel
theorem d101_61 : decode cX0_placeOfCollision 61 = .ok (.ireturn, 1) := by decide +kernel
theorem v101_0 {w : PW} {Q : PO → PW → Prop} {b : Nat} {x1 : Int} (hs : Sh w) (hb : bx b) (hx1 : bd x1) (h : pX 101 4 [some (.ref b), some (iv x1), some (iv x1), some (iv 0), none] [] w Q) : pX 101 0 [some (.ref b), some (iv x1), none, none, none] [] w Q :=
  w_f b101 d101_0 rfl rfl rfl <| w_f b101 d101_1 rfl rfl rfl <| w_f b101 d101_2 rfl rfl rfl <| w_f b101 d101_3 rfl rfl rfl <| h
theorem e101 {w : PW} {Q : PO → PW → Prop} {b : Nat} {x1 : Int} (hs : Sh w) (hb : bx b) (hx1 : bd x1) (h : pX 101 4 [some (.ref b), some (iv x1), some (iv x1), some (iv 0), none] [] w Q) : pC 101 [.ref b, iv x1] w Q :=
  (pC_in (Nat.le_of_ble_eq_true rfl) rfl Q).mpr (v101_0 hs hb hx1 h)
theorem v101_4 {w : PW} {Q : PO → PW → Prop} {b : Nat} {x1 : Int} {x2 : Int} {x3 : Int} {o4 : Option Value} (hs : Sh w) (hb : bx b) (hx1 : bd x1) (hx2 : bd x2) (hx3 : bd x3) (ho4 : pc2 o4 = false) (h : (bd (x3 + 1)) ∧ (bd ((gI w b 1) * (gI w b 4))) ∧ (((gI w b 1) * (gI w b 4)) ≤ (x3 + 1) → Q (.inl (some (iv ((-1))))) w) ∧ ((x3 + 1) < ((gI w b 1) * (gI w b 4)) → (x2 < 0 → Q (.inl (some (iv ((-1))))) w) ∧ (0 ≤ x2 → (bd (x3 + 1)) ∧ (gI w b 2 ≤ 3) ∧ (3 ≤ gI w b 0 ∧ gI w b 0 ≤ 64) ∧ (bd (lPrs (lP w b x3) (lP w b (x3 + 1)) (gI w b 2) (gI w b 0))) ∧ ((lPrs (lP w b x3) (lP w b (x3 + 1)) (gI w b 2) (gI w b 0)) ≤ x2 → pX 101 4 [some (.ref b), some (iv x1), some (iv (x2 - (lPrs (lP w b x3) (lP w b (x3 + 1)) (gI w b 2) (gI w b 0)))), some (iv (x3 + 1)), some (iv (lPrs (lP w b x3) (lP w b (x3 + 1)) (gI w b 2) (gI w b 0)))] [] w Q) ∧ (x2 < (lPrs (lP w b x3) (lP w b (x3 + 1)) (gI w b 2) (gI w b 0)) → pC 100 [.ref b, iv x3, iv x2] w (kI fun u5 w4 => Sh w4 ∧ Q (.inl (some (iv ((4096 * x3) + u5)))) w4))))) : pX 101 4 [some (.ref b), some (iv x1), some (iv x2), some (iv x3), o4] [] w Q :=
  w_f b101 d101_4 rfl rfl rfl <| w_f b101 d101_5 rfl rfl rfl <| w_f b101 d101_6 rfl (pf_iadd x3 1) rfl <| w_f b101 d101_7 rfl rfl rfl <| w_gi b101 d101_8 rfl rfl hs (bx00 hb) (tb0 hb) rfl <| w_f b101 d101_11 rfl rfl rfl <| w_gi b101 d101_12 rfl rfl hs (bx00 hb) (tb0 hb) rfl <| w_f b101 d101_15 rfl (pf_imul (gI w b 1) (gI w b 4)) rfl <| w_icge b101 d101_16 rfl rfl (p101 _ _) h.1 h.2.1 (fun c1 => w_f b101 d101_60 rfl rfl rfl <| w_ri b101 d101_61 r101 (h.2.2.1 c1)) (fun c1 => w_f b101 d101_19 rfl rfl rfl <| w_iflt b101 d101_20 rfl rfl (p101 _ _) hx2 (fun c2 => w_f b101 d101_60 rfl rfl rfl <| w_ri b101 d101_61 r101 ((h.2.2.2 c1).1 c2)) (fun c2 => w_f b101 d101_23 rfl rfl rfl <| w_f b101 d101_24 rfl rfl rfl <| w_cc b101 d101_25 rfl (pcl_v (n := 1) rfl rfl rfl (by decide +kernel) (sh_isOb hs (bx00 hb) (tb0 hb)) rfl rfl) rfl <| c63 hs hb hx3 ((h.2.2.2 c1).2 c2).1 ((h.2.2.2 c1).2 c2).2.1 ((h.2.2.2 c1).2 c2).2.2.1 <| w_f b101 d101_28 rfl rfl rfl <| w_f b101 d101_30 rfl rfl rfl <| w_f b101 d101_31 rfl rfl rfl <| w_icge b101 d101_33 rfl rfl (p101 _ _) hx2 ((h.2.2.2 c1).2 c2).2.2.2.1 (fun c3 => w_f b101 d101_49 rfl rfl rfl <| w_f b101 d101_50 rfl rfl rfl <| w_f b101 d101_52 rfl (pf_isub x2 (lPrs (lP w b x3) (lP w b (x3 + 1)) (gI w b 2) (gI w b 0))) rfl <| w_f b101 d101_53 rfl rfl rfl <| w_f b101 d101_54 rfl (pf_iinc rfl rfl) rfl <| w_j b101 d101_57 rfl (p101 _ _) <| (((h.2.2.2 c1).2 c2).2.2.2.2.1 c3)) (fun c3 => w_f b101 d101_36 rfl rfl rfl <| w_f b101 d101_39 rfl rfl rfl <| w_f b101 d101_40 rfl (pf_imul 4096 x3) rfl <| w_f b101 d101_41 rfl rfl rfl <| w_f b101 d101_42 rfl rfl rfl <| w_f b101 d101_43 rfl rfl rfl <| w_c b101 d101_44 rfl (pcl_v (n := 2) rfl rfl rfl (by decide +kernel) (sh_isOb hs (bx00 hb) (tb0 hb)) rfl rfl) rfl _ (hK_I fun u5 w4 hbu5 hkw4 => w_f b101 d101_47 rfl (pf_iadd (4096 * x3) _) rfl <| w_ri b101 d101_48 r101 hkw4.2) (((h.2.2.2 c1).2 c2).2.2.2.2.2 c3))))
theorem l100_5 {w : PW} {Q : PO → PW → Prop} {b j : Nat} {m : Row} {x : Int} (hs : Sh w) (hB : BR w b m) (hj : j < 36) (hx0 : 0 ≤ x ∧ x < (cnt (sCo1 m j) 4096 : Int)) (h : Q (.inl (some (iv (sel (sCo1 m j) x 4096)))) w) : ∀ k i : Nat, i + k = (m 0).toNat → (cnt (sCo1 m j) (64 * i) : Int) ≤ x → ∀ o5 o6 o7 : Option Value, pc2 o6 = false → pc2 o7 = false → pX 100 5 [some (.ref b), some (iv (j : Nat)), some (iv x), some (iv (x - (cnt (sCo1 m j) (64 * i) : Nat))), some (iv (i : Nat)), o5, o6, o7] [] w Q := by
  have h0 := hB.ok.s
  have h2 := hB.ok.g
  intro k
  induction k with
  | zero =>
    intro i hi hinv o5 o6 o7 h6 h7 
    exfalso
    have : cnt (sCo1 m j) (64 * (m 0).toNat) = cnt (sCo1 m j) 4096 := cnt_gap (by omega) (fun c h1 h2 => by
      unfold sCo1 prP
      rw [rTr_no (j := j) (Or.inr (by omega)), Bool.false_and])
    rw [show i = (m 0).toNat from by omega] at hinv
    omega
  | succ k ih =>
    intro i hi hinv o5 o6 o7 h6 h7 
    have hc := cnt_le (sCo1 m j) 4096
    have hlo := hB.lPj (j := j) (s := i) (by omega)
    have hbits : ∀ z, z < 64 → tL (lP w b ((j : Int) + 1) &&& lNear i (m 2) (m 0)) z = (rTr m (j + 1) z && nearI (m 0) i z (m 2)) := by
      intro z hz
      have := lNear_bits (S := (m 0).toNat) (s := i) (z := z) (G := m 2) (by omega) (by omega) (by omega) hz
      rw [show (((m 0).toNat : Nat) : Int) = m 0 from by omega] at this
      rw [tL_and, this, show ((j : Int) + 1) = ((j + 1 : Nat) : Int) from rfl, hB.lPj hz]
      by_cases q : z < (m 0).toNat
      · rw [decide_eq_true q, Bool.true_and]
      · rw [rTr_no (j := j + 1) (Or.inr (by omega)), Bool.false_and, Bool.false_and]
    have hat : ∀ z, z < 64 → sCo1 m j (64 * i + z) = (rTr m j i && (rTr m (j + 1) z && nearI (m 0) i z (m 2))) := fun z hz => prP_at hz
    refine v100_5 hs hB.bx (bdk (by omega)) ⟨by omega, by omega⟩ ⟨by omega, by omega⟩ (bdk (by omega)) h6 h7 ?_
    rw [hB.s, Int.toNat_natCast, hlo, hB.g]
    refine ⟨fun q => by omega, fun _ => ⟨⟨by omega, by omega⟩, fun q => ?_, fun q => ⟨bdk (n := j + 1) (by omega), ⟨by omega, by omega⟩, ⟨by omega, by omega⟩, ⟨by omega, by omega⟩, fun q2 => ?_, fun q2 => ⟨⟨by omega, by omega⟩, ?_⟩⟩⟩⟩
    · have e : cnt (sCo1 m j) (64 * (i + 1)) = cnt (sCo1 m j) (64 * i) := (cnt_gap (by omega) (fun c h1 h2 => by
        rw [show c = 64 * i + (c - 64 * i) from by omega, hat _ (by omega), Bool.eq_false_iff.mpr q, Bool.false_and])).symm
      have := ih (i + 1) (by omega) (by rw [e]; exact hinv) o5 o6 o7 h6 h7
      rw [e] at this
      exact this
    · have e : cnt (sCo1 m j) (64 * (i + 1)) = cnt (sCo1 m j) (64 * i) + cnt (tL (lP w b ((j : Int) + 1) &&& lNear i (m 2) (m 0))) 64 := by
        rw [show 64 * (i + 1) = 64 * i + 64 from by omega, cnt_split]
        refine congrArg (cnt (sCo1 m j) (64 * i) + ·) (cnt_congr (fun z hz => ?_))
        rw [hat z hz, hbits z hz, q, Bool.true_and]
      have := ih (i + 1) (by omega) (by rw [e]; omega) (some (.long (lP w b ((j : Int) + 1) &&& lNear i (m 2) (m 0)))) none (some (iv ((cnt (tL (lP w b ((j : Int) + 1) &&& lNear i (m 2) (m 0))) 64 : Nat) : Int))) rfl rfl
      rw [e, show x - ((cnt (sCo1 m j) (64 * i) + cnt (tL (lP w b ((j : Int) + 1) &&& lNear i (m 2) (m 0))) 64 : Nat) : Int) = x - (cnt (sCo1 m j) (64 * i) : Nat) - (cnt (tL (lP w b ((j : Int) + 1) &&& lNear i (m 2) (m 0))) 64 : Nat) from by omega] at this
      exact this
    · have e1 : ∀ z, z < 64 → sCo1 m j (64 * i + z) = tL (lP w b ((j : Int) + 1) &&& lNear i (m 2) (m 0)) z := fun z hz => by rw [hat z hz, hbits z hz, q, Bool.true_and]
      have e2 : cnt (fun z => sCo1 m j (64 * i + z)) 64 = cnt (tL (lP w b ((j : Int) + 1) &&& lNear i (m 2) (m 0))) 64 := cnt_congr e1
      have e3 : cnt (tL (lP w b ((j : Int) + 1) &&& lNear i (m 2) (m 0))) 64 = cnt (tL (lP w b ((j : Int) + 1) &&& lNear i (m 2) (m 0))) (m 0).toNat := cnt_cut (by omega) (fun z h1 h2 => by rw [hbits z h2, rTr_no (j := j + 1) (Or.inr h1), Bool.false_and])
      have e4 : cnt (fun z => sCo1 m j (64 * i + z)) 64 = cnt (fun z => sCo1 m j (64 * i + z)) (m 0).toNat := by rw [e2, e3]; exact (cnt_congr (fun z hz => e1 z (by omega))).symm
      rw [sel_block (a := 64 * i) (k := (m 0).toNat) (by omega) (by rw [cnt_split, ← e4, e2]; omega) (by omega), sel_congr (Q := tL (lP w b ((j : Int) + 1) &&& lNear i (m 2) (m 0))) (fun z hz => e1 z (by omega))] at h
      exact h
theorem c100 {w : PW} {Q : PO → PW → Prop} {b j : Nat} {m : Row} {x : Int} (hs : Sh w) (hB : BR w b m) (hj : j < 36) (hx0 : 0 ≤ x ∧ x < (cnt (sCo1 m j) 4096 : Int)) (h : Q (.inl (some (iv (sel (sCo1 m j) x 4096)))) w) : pC 100 [.ref b, iv (j : Nat), iv x] w Q := by
  have hc := cnt_le (sCo1 m j) 4096
  refine e100 hs hB.bx (bdk (by omega)) ⟨by omega, by omega⟩ ?_
  have := l100_5 hs hB hj hx0 h (m 0).toNat 0 (by omega) hx0.1 none none none rfl rfl
  rw [show x - ((cnt (sCo1 m j) (64 * 0) : Nat) : Int) = x from Int.sub_zero x] at this
  exact this
theorem l101_4 {w : PW} {Q : PO → PW → Prop} {b : Nat} {m : Row} {x : Int} (hs : Sh w) (hB : BR w b m) (hx : bd x) (h : Q (.inl (some (iv (sel (sCoP m) x (4096 * 36))))) w) : ∀ k i : Nat, i + k = (m 1).toNat * (m 4).toNat → (0 ≤ x → (cnt (sCoP m) (4096 * i) : Int) ≤ x) → (x < 0 → cnt (sCoP m) (4096 * i) = 0) → ∀ o4 : Option Value, pc2 o4 = false → pX 101 4 [some (.ref b), some (iv x), some (iv (x - (cnt (sCoP m) (4096 * i) : Nat))), some (iv (i : Nat)), o4] [] w Q := by
  have hU := UT_le hB.ok
  intro k
  induction k with
  | zero =>
    intro i hi h8 h9 o4 ho 
    have hc := cnt_le (sCoP m) (4096 * i)
    have := hx.1
    have := hx.2
    refine v101_4 hs hB.bx hx (by constructor <;> omega) (bdk (by omega)) ho ⟨bdk (n := i + 1) (by omega), ?_⟩
    rw [hB.u, hB.t, hU.2]
    refine ⟨bdk (by omega), fun _ => ?_, fun q => by omega⟩
    rw [sel_no (by rw [← sCoP_end (j := i) (by omega) (by omega)]; by_cases q : 0 ≤ x <;> omega)] at h
    exact h
  | succ k ih =>
    intro i hi h8 h9 o4 ho 
    have hc := cnt_le (sCoP m) (4096 * i)
    have hc1 := cnt_le (sCo1 m i) 4096
    have := hx.1
    have := hx.2
    refine v101_4 hs hB.bx hx (by constructor <;> omega) (bdk (by omega)) ho ⟨bdk (n := i + 1) (by omega), ?_⟩
    rw [hB.u, hB.t, hU.2, hB.prs]
    refine ⟨bdk (by omega), fun q => ?_, fun q => ⟨fun q2 => ?_, fun q2 => ⟨bdk (n := i + 1) (by omega), hB.gs.1, hB.gs.2, bdk (by omega), fun q3 => ?_, fun q3 => ?_⟩⟩⟩
    · rw [sel_no (by rw [← sCoP_end (j := i) (by omega) (by omega)]; by_cases q : 0 ≤ x <;> omega)] at h
      exact h
    · rw [sel_no (Or.inl (by by_cases q : 0 ≤ x <;> omega))] at h
      exact h
    · have := ih (i + 1) (by omega) (fun _ => by rw [sCo_step]; omega) (fun z => by omega) (some (iv (cnt (sCo1 m i) 4096 : Nat))) rfl
      rw [sCo_step, show x - ((cnt (sCoP m) (4096 * i) + cnt (sCo1 m i) 4096 : Nat) : Int) = x - (cnt (sCoP m) (4096 * i) : Nat) - (cnt (sCo1 m i) 4096 : Nat) from by omega] at this
      exact this
    · have hx0 : 0 ≤ x := by omega
      have hs1 := sel_bd (P := sCo1 m i) (x := x - (cnt (sCoP m) (4096 * i) : Nat)) (n := 4096)
      refine c100 hs hB (by omega) ⟨by omega, by omega⟩ (kI_iv ⟨by omega, by omega⟩ ⟨hs, ?_⟩)
      rw [sel_block (a := 4096 * i) (k := 4096) (by omega) (by rw [show 4096 * i + 4096 = 4096 * (i + 1) from by omega, sCo_step]; omega) (by omega), sel_congr (Q := sCo1 m i) (fun c hc => sCoP_at hc)] at h
      exact h
theorem c101 {w : PW} {Q : PO → PW → Prop} {b : Nat} {m : Row} {x : Int} (hs : Sh w) (hB : BR w b m) (hx : bd x) (h : Q (.inl (some (iv (sel (sCoP m) x (4096 * 36))))) w) : pC 101 [.ref b, iv x] w Q := by
  refine e101 hs hB.bx hx ?_
  have := l101_4 hs hB hx h _ 0 (Nat.zero_add _) (fun z => z) (fun _ => rfl) none rfl
  rw [show x - ((cnt (sCoP m) (4096 * 0) : Nat) : Int) = x from Int.sub_zero x] at this
  exact this

