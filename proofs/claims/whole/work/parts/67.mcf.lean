/-! THE MODEL: conflicts -/
/-! 279: PinBarrelModel.nextPin(III)I -/
theorem b279 : mB 279 = cX9_nextPin := rfl
theorem r279 : mR 279 = (some .int) := rfl
theorem p279 (a b : Nat) : phi 279 a ≤ phi 279 b := Nat.le_refl 0
theorem d279_0 : decode cX9_nextPin 0 = .ok (.iload_n 3, 1) := by decide +kernel
theorem d279_1 : decode cX9_nextPin 1 = .ok (.istore 4, 2) := by decide +kernel
theorem d279_3 : decode cX9_nextPin 3 = .ok (.iload 4, 2) := by decide +kernel
theorem d279_5 : decode cX9_nextPin 5 = .ok (.iconst 1, 1) := by decide +kernel
theorem d279_6 : decode cX9_nextPin 6 = .ok (.iadd, 1) := by decide +kernel
theorem d279_7 : decode cX9_nextPin 7 = .ok (.aload_n 0, 1) := by decide +kernel
theorem d279_8 : decode cX9_nextPin 8 = .ok (.getfield 9, 3) := by decide +kernel
theorem d279_11 : decode cX9_nextPin 11 = .ok (.iconst 0, 1) := by decide +kernel
theorem d279_12 : decode cX9_nextPin 12 = .ok (.iaload, 1) := by decide +kernel
theorem d279_13 : decode cX9_nextPin 13 = .ok (.irem, 1) := by decide +kernel
theorem d279_14 : decode cX9_nextPin 14 = .ok (.istore 4, 2) := by decide +kernel
theorem d279_16 : decode cX9_nextPin 16 = .ok (.aload_n 0, 1) := by decide +kernel
theorem d279_17 : decode cX9_nextPin 17 = .ok (.iload_n 1, 1) := by decide +kernel
theorem d279_18 : decode cX9_nextPin 18 = .ok (.iload 4, 2) := by decide +kernel
theorem d279_20 : decode cX9_nextPin 20 = .ok (.iload_n 2, 1) := by decide +kernel
theorem d279_21 : decode cX9_nextPin 21 = .ok (.invokevirtual 228, 3) := by decide +kernel
theorem d279_24 : decode cX9_nextPin 24 = .ok (.ifCond .eq (-21), 3) := by decide +kernel
theorem d279_27 : decode cX9_nextPin 27 = .ok (.iload 4, 2) := by decide +kernel
theorem d279_29 : decode cX9_nextPin 29 = .ok (.ireturn, 1) := by decide +kernel
theorem v279_0 {w : PW} {Q : PO → PW → Prop} {x1 : Int} {x2 : Int} {x3 : Int} (hs : Sh w) (hx1 : bd x1) (hx2 : bd x2) (hx3 : bd x3) (h : pX 279 3 [some (.ref 169), some (iv x1), some (iv x2), some (iv x3), some (iv x3)] [] w Q) : pX 279 0 [some (.ref 169), some (iv x1), some (iv x2), some (iv x3), none] [] w Q :=
  w_f b279 d279_0 rfl rfl rfl <| w_f b279 d279_1 rfl rfl rfl <| h
theorem e279 {w : PW} {Q : PO → PW → Prop} {x1 : Int} {x2 : Int} {x3 : Int} (hs : Sh w) (hx1 : bd x1) (hx2 : bd x2) (hx3 : bd x3) (h : pX 279 3 [some (.ref 169), some (iv x1), some (iv x2), some (iv x3), some (iv x3)] [] w Q) : pC 279 [.ref 169, iv x1, iv x2, iv x3] w Q :=
  (pC_in (Nat.le_of_ble_eq_true rfl) rfl Q).mpr (v279_0 hs hx1 hx2 hx3 h)
theorem v279_3 {w : PW} {Q : PO → PW → Prop} {x1 : Int} {x2 : Int} {x3 : Int} {x4 : Int} (hs : Sh w) (hx1 : bd x1) (hx2 : bd x2) (hx3 : bd x3) (hx4 : bd x4) (h : (bd (x4 + 1)) ∧ (0 < (gI w 170 0) ∧ (gI w 170 0) < 2147483648) ∧ (bd ((x4 + 1).tmod (gI w 170 0))) ∧ (bd ((251 + 64 * x1) + ((x4 + 1).tmod (gI w 170 0)))) ∧ (0 ≤ (251 + 64 * x1) + ((x4 + 1).tmod (gI w 170 0)) ∧ (251 + 64 * x1) + ((x4 + 1).tmod (gI w 170 0)) < 843) ∧ (0 ≤ x2 ∧ x2 < 32) ∧ ((¬ (tI (gI w 170 ((251 + 64 * x1) + ((x4 + 1).tmod (gI w 170 0))).toNat) (x2).toNat = true)) → pX 279 3 [some (.ref 169), some (iv x1), some (iv x2), some (iv x3), some (iv ((x4 + 1).tmod (gI w 170 0)))] [] w Q) ∧ ((tI (gI w 170 ((251 + 64 * x1) + ((x4 + 1).tmod (gI w 170 0))).toNat) (x2).toNat = true) → Q (.inl (some (iv ((x4 + 1).tmod (gI w 170 0))))) w)) : pX 279 3 [some (.ref 169), some (iv x1), some (iv x2), some (iv x3), some (iv x4)] [] w Q :=
  w_f b279 d279_3 rfl rfl rfl <| w_f b279 d279_5 rfl rfl rfl <| w_f b279 d279_6 rfl (pf_iadd x4 1) rfl <| w_f b279 d279_7 rfl rfl rfl <| w_gr b279 d279_8 rfl rfl hs (tlt 169 rfl) tbC_169 rfl (by decide) <| w_f b279 d279_11 rfl rfl rfl <| w_ial b279 d279_12 rfl hs (tlt 170 rfl) tbC_170 (bdix (n := 843) ⟨by decide, by decide⟩ rfl) ⟨by decide, by decide⟩ <| w_f b279 d279_13 rfl (pf_irem h.1 h.2.1) rfl <| w_f b279 d279_14 rfl rfl rfl <| w_f b279 d279_16 rfl rfl rfl <| w_f b279 d279_17 rfl rfl rfl <| w_f b279 d279_18 rfl rfl rfl <| w_f b279 d279_20 rfl rfl rfl <| w_cc b279 d279_21 rfl (pcl_v (n := 3) rfl rfl rfl (by decide +kernel) (sh_isOb hs (tlt 169 rfl) tbC_169) rfl rfl) rfl <| c251 hs hx1 h.2.2.1 hx2 h.2.2.2.1 h.2.2.2.2.1 h.2.2.2.2.2.1 <| w_ifeqZ b279 d279_24 rfl rfl (p279 _ _) (fun c1 => (h.2.2.2.2.2.2.1 c1)) (fun c1 => w_f b279 d279_27 rfl rfl rfl <| w_ri b279 d279_29 r279 (h.2.2.2.2.2.2.2 c1))
/-! 280: PinBarrelModel.seeksConflict(II)I -/
theorem b280 : mB 280 = cX9_seeksConflict := rfl
theorem r280 : mR 280 = (some .int) := rfl
theorem p280 (a b : Nat) : phi 280 a ≤ phi 280 b := Nat.le_refl 0
theorem d280_0 : decode cX9_seeksConflict 0 = .ok (.iconst 0, 1) := by decide +kernel
theorem d280_1 : decode cX9_seeksConflict 1 = .ok (.istore_n 3, 1) := by decide +kernel
theorem d280_2 : decode cX9_seeksConflict 2 = .ok (.iconst 0, 1) := by decide +kernel
theorem d280_3 : decode cX9_seeksConflict 3 = .ok (.istore 4, 2) := by decide +kernel
theorem d280_5 : decode cX9_seeksConflict 5 = .ok (.iload 4, 2) := by decide +kernel
theorem d280_7 : decode cX9_seeksConflict 7 = .ok (.aload_n 0, 1) := by decide +kernel
theorem d280_8 : decode cX9_seeksConflict 8 = .ok (.getfield 9, 3) := by decide +kernel
theorem d280_11 : decode cX9_seeksConflict 11 = .ok (.iconst 4, 1) := by decide +kernel
theorem d280_12 : decode cX9_seeksConflict 12 = .ok (.iaload, 1) := by decide +kernel
theorem d280_13 : decode cX9_seeksConflict 13 = .ok (.if_icmp .ge 116, 3) := by decide +kernel
theorem d280_16 : decode cX9_seeksConflict 16 = .ok (.iconst 0, 1) := by decide +kernel
theorem d280_17 : decode cX9_seeksConflict 17 = .ok (.istore 5, 2) := by decide +kernel
theorem d280_19 : decode cX9_seeksConflict 19 = .ok (.iload 5, 2) := by decide +kernel
theorem d280_21 : decode cX9_seeksConflict 21 = .ok (.aload_n 0, 1) := by decide +kernel
theorem d280_22 : decode cX9_seeksConflict 22 = .ok (.getfield 9, 3) := by decide +kernel
theorem d280_25 : decode cX9_seeksConflict 25 = .ok (.iconst 0, 1) := by decide +kernel
theorem d280_26 : decode cX9_seeksConflict 26 = .ok (.iaload, 1) := by decide +kernel
theorem d280_27 : decode cX9_seeksConflict 27 = .ok (.if_icmp .ge 96, 3) := by decide +kernel
theorem d280_30 : decode cX9_seeksConflict 30 = .ok (.aload_n 0, 1) := by decide +kernel
theorem d280_31 : decode cX9_seeksConflict 31 = .ok (.iload_n 1, 1) := by decide +kernel
theorem d280_32 : decode cX9_seeksConflict 32 = .ok (.iload 5, 2) := by decide +kernel
theorem d280_34 : decode cX9_seeksConflict 34 = .ok (.iload 4, 2) := by decide +kernel
theorem d280_36 : decode cX9_seeksConflict 36 = .ok (.invokevirtual 228, 3) := by decide +kernel
theorem d280_39 : decode cX9_seeksConflict 39 = .ok (.ifCond .ne 6, 3) := by decide +kernel
theorem d280_42 : decode cX9_seeksConflict 42 = .ok (.goto 75, 3) := by decide +kernel
theorem d280_45 : decode cX9_seeksConflict 45 = .ok (.aload_n 0, 1) := by decide +kernel
theorem d280_46 : decode cX9_seeksConflict 46 = .ok (.iload_n 1, 1) := by decide +kernel
theorem d280_47 : decode cX9_seeksConflict 47 = .ok (.iload 4, 2) := by decide +kernel
theorem d280_49 : decode cX9_seeksConflict 49 = .ok (.iload 5, 2) := by decide +kernel
theorem d280_51 : decode cX9_seeksConflict 51 = .ok (.invokevirtual 234, 3) := by decide +kernel
theorem d280_54 : decode cX9_seeksConflict 54 = .ok (.istore 6, 2) := by decide +kernel
theorem d280_56 : decode cX9_seeksConflict 56 = .ok (.aload_n 0, 1) := by decide +kernel
theorem d280_57 : decode cX9_seeksConflict 57 = .ok (.iload 4, 2) := by decide +kernel
theorem d280_59 : decode cX9_seeksConflict 59 = .ok (.invokevirtual 238, 3) := by decide +kernel
theorem d280_62 : decode cX9_seeksConflict 62 = .ok (.aload_n 0, 1) := by decide +kernel
theorem d280_63 : decode cX9_seeksConflict 63 = .ok (.iload 5, 2) := by decide +kernel
theorem d280_65 : decode cX9_seeksConflict 65 = .ok (.iload 6, 2) := by decide +kernel
theorem d280_67 : decode cX9_seeksConflict 67 = .ok (.invokevirtual 231, 3) := by decide +kernel
theorem d280_70 : decode cX9_seeksConflict 70 = .ok (.isub, 1) := by decide +kernel
theorem d280_71 : decode cX9_seeksConflict 71 = .ok (.istore 7, 2) := by decide +kernel
theorem d280_73 : decode cX9_seeksConflict 73 = .ok (.iload 7, 2) := by decide +kernel
theorem d280_75 : decode cX9_seeksConflict 75 = .ok (.ifCond .gt 6, 3) := by decide +kernel
theorem d280_78 : decode cX9_seeksConflict 78 = .ok (.goto 39, 3) := by decide +kernel
theorem d280_81 : decode cX9_seeksConflict 81 = .ok (.aload_n 0, 1) := by decide +kernel
theorem d280_82 : decode cX9_seeksConflict 82 = .ok (.iload 4, 2) := by decide +kernel
theorem d280_84 : decode cX9_seeksConflict 84 = .ok (.putfield 241, 3) := by decide +kernel
theorem d280_87 : decode cX9_seeksConflict 87 = .ok (.aload_n 0, 1) := by decide +kernel
theorem d280_88 : decode cX9_seeksConflict 88 = .ok (.iload 5, 2) := by decide +kernel
theorem d280_90 : decode cX9_seeksConflict 90 = .ok (.putfield 244, 3) := by decide +kernel
theorem d280_93 : decode cX9_seeksConflict 93 = .ok (.aload_n 0, 1) := by decide +kernel
theorem d280_94 : decode cX9_seeksConflict 94 = .ok (.iload 6, 2) := by decide +kernel
theorem d280_96 : decode cX9_seeksConflict 96 = .ok (.putfield 247, 3) := by decide +kernel
theorem d280_99 : decode cX9_seeksConflict 99 = .ok (.aload_n 0, 1) := by decide +kernel
theorem d280_100 : decode cX9_seeksConflict 100 = .ok (.iload 7, 2) := by decide +kernel
theorem d280_102 : decode cX9_seeksConflict 102 = .ok (.putfield 250, 3) := by decide +kernel
theorem d280_105 : decode cX9_seeksConflict 105 = .ok (.iload_n 3, 1) := by decide +kernel
theorem d280_106 : decode cX9_seeksConflict 106 = .ok (.iload_n 2, 1) := by decide +kernel
theorem d280_107 : decode cX9_seeksConflict 107 = .ok (.if_icmp .ne 7, 3) := by decide +kernel
theorem d280_110 : decode cX9_seeksConflict 110 = .ok (.iload_n 3, 1) := by decide +kernel
theorem d280_111 : decode cX9_seeksConflict 111 = .ok (.iconst 1, 1) := by decide +kernel
theorem d280_112 : decode cX9_seeksConflict 112 = .ok (.iadd, 1) := by decide +kernel
theorem d280_113 : decode cX9_seeksConflict 113 = .ok (.ireturn, 1) := by decide +kernel
theorem d280_114 : decode cX9_seeksConflict 114 = .ok (.iinc 3 1, 3) := by decide +kernel
theorem d280_117 : decode cX9_seeksConflict 117 = .ok (.iinc 5 1, 3) := by decide +kernel
theorem d280_120 : decode cX9_seeksConflict 120 = .ok (.goto (-101), 3) := by decide +kernel
theorem d280_123 : decode cX9_seeksConflict 123 = .ok (.iinc 4 1, 3) := by decide +kernel
theorem d280_126 : decode cX9_seeksConflict 126 = .ok (.goto (-121), 3) := by decide +kernel
theorem d280_129 : decode cX9_seeksConflict 129 = .ok (.iload_n 3, 1) := by decide +kernel
theorem d280_130 : decode cX9_seeksConflict 130 = .ok (.ireturn, 1) := by decide +kernel
theorem v280_0 {w : PW} {Q : PO → PW → Prop} {x1 : Int} {x2 : Int} (hs : Sh w) (hx1 : bd x1) (hx2 : bd x2) (h : pX 280 5 [some (.ref 169), some (iv x1), some (iv x2), some (iv 0), some (iv 0), none, none, none] [] w Q) : pX 280 0 [some (.ref 169), some (iv x1), some (iv x2), none, none, none, none, none] [] w Q :=
  w_f b280 d280_0 rfl rfl rfl <| w_f b280 d280_1 rfl rfl rfl <| w_f b280 d280_2 rfl rfl rfl <| w_f b280 d280_3 rfl rfl rfl <| h
theorem e280 {w : PW} {Q : PO → PW → Prop} {x1 : Int} {x2 : Int} (hs : Sh w) (hx1 : bd x1) (hx2 : bd x2) (h : pX 280 5 [some (.ref 169), some (iv x1), some (iv x2), some (iv 0), some (iv 0), none, none, none] [] w Q) : pC 280 [.ref 169, iv x1, iv x2] w Q :=
  (pC_in (Nat.le_of_ble_eq_true rfl) rfl Q).mpr (v280_0 hs hx1 hx2 h)
theorem v280_5 {w : PW} {Q : PO → PW → Prop} {x1 : Int} {x2 : Int} {x3 : Int} {x4 : Int} {o5 : Option Value} {o6 : Option Value} {o7 : Option Value} (hs : Sh w) (hx1 : bd x1) (hx2 : bd x2) (hx3 : bd x3) (hx4 : bd x4) (ho5 : pc2 o5 = false) (ho6 : pc2 o6 = false) (ho7 : pc2 o7 = false) (h : ((gI w 170 4) ≤ x4 → Q (.inl (some (iv x3))) w) ∧ (x4 < (gI w 170 4) → pX 280 19 [some (.ref 169), some (iv x1), some (iv x2), some (iv x3), some (iv x4), some (iv 0), o6, o7] [] w Q)) : pX 280 5 [some (.ref 169), some (iv x1), some (iv x2), some (iv x3), some (iv x4), o5, o6, o7] [] w Q :=
  w_f b280 d280_5 rfl rfl rfl <| w_f b280 d280_7 rfl rfl rfl <| w_gr b280 d280_8 rfl rfl hs (tlt 169 rfl) tbC_169 rfl (by decide) <| w_f b280 d280_11 rfl rfl rfl <| w_ial b280 d280_12 rfl hs (tlt 170 rfl) tbC_170 (bdix (n := 843) ⟨by decide, by decide⟩ rfl) ⟨by decide, by decide⟩ <| w_icge b280 d280_13 rfl rfl (p280 _ _) hx4 (bd_gI _ _ _) (fun c1 => w_f b280 d280_129 rfl rfl rfl <| w_ri b280 d280_130 r280 (h.1 c1)) (fun c1 => w_f b280 d280_16 rfl rfl rfl <| w_f b280 d280_17 rfl rfl rfl <| (h.2 c1))
theorem v280_19 {w : PW} {Q : PO → PW → Prop} {x1 : Int} {x2 : Int} {x3 : Int} {x4 : Int} {x5 : Int} {o6 : Option Value} {o7 : Option Value} (hs : Sh w) (hx1 : bd x1) (hx2 : bd x2) (hx3 : bd x3) (hx4 : bd x4) (hx5 : bd x5) (ho6 : pc2 o6 = false) (ho7 : pc2 o7 = false) (h : ((gI w 170 0) ≤ x5 → pX 280 5 [some (.ref 169), some (iv x1), some (iv x2), some (iv x3), some (iv (x4 + 1)), some (iv x5), o6, o7] [] w Q) ∧ (x5 < (gI w 170 0) → (bd ((251 + 64 * x1) + x5)) ∧ (0 ≤ (251 + 64 * x1) + x5 ∧ (251 + 64 * x1) + x5 < 843) ∧ (0 ≤ x4 ∧ x4 < 32) ∧ ((tI (gI w 170 ((251 + 64 * x1) + x5).toNat) (x4).toNat = true) → pC 279 [.ref 169, iv x1, iv x4, iv x5] w (kI fun u4 w3 => Sh w3 ∧ (0 ≤ (11 + 5 * x4) + 1 ∧ (11 + 5 * x4) + 1 < 843) ∧ (0 < gI w3 170 0 ∧ gI w3 170 0 ≤ 64) ∧ (0 ≤ x5 ∧ x5 < gI w3 170 0) ∧ (0 ≤ u4 ∧ u4 < gI w3 170 0) ∧ (bd (((gI w3 170 ((11 + 5 * x4) + 1).toNat) * (gI w3 170 3)) - (wayI (gI w3 170 0) x5 u4))) ∧ (0 < (((gI w3 170 ((11 + 5 * x4) + 1).toNat) * (gI w3 170 3)) - (wayI (gI w3 170 0) x5 u4)) → ∀ w6 : PW, w6 = sI w3 169 17 x4 → ∀ w7 : PW, w7 = sI w6 169 18 x5 → ∀ w8 : PW, w8 = sI w7 169 19 u4 → ∀ w9 : PW, w9 = sI w8 169 20 (((gI w3 170 ((11 + 5 * x4) + 1).toNat) * (gI w3 170 3)) - (wayI (gI w3 170 0) x5 u4)) → (x3 ≠ x2 → pX 280 19 [some (.ref 169), some (iv x1), some (iv x2), some (iv (x3 + 1)), some (iv x4), some (iv (x5 + 1)), some (iv u4), some (iv (((gI w3 170 ((11 + 5 * x4) + 1).toNat) * (gI w3 170 3)) - (wayI (gI w3 170 0) x5 u4)))] [] w9 Q) ∧ (x3 = x2 → Q (.inl (some (iv (x3 + 1)))) w9)) ∧ ((((gI w3 170 ((11 + 5 * x4) + 1).toNat) * (gI w3 170 3)) - (wayI (gI w3 170 0) x5 u4)) ≤ 0 → pX 280 19 [some (.ref 169), some (iv x1), some (iv x2), some (iv x3), some (iv x4), some (iv (x5 + 1)), some (iv u4), some (iv (((gI w3 170 ((11 + 5 * x4) + 1).toNat) * (gI w3 170 3)) - (wayI (gI w3 170 0) x5 u4)))] [] w3 Q))) ∧ ((¬ (tI (gI w 170 ((251 + 64 * x1) + x5).toNat) (x4).toNat = true)) → pX 280 19 [some (.ref 169), some (iv x1), some (iv x2), some (iv x3), some (iv x4), some (iv (x5 + 1)), o6, o7] [] w Q))) : pX 280 19 [some (.ref 169), some (iv x1), some (iv x2), some (iv x3), some (iv x4), some (iv x5), o6, o7] [] w Q :=
  w_f b280 d280_19 rfl rfl rfl <| w_f b280 d280_21 rfl rfl rfl <| w_gr b280 d280_22 rfl rfl hs (tlt 169 rfl) tbC_169 rfl (by decide) <| w_f b280 d280_25 rfl rfl rfl <| w_ial b280 d280_26 rfl hs (tlt 170 rfl) tbC_170 (bdix (n := 843) ⟨by decide, by decide⟩ rfl) ⟨by decide, by decide⟩ <| w_icge b280 d280_27 rfl rfl (p280 _ _) hx5 (bd_gI _ _ _) (fun c1 => w_f b280 d280_123 rfl (pf_iinc rfl rfl) rfl <| w_j b280 d280_126 rfl (p280 _ _) <| (h.1 c1)) (fun c1 => w_f b280 d280_30 rfl rfl rfl <| w_f b280 d280_31 rfl rfl rfl <| w_f b280 d280_32 rfl rfl rfl <| w_f b280 d280_34 rfl rfl rfl <| w_cc b280 d280_36 rfl (pcl_v (n := 3) rfl rfl rfl (by decide +kernel) (sh_isOb hs (tlt 169 rfl) tbC_169) rfl rfl) rfl <| c251 hs hx1 hx5 hx4 (h.2 c1).1 (h.2 c1).2.1 (h.2 c1).2.2.1 <| w_ifneZ b280 d280_39 rfl rfl (p280 _ _) (fun c2 => w_f b280 d280_45 rfl rfl rfl <| w_f b280 d280_46 rfl rfl rfl <| w_f b280 d280_47 rfl rfl rfl <| w_f b280 d280_49 rfl rfl rfl <| w_c b280 d280_51 rfl (pcl_v (n := 3) rfl rfl rfl (by decide +kernel) (sh_isOb hs (tlt 169 rfl) tbC_169) rfl rfl) rfl _ (hK_I fun u4 w3 hbu4 hkw3 => w_f b280 d280_54 rfl rfl rfl <| w_f b280 d280_56 rfl rfl rfl <| w_f b280 d280_57 rfl rfl rfl <| w_cc b280 d280_59 rfl (pcl_v (n := 1) rfl rfl rfl (by decide +kernel) (sh_isOb hkw3.1 (tlt 169 rfl) tbC_169) rfl rfl) rfl <| c262 hkw3.1 hx4 hkw3.2.1 <| w_f b280 d280_62 rfl rfl rfl <| w_f b280 d280_63 rfl rfl rfl <| w_f b280 d280_65 rfl rfl rfl <| w_cc b280 d280_67 rfl (pcl_v (n := 2) rfl rfl rfl (by decide +kernel) (sh_isOb hkw3.1 (tlt 169 rfl) tbC_169) rfl rfl) rfl <| c253 hkw3.1 hx5 hbu4 hkw3.2.2.1 hkw3.2.2.2.1 hkw3.2.2.2.2.1 <| w_f b280 d280_70 rfl (pf_isub _ _) rfl <| w_f b280 d280_71 rfl rfl rfl <| w_f b280 d280_73 rfl rfl rfl <| w_ifgt b280 d280_75 rfl rfl (p280 _ _) hkw3.2.2.2.2.2.1 (fun c5 => w_f b280 d280_81 rfl rfl rfl <| w_f b280 d280_82 rfl rfl rfl <| w_pi b280 d280_84 rfl rfl hkw3.1 (tlt 169 rfl) tbC_169 rfl rfl rfl <| w_f b280 d280_87 rfl rfl rfl <| w_f b280 d280_88 rfl rfl rfl <| w_pi b280 d280_90 rfl rfl (Sh_sI hkw3.1 (slt_o tbC_169 rfl)) (tlt 169 rfl) tbC_169 rfl rfl rfl <| w_f b280 d280_93 rfl rfl rfl <| w_f b280 d280_94 rfl rfl rfl <| w_pi b280 d280_96 rfl rfl (Sh_sI (Sh_sI hkw3.1 (slt_o tbC_169 rfl)) (slt_o tbC_169 rfl)) (tlt 169 rfl) tbC_169 rfl rfl rfl <| w_f b280 d280_99 rfl rfl rfl <| w_f b280 d280_100 rfl rfl rfl <| w_pi b280 d280_102 rfl rfl (Sh_sI (Sh_sI (Sh_sI hkw3.1 (slt_o tbC_169 rfl)) (slt_o tbC_169 rfl)) (slt_o tbC_169 rfl)) (tlt 169 rfl) tbC_169 rfl rfl rfl <| w_f b280 d280_105 rfl rfl rfl <| w_f b280 d280_106 rfl rfl rfl <| w_icne b280 d280_107 rfl rfl (p280 _ _) hx3 hx2 (fun c10 => w_f b280 d280_114 rfl (pf_iinc rfl rfl) rfl <| w_f b280 d280_117 rfl (pf_iinc rfl rfl) rfl <| w_j b280 d280_120 rfl (p280 _ _) <| ((((((hkw3.2.2.2.2.2.2.1 c5) _ rfl) _ rfl) _ rfl) _ rfl).1 c10)) (fun c10 => w_f b280 d280_110 rfl rfl rfl <| w_f b280 d280_111 rfl rfl rfl <| w_f b280 d280_112 rfl (pf_iadd x3 1) rfl <| w_ri b280 d280_113 r280 ((((((hkw3.2.2.2.2.2.2.1 c5) _ rfl) _ rfl) _ rfl) _ rfl).2 c10))) (fun c5 => w_j b280 d280_78 rfl (p280 _ _) <| w_f b280 d280_117 rfl (pf_iinc rfl rfl) rfl <| w_j b280 d280_120 rfl (p280 _ _) <| (hkw3.2.2.2.2.2.2.2 c5))) ((h.2 c1).2.2.2.1 c2)) (fun c2 => w_j b280 d280_42 rfl (p280 _ _) <| w_f b280 d280_117 rfl (pf_iinc rfl rfl) rfl <| w_j b280 d280_120 rfl (p280 _ _) <| ((h.2 c1).2.2.2.2 c2)))
/-! 281: PinBarrelModel.conflictsOf(I)I -/
theorem b281 : mB 281 = cX9_conflictsOf := rfl
theorem r281 : mR 281 = (some .int) := rfl
theorem p281 (a b : Nat) : phi 281 a ≤ phi 281 b := Nat.le_refl 0
theorem d281_0 : decode cX9_conflictsOf 0 = .ok (.aload_n 0, 1) := by decide +kernel
theorem d281_1 : decode cX9_conflictsOf 1 = .ok (.iload_n 1, 1) := by decide +kernel
theorem d281_2 : decode cX9_conflictsOf 2 = .ok (.ldc 255, 2) := by decide +kernel
theorem d281_4 : decode cX9_conflictsOf 4 = .ok (.invokevirtual 256, 3) := by decide +kernel
theorem d281_7 : decode cX9_conflictsOf 7 = .ok (.ireturn, 1) := by decide +kernel
theorem v281_0 {w : PW} {Q : PO → PW → Prop} {x1 : Int} (hs : Sh w) (hx1 : bd x1) (h : pC 280 [.ref 169, iv x1, iv 2147483647] w (kI fun u2 w1 => Sh w1 ∧ Q (.inl (some (iv u2))) w1)) : pX 281 0 [some (.ref 169), some (iv x1)] [] w Q :=
  w_f b281 d281_0 rfl rfl rfl <| w_f b281 d281_1 rfl rfl rfl <| w_ldcI b281 d281_2 rfl rfl <| w_c b281 d281_4 rfl (pcl_v (n := 2) rfl rfl rfl (by decide +kernel) (sh_isOb hs (tlt 169 rfl) tbC_169) rfl rfl) rfl _ (hK_I fun u2 w1 hbu2 hkw1 => w_ri b281 d281_7 r281 hkw1.2) h
theorem e281 {w : PW} {Q : PO → PW → Prop} {x1 : Int} (hs : Sh w) (hx1 : bd x1) (h : pC 280 [.ref 169, iv x1, iv 2147483647] w (kI fun u2 w1 => Sh w1 ∧ Q (.inl (some (iv u2))) w1)) : pC 281 [.ref 169, iv x1] w Q :=
  (pC_in (Nat.le_of_ble_eq_true rfl) rfl Q).mpr (v281_0 hs hx1 h)
theorem MR.pin {w : PW} {m : Row} (hM : MR w m) {u s : Nat} (hu : u < 3) (hs : s < 64) : gI w 170 ((251 + 64 * (u : Int)) + (s : Int)).toNat = m (251 + 64 * u + s) := hM.i (x := (251 + 64 * (u : Int)) + (s : Int)) (n := 251 + 64 * u + s) rfl (by omega)
theorem MR.need {w : PW} {m : Row} (hM : MR w m) {t : Nat} (ht : t < 12) : gI w 170 ((11 + 5 * (t : Int)) + 1).toNat * gI w 170 3 = sNeed m t := by
  rw [hM.i (x := (11 + 5 * (t : Int)) + 1) (n := 11 + 5 * t + 1) rfl (by omega), hM.g (k := 3) rfl]
  rfl
theorem wN_way {S s y : Nat} (hs : s < S) (h1 : 1 ≤ y) (h2 : y ≤ S) : wayI (S : Nat) (s : Nat) (wN S s y : Nat) = (y : Nat) := by
  unfold wayI wN
  split <;> split <;> omega
section MCF
variable {w : PW} {Q : PO → PW → Prop} {m : Row} {u : Nat}
theorem l279_3 {t s : Nat} (hs0 : Sh w) (hM : MR w m) (hu : (u : Int) < m 1) (ht : t < 12) (hs : (s : Int) < m 0) (hp : rPin m u s t = true) (h : Q (.inl (some (iv (wN (m 0).toNat s (sWay m u t s) : Nat)))) w) : ∀ k i : Nat, i + k = (m 0).toNat - 1 → (∀ y, y < i → rPin m u (wN (m 0).toNat s (y + 1)) t = false) → pX 279 3 [some (.ref 169), some (iv (u : Nat)), some (iv (t : Nat)), some (iv (s : Nat)), some (iv (wN (m 0).toNat s i : Nat))] [] w Q := by
  have h0 := hM.ok.s
  have h1 := hM.ok.u
  have stp : ∀ i, i + 1 ≤ (m 0).toNat → (((wN (m 0).toNat s i : Nat) : Int) + 1).tmod (m 0) = (wN (m 0).toNat s (i + 1) : Nat) := by
    intro i hi
    have hl := wN_lt (S := (m 0).toNat) (s := s) (i := i) (by omega) (by omega)
    rw [Int.tmod_eq_emod_of_nonneg (by omega)]
    by_cases q : wN (m 0).toNat s i + 1 < (m 0).toNat
    · rw [Int.emod_eq_of_lt (by omega) (by omega)]
      revert q
      unfold wN
      split <;> split <;> omega
    · rw [show ((wN (m 0).toNat s i : Nat) : Int) + 1 = m 0 from by omega, Int.emod_self]
      revert q
      unfold wN
      split <;> split <;> omega
  have fin : ∀ i, i + 1 ≤ (m 0).toNat → (∀ y, y < i → rPin m u (wN (m 0).toNat s (y + 1)) t = false) → rPin m u (wN (m 0).toNat s (i + 1)) t = true → sWay m u t s = i + 1 := by
    intro i hi hI q
    unfold sWay
    rw [fnd_eq (i := i) hI (fun _ => q) (by omega)]
  have go : ∀ i, i + 1 ≤ (m 0).toNat → (∀ y, y < i → rPin m u (wN (m 0).toNat s (y + 1)) t = false) → (rPin m u (wN (m 0).toNat s (i + 1)) t = false → pX 279 3 [some (.ref 169), some (iv (u : Nat)), some (iv (t : Nat)), some (iv (s : Nat)), some (iv (wN (m 0).toNat s (i + 1) : Nat))] [] w Q) → pX 279 3 [some (.ref 169), some (iv (u : Nat)), some (iv (t : Nat)), some (iv (s : Nat)), some (iv (wN (m 0).toNat s i : Nat))] [] w Q := by
    intro i hi hI hn
    have hl := wN_lt (S := (m 0).toNat) (s := s) (i := i) (by omega) (by omega)
    have hl2 := wN_lt (S := (m 0).toNat) (s := s) (i := i + 1) (by omega) (by omega)
    refine v279_3 hs0 (bdk (by omega)) (bdk (by omega)) (bdk (by omega)) (bdk (by omega)) ?_
    rw [hM.g (k := 0) rfl, stp i hi, hM.pin (by omega) (by omega), Int.toNat_natCast]
    refine ⟨⟨by omega, by omega⟩, ⟨by omega, by omega⟩, bdk (by omega), ⟨by omega, by omega⟩, ⟨by omega, by omega⟩, ⟨by omega, by omega⟩, fun q => hn (Bool.eq_false_iff.mpr q), fun q => ?_⟩
    rw [fin i hi hI q] at h
    exact h
  intro k
  induction k with
  | zero =>
    intro i hi hI
    refine go i (by omega) hI (fun q => ?_)
    have e : wN (m 0).toNat s (i + 1) = s := by unfold wN; rw [if_neg (by omega)]; omega
    rw [e, hp] at q
    exact absurd q (by decide)
  | succ k ih =>
    intro i hi hI
    refine go i (by omega) hI (fun q => ih (i + 1) (by omega) (fun y hy => ?_))
    by_cases q2 : y = i
    · rw [q2]; exact q
    · exact hI y (by omega)
theorem c279 {t s : Nat} (hs0 : Sh w) (hM : MR w m) (hu : (u : Int) < m 1) (ht : t < 12) (hs : (s : Int) < m 0) (hp : rPin m u s t = true) (h : Q (.inl (some (iv (wN (m 0).toNat s (sWay m u t s) : Nat)))) w) : pC 279 [.ref 169, iv (u : Nat), iv (t : Nat), iv (s : Nat)] w Q := by
  have h0 := hM.ok.s
  have h1 := hM.ok.u
  refine e279 hs0 (bdk (by omega)) (bdk (by omega)) (bdk (by omega)) ?_
  have := l279_3 hs0 hM hu ht hs hp h _ 0 (Nat.zero_add _) (fun y hy => absurd hy (Nat.not_lt_zero y))
  rw [show wN (m 0).toNat s 0 = s from by unfold wN; rw [if_pos (by omega)]; rfl] at this
  exact this
theorem l280_19 {x2 : Int} {t : Nat} (hx2 : bd x2) (hM : MR w m) (hu : (u : Int) < m 1) (ht : (t : Int) < m 4) (hY : ∀ c, c < 768 → sCfP m u c = true → (cnt (sCfP m u) c : Int) = x2 → ∀ w2, MF w w2 → gI w2 169 17 = (c / 64 : Nat) → gI w2 169 18 = (c % 64 : Nat) → gI w2 169 19 = (wN (m 0).toNat (c % 64) (sWay m u (c / 64) (c % 64)) : Nat) → gI w2 169 20 = sShort m u (c / 64) (c % 64) → Q (.inl (some (iv (x2 + 1)))) w2) (hX : ∀ w2, MF w w2 → x2 < 0 ∨ (cnt (sCfP m u) (64 * (t + 1)) : Int) ≤ x2 → ∀ o6 o7 : Option Value, pc2 o6 = false → pc2 o7 = false → pX 280 5 [some (.ref 169), some (iv (u : Nat)), some (iv x2), some (iv (cnt (sCfP m u) (64 * (t + 1)) : Nat)), some (iv ((t : Int) + 1)), some (iv (m 0)), o6, o7] [] w2 Q) : ∀ k s : Nat, s + k = (m 0).toNat → ∀ w1, MF w w1 → x2 < 0 ∨ (cnt (sCfP m u) (64 * t + s) : Int) ≤ x2 → ∀ o6 o7 : Option Value, pc2 o6 = false → pc2 o7 = false → pX 280 19 [some (.ref 169), some (iv (u : Nat)), some (iv x2), some (iv (cnt (sCfP m u) (64 * t + s) : Nat)), some (iv (t : Nat)), some (iv (s : Nat)), o6, o7] [] w1 Q := by
  have h0 := hM.ok.s
  have h1 := hM.ok.u
  have h4 := hM.ok.t
  intro k
  induction k with
  | zero =>
    intro s hk w1 hF hI o6 o7 ho6 ho7
    have hc := cnt_le (sCfP m u) (64 * t + s)
    have e := sCfP_end hM.ok (u := u) (t := t)
    refine v280_19 hF.1 (bdk (by omega)) hx2 (bdk (by omega)) (bdk (by omega)) (bdk (by omega)) ho6 ho7 ?_
    rw [(hF.mr hM).g (k := 0) rfl]
    refine ⟨fun _ => ?_, fun q => by omega⟩
    rw [show (m 0).toNat = s from by omega] at e
    rw [e] at hI ⊢
    have := hX w1 hF hI o6 o7 ho6 ho7
    rw [show m 0 = (s : Nat) from by omega] at this
    exact this
  | succ k ih =>
    intro s hk w1 hF hI o6 o7 ho6 ho7
    have hc := cnt_le (sCfP m u) (64 * t + s)
    have hM1 := hF.mr hM
    have hp := sCfP_at (m := m) (u := u) (t := t) (s := s) (by omega)
    rw [decide_eq_true (p := ((s : Nat) : Int) < m 0) (by omega), Bool.true_and] at hp
    refine v280_19 hF.1 (bdk (by omega)) hx2 (bdk (by omega)) (bdk (by omega)) (bdk (by omega)) ho6 ho7 ?_
    rw [hM1.g (k := 0) rfl, hM1.pin (by omega) (by omega), Int.toNat_natCast]
    have hno : sCfP m u (64 * t + s) = false → ∀ o6 o7 : Option Value, pc2 o6 = false → pc2 o7 = false → pX 280 19 [some (.ref 169), some (iv (u : Nat)), some (iv x2), some (iv (cnt (sCfP m u) (64 * t + s) : Nat)), some (iv (t : Nat)), some (iv ((s : Int) + 1)), o6, o7] [] w1 Q := fun q => by
      have := ih (s + 1) (by omega) w1 hF
      rw [show 64 * t + (s + 1) = 64 * t + s + 1 from rfl, cnt_f q] at this
      exact this hI
    refine ⟨fun q => by omega, fun _ => ⟨⟨by omega, by omega⟩, ⟨by omega, by omega⟩, ⟨by omega, by omega⟩, fun q => ?_, fun q => hno ?_ o6 o7 ho6 ho7⟩⟩
    · have q1 : rPin m u s t = true := q
      have hw := sWay_bd hM.ok u t s
      have hwl := wN_lt (S := (m 0).toNat) (s := s) (i := sWay m u t s) (by omega) (by omega)
      have hn := sNeed_bd hM.ok ht
      refine c279 hF.1 hM1 hu (by omega) (by omega) q1 (kI_iv (bdk (by omega)) ⟨hF.1, ⟨by omega, by omega⟩, ?_⟩)
      have ew := wN_way (S := (m 0).toNat) (s := s) (y := sWay m u t s) (by omega) hw.1 (by omega)
      rw [show (((m 0).toNat : Nat) : Int) = m 0 from by omega] at ew
      rw [hM1.need (by omega), hM1.g (k := 0) rfl, ew]
      have es : sShort m u t s = max 0 (sNeed m t - (sWay m u t s : Nat)) := if_pos q1
      refine ⟨⟨by omega, by omega⟩, ⟨by omega, by omega⟩, ⟨by omega, by omega⟩, ⟨by omega, by omega⟩, fun q2 w6 e6 w7 e7 w8 e8 w9 e9 => ?_, fun q2 => hno ?_ _ _ rfl rfl⟩
      · have ht9 : sCfP m u (64 * t + s) = true := by rw [hp]; exact decide_eq_true (by omega)
        obtain ⟨F6, g6, -⟩ := MF.set hF.1 e6 (slt_o tbC_169 rfl) (bdk (by omega)) (by omega)
        obtain ⟨F7, g7, -⟩ := MF.set F6.1 e7 (slt_o tbC_169 rfl) (bdk (by omega)) (by omega)
        obtain ⟨F8, g8, -⟩ := MF.set F7.1 e8 (slt_o tbC_169 rfl) (bdk (by omega)) (by omega)
        have b9 : bd (sNeed m t - (sWay m u t s : Nat)) := ⟨by omega, by omega⟩
        obtain ⟨F9, g9, -⟩ := MF.set F8.1 e9 (slt_o tbC_169 rfl) b9 (by omega)
        have FF := hF.tr (F6.tr (F7.tr (F8.tr F9)))
        refine ⟨fun q3 => ?_, fun q3 => ?_⟩
        · have := ih (s + 1) (by omega) w9 FF
          rw [show 64 * t + (s + 1) = 64 * t + s + 1 from rfl, cnt_t ht9] at this
          exact this (by omega) _ _ rfl rfl
        · obtain ⟨-, k7, -, -⟩ := stI e7 F6.1 (by omega) (slt_o tbC_169 rfl) (bdk (show s ≤ 2000000 by omega))
          obtain ⟨-, k8, -, -⟩ := stI e8 F7.1 (by omega) (slt_o tbC_169 rfl) (bdk (show wN (m 0).toNat s (sWay m u t s) ≤ 2000000 by omega))
          obtain ⟨-, k9, -, -⟩ := stI e9 F8.1 (by omega) (slt_o tbC_169 rfl) b9
          have d1 : (64 * t + s) / 64 = t := by omega
          have d2 : (64 * t + s) % 64 = s := by omega
          rw [q3]
          refine hY _ (by omega) ht9 q3 w9 FF ?_ ?_ ?_ ?_
          · rw [k9, if_neg (by omega), k8, if_neg (by omega), k7, if_neg (by omega), g6, d1]
          · rw [k9, if_neg (by omega), k8, if_neg (by omega), g7, d2]
          · rw [k9, if_neg (by omega), g8, d1, d2]
          · rw [g9, d1, d2, es]; omega
      · rw [hp]; exact decide_eq_false (by omega)
    · rw [hp]
      have : sShort m u t s = 0 := if_neg q
      rw [this]
      exact decide_eq_false (by omega)
theorem sCf_768 {m : Row} (hR : RowOK m) (u : Nat) : sCf m u ≤ 768 := by
  have h4 := hR.t
  have : cnt (sCfP m u) (64 * (m 4).toNat) ≤ 64 * (m 4).toNat := cnt_le _ _
  unfold sCf
  omega
theorem l280_5 {x2 : Int} (hx2 : bd x2) (hM : MR w m) (hu : (u : Int) < m 1) (hY : ∀ c, c < 768 → sCfP m u c = true → (cnt (sCfP m u) c : Int) = x2 → ∀ w2, MF w w2 → gI w2 169 17 = (c / 64 : Nat) → gI w2 169 18 = (c % 64 : Nat) → gI w2 169 19 = (wN (m 0).toNat (c % 64) (sWay m u (c / 64) (c % 64)) : Nat) → gI w2 169 20 = sShort m u (c / 64) (c % 64) → Q (.inl (some (iv (x2 + 1)))) w2) (hN : (x2 < 0 ∨ (sCf m u : Int) ≤ x2) → ∀ w2, MF w w2 → Q (.inl (some (iv (sCf m u : Nat)))) w2) : ∀ k t : Nat, t + k = (m 4).toNat → ∀ w1, MF w w1 → x2 < 0 ∨ (cnt (sCfP m u) (64 * t) : Int) ≤ x2 → ∀ o5 o6 o7 : Option Value, pc2 o5 = false → pc2 o6 = false → pc2 o7 = false → pX 280 5 [some (.ref 169), some (iv (u : Nat)), some (iv x2), some (iv (cnt (sCfP m u) (64 * t) : Nat)), some (iv (t : Nat)), o5, o6, o7] [] w1 Q := by
  have h0 := hM.ok.s
  have h1 := hM.ok.u
  have h4 := hM.ok.t
  intro k
  induction k with
  | zero =>
    intro t hk w1 hF hI o5 o6 o7 ho5 ho6 ho7
    have hc := cnt_le (sCfP m u) (64 * t)
    refine v280_5 hF.1 (bdk (by omega)) hx2 (bdk (by omega)) (bdk (by omega)) ho5 ho6 ho7 ?_
    rw [(hF.mr hM).g (k := 4) rfl]
    refine ⟨fun _ => ?_, fun q => by omega⟩
    unfold sCf at hN
    rw [show (m 4).toNat = t from by omega] at hN
    exact hN hI w1 hF
  | succ k ih =>
    intro t hk w1 hF hI o5 o6 o7 ho5 ho6 ho7
    have hc := cnt_le (sCfP m u) (64 * t)
    refine v280_5 hF.1 (bdk (by omega)) hx2 (bdk (by omega)) (bdk (by omega)) ho5 ho6 ho7 ?_
    rw [(hF.mr hM).g (k := 4) rfl]
    refine ⟨fun q => by omega, fun _ => ?_⟩
    have := l280_19 (w := w) (Q := Q) (t := t) hx2 hM hu (by omega) hY (fun w2 F2 I2 p6 p7 hp6 hp7 => by
      have := ih (t + 1) (by omega) w2 F2 I2 (some (iv (m 0))) p6 p7 rfl hp6 hp7
      exact this) (m 0).toNat 0 (Nat.zero_add _) w1 hF hI o6 o7 ho6 ho7
    exact this
theorem c280 {x2 : Int} (hs : Sh w) (hx2 : bd x2) (hM : MR w m) (hu : (u : Int) < m 1) (hY : ∀ c, c < 768 → sCfP m u c = true → (cnt (sCfP m u) c : Int) = x2 → ∀ w2, MF w w2 → gI w2 169 17 = (c / 64 : Nat) → gI w2 169 18 = (c % 64 : Nat) → gI w2 169 19 = (wN (m 0).toNat (c % 64) (sWay m u (c / 64) (c % 64)) : Nat) → gI w2 169 20 = sShort m u (c / 64) (c % 64) → Q (.inl (some (iv (x2 + 1)))) w2) (hN : (x2 < 0 ∨ (sCf m u : Int) ≤ x2) → ∀ w2, MF w w2 → Q (.inl (some (iv (sCf m u : Nat)))) w2) : pC 280 [.ref 169, iv (u : Nat), iv x2] w Q := by
  have h1 := hM.ok.u
  refine e280 hs (bdk (by omega)) hx2 ?_
  have := l280_5 (w := w) (Q := Q) hx2 hM hu hY hN (m 4).toNat 0 (Nat.zero_add _) w (MF.rf hs) (by show x2 < 0 ∨ (0 : Int) ≤ x2; omega) none none none rfl rfl rfl
  exact this
theorem c281 (hs : Sh w) (hM : MR w m) (hu : (u : Int) < m 1) (h : ∀ w2, MF w w2 → Q (.inl (some (iv (sCf m u : Nat)))) w2) : pC 281 [.ref 169, iv (u : Nat)] w Q := by
  have hb := sCf_768 hM.ok u
  have h1 := hM.ok.u
  refine e281 hs (bdk (by omega)) (c280 hs ⟨by decide, by decide⟩ hM hu (fun c hc hp hx => ?_) (fun _ w2 F2 => kI_iv (bdk (by omega)) ⟨F2.1, h w2 F2⟩))
  have := cnt_le (sCfP m u) c
  omega
end MCF
