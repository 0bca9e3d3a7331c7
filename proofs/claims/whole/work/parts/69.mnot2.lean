/-! THE MODEL: notes that no pin plays, pins of a tooth -/
/-! 285: PinBarrelModel.missingOf(I)I -/
theorem b285 : mB 285 = cX9_missingOf := rfl
theorem r285 : mR 285 = (some .int) := rfl
theorem p285 (a b : Nat) : phi 285 a ≤ phi 285 b := Nat.le_refl 0
theorem d285_0 : decode cX9_missingOf 0 = .ok (.iconst 0, 1) := by decide +kernel
theorem d285_1 : decode cX9_missingOf 1 = .ok (.istore_n 2, 1) := by decide +kernel
theorem d285_2 : decode cX9_missingOf 2 = .ok (.iconst 0, 1) := by decide +kernel
theorem d285_3 : decode cX9_missingOf 3 = .ok (.istore_n 3, 1) := by decide +kernel
theorem d285_4 : decode cX9_missingOf 4 = .ok (.iload_n 3, 1) := by decide +kernel
theorem d285_5 : decode cX9_missingOf 5 = .ok (.aload_n 0, 1) := by decide +kernel
theorem d285_6 : decode cX9_missingOf 6 = .ok (.getfield 9, 3) := by decide +kernel
theorem d285_9 : decode cX9_missingOf 9 = .ok (.iconst 5, 1) := by decide +kernel
theorem d285_10 : decode cX9_missingOf 10 = .ok (.iaload, 1) := by decide +kernel
theorem d285_11 : decode cX9_missingOf 11 = .ok (.if_icmp .ge 36, 3) := by decide +kernel
theorem d285_14 : decode cX9_missingOf 14 = .ok (.iload_n 2, 1) := by decide +kernel
theorem d285_15 : decode cX9_missingOf 15 = .ok (.aload_n 0, 1) := by decide +kernel
theorem d285_16 : decode cX9_missingOf 16 = .ok (.iload_n 3, 1) := by decide +kernel
theorem d285_17 : decode cX9_missingOf 17 = .ok (.iconst 0, 1) := by decide +kernel
theorem d285_18 : decode cX9_missingOf 18 = .ok (.invokevirtual 283, 3) := by decide +kernel
theorem d285_21 : decode cX9_missingOf 21 = .ok (.iload_n 1, 1) := by decide +kernel
theorem d285_22 : decode cX9_missingOf 22 = .ok (.if_icmp .ne 16, 3) := by decide +kernel
theorem d285_25 : decode cX9_missingOf 25 = .ok (.aload_n 0, 1) := by decide +kernel
theorem d285_26 : decode cX9_missingOf 26 = .ok (.iload_n 3, 1) := by decide +kernel
theorem d285_27 : decode cX9_missingOf 27 = .ok (.invokevirtual 289, 3) := by decide +kernel
theorem d285_30 : decode cX9_missingOf 30 = .ok (.iconst (-1), 1) := by decide +kernel
theorem d285_31 : decode cX9_missingOf 31 = .ok (.if_icmp .ne 7, 3) := by decide +kernel
theorem d285_34 : decode cX9_missingOf 34 = .ok (.iconst 1, 1) := by decide +kernel
theorem d285_35 : decode cX9_missingOf 35 = .ok (.goto 4, 3) := by decide +kernel
theorem d285_38 : decode cX9_missingOf 38 = .ok (.iconst 0, 1) := by decide +kernel
theorem d285_39 : decode cX9_missingOf 39 = .ok (.iadd, 1) := by decide +kernel
theorem d285_40 : decode cX9_missingOf 40 = .ok (.istore_n 2, 1) := by decide +kernel
theorem d285_41 : decode cX9_missingOf 41 = .ok (.iinc 3 1, 3) := by decide +kernel
theorem d285_44 : decode cX9_missingOf 44 = .ok (.goto (-40), 3) := by decide +kernel
theorem d285_47 : decode cX9_missingOf 47 = .ok (.iload_n 2, 1) := by decide +kernel
theorem d285_48 : decode cX9_missingOf 48 = .ok (.ireturn, 1) := by decide +kernel
theorem v285_0 {w : PW} {Q : PO → PW → Prop} {x1 : Int} (hs : Sh w) (hx1 : bd x1) (h : pX 285 4 [some (.ref 169), some (iv x1), some (iv 0), some (iv 0)] [] w Q) : pX 285 0 [some (.ref 169), some (iv x1), none, none] [] w Q :=
  w_f b285 d285_0 rfl rfl rfl <| w_f b285 d285_1 rfl rfl rfl <| w_f b285 d285_2 rfl rfl rfl <| w_f b285 d285_3 rfl rfl rfl <| h
theorem e285 {w : PW} {Q : PO → PW → Prop} {x1 : Int} (hs : Sh w) (hx1 : bd x1) (h : pX 285 4 [some (.ref 169), some (iv x1), some (iv 0), some (iv 0)] [] w Q) : pC 285 [.ref 169, iv x1] w Q :=
  (pC_in (Nat.le_of_ble_eq_true rfl) rfl Q).mpr (v285_0 hs hx1 h)
theorem v285_4 {w : PW} {Q : PO → PW → Prop} {x1 : Int} {x2 : Int} {x3 : Int} (hs : Sh w) (hx1 : bd x1) (hx2 : bd x2) (hx3 : bd x3) (h : ((gI w 170 5) ≤ x3 → Q (.inl (some (iv x2))) w) ∧ (x3 < (gI w 170 5) → (0 ≤ (71 + 3 * x3) + 0 ∧ (71 + 3 * x3) + 0 < 843) ∧ ((gI w 170 ((71 + 3 * x3) + 0).toNat) ≠ x1 → pX 285 4 [some (.ref 169), some (iv x1), some (iv (x2 + 0)), some (iv (x3 + 1))] [] w Q) ∧ ((gI w 170 ((71 + 3 * x3) + 0).toNat) = x1 → pC 269 [.ref 169, iv x3] w (kI fun u4 w3 => Sh w3 ∧ (u4 ≠ ((-1)) → pX 285 4 [some (.ref 169), some (iv x1), some (iv (x2 + 0)), some (iv (x3 + 1))] [] w3 Q) ∧ (u4 = ((-1)) → pX 285 4 [some (.ref 169), some (iv x1), some (iv (x2 + 1)), some (iv (x3 + 1))] [] w3 Q))))) : pX 285 4 [some (.ref 169), some (iv x1), some (iv x2), some (iv x3)] [] w Q :=
  w_f b285 d285_4 rfl rfl rfl <| w_f b285 d285_5 rfl rfl rfl <| w_gr b285 d285_6 rfl rfl hs (tlt 169 rfl) tbC_169 rfl (by decide) <| w_f b285 d285_9 rfl rfl rfl <| w_ial b285 d285_10 rfl hs (tlt 170 rfl) tbC_170 (bdix (n := 843) ⟨by decide, by decide⟩ rfl) ⟨by decide, by decide⟩ <| w_icge b285 d285_11 rfl rfl (p285 _ _) hx3 (bd_gI _ _ _) (fun c1 => w_f b285 d285_47 rfl rfl rfl <| w_ri b285 d285_48 r285 (h.1 c1)) (fun c1 => w_f b285 d285_14 rfl rfl rfl <| w_f b285 d285_15 rfl rfl rfl <| w_f b285 d285_16 rfl rfl rfl <| w_f b285 d285_17 rfl rfl rfl <| w_cc b285 d285_18 rfl (pcl_v (n := 2) rfl rfl rfl (by decide +kernel) (sh_isOb hs (tlt 169 rfl) tbC_169) rfl rfl) rfl <| c267 hs hx3 ⟨by decide, by decide⟩ (h.2 c1).1 <| w_f b285 d285_21 rfl rfl rfl <| w_icne b285 d285_22 rfl rfl (p285 _ _) (bd_gI _ _ _) hx1 (fun c2 => w_f b285 d285_38 rfl rfl rfl <| w_f b285 d285_39 rfl (pf_iadd x2 0) rfl <| w_f b285 d285_40 rfl rfl rfl <| w_f b285 d285_41 rfl (pf_iinc rfl rfl) rfl <| w_j b285 d285_44 rfl (p285 _ _) <| ((h.2 c1).2.1 c2)) (fun c2 => w_f b285 d285_25 rfl rfl rfl <| w_f b285 d285_26 rfl rfl rfl <| w_c b285 d285_27 rfl (pcl_v (n := 1) rfl rfl rfl (by decide +kernel) (sh_isOb hs (tlt 169 rfl) tbC_169) rfl rfl) rfl _ (hK_I fun u4 w3 hbu4 hkw3 => w_f b285 d285_30 rfl rfl rfl <| w_icne b285 d285_31 rfl rfl (p285 _ _) hbu4 ⟨by decide, by decide⟩ (fun c5 => w_f b285 d285_38 rfl rfl rfl <| w_f b285 d285_39 rfl (pf_iadd x2 0) rfl <| w_f b285 d285_40 rfl rfl rfl <| w_f b285 d285_41 rfl (pf_iinc rfl rfl) rfl <| w_j b285 d285_44 rfl (p285 _ _) <| (hkw3.2.1 c5)) (fun c5 => w_f b285 d285_34 rfl rfl rfl <| w_j b285 d285_35 rfl (p285 _ _) <| w_f b285 d285_39 rfl (pf_iadd x2 1) rfl <| w_f b285 d285_40 rfl rfl rfl <| w_f b285 d285_41 rfl (pf_iinc rfl rfl) rfl <| w_j b285 d285_44 rfl (p285 _ _) <| (hkw3.2.2 c5))) ((h.2 c1).2.2 c2)))
/-! 288: PinBarrelModel.extraOf(I)I -/
theorem b288 : mB 288 = cX9_extraOf := rfl
theorem r288 : mR 288 = (some .int) := rfl
theorem p288 (a b : Nat) : phi 288 a ≤ phi 288 b := Nat.le_refl 0
theorem d288_0 : decode cX9_extraOf 0 = .ok (.aload_n 0, 1) := by decide +kernel
theorem d288_1 : decode cX9_extraOf 1 = .ok (.iload_n 1, 1) := by decide +kernel
theorem d288_2 : decode cX9_extraOf 2 = .ok (.invokevirtual 225, 3) := by decide +kernel
theorem d288_5 : decode cX9_extraOf 5 = .ok (.aload_n 0, 1) := by decide +kernel
theorem d288_6 : decode cX9_extraOf 6 = .ok (.iload_n 1, 1) := by decide +kernel
theorem d288_7 : decode cX9_extraOf 7 = .ok (.invokevirtual 292, 3) := by decide +kernel
theorem d288_10 : decode cX9_extraOf 10 = .ok (.isub, 1) := by decide +kernel
theorem d288_11 : decode cX9_extraOf 11 = .ok (.aload_n 0, 1) := by decide +kernel
theorem d288_12 : decode cX9_extraOf 12 = .ok (.iload_n 1, 1) := by decide +kernel
theorem d288_13 : decode cX9_extraOf 13 = .ok (.invokevirtual 295, 3) := by decide +kernel
theorem d288_16 : decode cX9_extraOf 16 = .ok (.iadd, 1) := by decide +kernel
theorem d288_17 : decode cX9_extraOf 17 = .ok (.ireturn, 1) := by decide +kernel
theorem v288_0 {w : PW} {Q : PO → PW → Prop} {x1 : Int} (hs : Sh w) (hx1 : bd x1) (h : pC 247 [.ref 169, iv x1] w (kI fun u2 w1 => Sh w1 ∧ pC 287 [.ref 169, iv x1] w1 (kI fun u4 w3 => Sh w3 ∧ pC 285 [.ref 169, iv x1] w3 (kI fun u6 w5 => Sh w5 ∧ Q (.inl (some (iv ((u2 - u4) + u6)))) w5)))) : pX 288 0 [some (.ref 169), some (iv x1)] [] w Q :=
  w_f b288 d288_0 rfl rfl rfl <| w_f b288 d288_1 rfl rfl rfl <| w_c b288 d288_2 rfl (pcl_v (n := 1) rfl rfl rfl (by decide +kernel) (sh_isOb hs (tlt 169 rfl) tbC_169) rfl rfl) rfl _ (hK_I fun u2 w1 hbu2 hkw1 => w_f b288 d288_5 rfl rfl rfl <| w_f b288 d288_6 rfl rfl rfl <| w_c b288 d288_7 rfl (pcl_v (n := 1) rfl rfl rfl (by decide +kernel) (sh_isOb hkw1.1 (tlt 169 rfl) tbC_169) rfl rfl) rfl _ (hK_I fun u4 w3 hbu4 hkw3 => w_f b288 d288_10 rfl (pf_isub _ _) rfl <| w_f b288 d288_11 rfl rfl rfl <| w_f b288 d288_12 rfl rfl rfl <| w_c b288 d288_13 rfl (pcl_v (n := 1) rfl rfl rfl (by decide +kernel) (sh_isOb hkw3.1 (tlt 169 rfl) tbC_169) rfl rfl) rfl _ (hK_I fun u6 w5 hbu6 hkw5 => w_f b288 d288_16 rfl (pf_iadd _ _) rfl <| w_ri b288 d288_17 r288 hkw5.2) hkw3.2) hkw1.2) h
theorem e288 {w : PW} {Q : PO → PW → Prop} {x1 : Int} (hs : Sh w) (hx1 : bd x1) (h : pC 247 [.ref 169, iv x1] w (kI fun u2 w1 => Sh w1 ∧ pC 287 [.ref 169, iv x1] w1 (kI fun u4 w3 => Sh w3 ∧ pC 285 [.ref 169, iv x1] w3 (kI fun u6 w5 => Sh w5 ∧ Q (.inl (some (iv ((u2 - u4) + u6)))) w5)))) : pC 288 [.ref 169, iv x1] w Q :=
  (pC_in (Nat.le_of_ble_eq_true rfl) rfl Q).mpr (v288_0 hs hx1 h)
/-! 263: PinBarrelModel.pinsOn(I)I -/
theorem b263 : mB 263 = cX9_pinsOn := rfl
theorem r263 : mR 263 = (some .int) := rfl
theorem p263 (a b : Nat) : phi 263 a ≤ phi 263 b := Nat.le_refl 0
theorem d263_0 : decode cX9_pinsOn 0 = .ok (.iconst 0, 1) := by decide +kernel
theorem d263_1 : decode cX9_pinsOn 1 = .ok (.istore_n 2, 1) := by decide +kernel
theorem d263_2 : decode cX9_pinsOn 2 = .ok (.iconst 0, 1) := by decide +kernel
theorem d263_3 : decode cX9_pinsOn 3 = .ok (.istore_n 3, 1) := by decide +kernel
theorem d263_4 : decode cX9_pinsOn 4 = .ok (.iload_n 3, 1) := by decide +kernel
theorem d263_5 : decode cX9_pinsOn 5 = .ok (.aload_n 0, 1) := by decide +kernel
theorem d263_6 : decode cX9_pinsOn 6 = .ok (.getfield 9, 3) := by decide +kernel
theorem d263_9 : decode cX9_pinsOn 9 = .ok (.iconst 1, 1) := by decide +kernel
theorem d263_10 : decode cX9_pinsOn 10 = .ok (.iaload, 1) := by decide +kernel
theorem d263_11 : decode cX9_pinsOn 11 = .ok (.if_icmp .ge 48, 3) := by decide +kernel
theorem d263_14 : decode cX9_pinsOn 14 = .ok (.iconst 0, 1) := by decide +kernel
theorem d263_15 : decode cX9_pinsOn 15 = .ok (.istore 4, 2) := by decide +kernel
theorem d263_17 : decode cX9_pinsOn 17 = .ok (.iload 4, 2) := by decide +kernel
theorem d263_19 : decode cX9_pinsOn 19 = .ok (.aload_n 0, 1) := by decide +kernel
theorem d263_20 : decode cX9_pinsOn 20 = .ok (.getfield 9, 3) := by decide +kernel
theorem d263_23 : decode cX9_pinsOn 23 = .ok (.iconst 0, 1) := by decide +kernel
theorem d263_24 : decode cX9_pinsOn 24 = .ok (.iaload, 1) := by decide +kernel
theorem d263_25 : decode cX9_pinsOn 25 = .ok (.if_icmp .ge 28, 3) := by decide +kernel
theorem d263_28 : decode cX9_pinsOn 28 = .ok (.iload_n 2, 1) := by decide +kernel
theorem d263_29 : decode cX9_pinsOn 29 = .ok (.aload_n 0, 1) := by decide +kernel
theorem d263_30 : decode cX9_pinsOn 30 = .ok (.iload_n 3, 1) := by decide +kernel
theorem d263_31 : decode cX9_pinsOn 31 = .ok (.iload 4, 2) := by decide +kernel
theorem d263_33 : decode cX9_pinsOn 33 = .ok (.iload_n 1, 1) := by decide +kernel
theorem d263_34 : decode cX9_pinsOn 34 = .ok (.invokevirtual 228, 3) := by decide +kernel
theorem d263_37 : decode cX9_pinsOn 37 = .ok (.ifCond .eq 7, 3) := by decide +kernel
theorem d263_40 : decode cX9_pinsOn 40 = .ok (.iconst 1, 1) := by decide +kernel
theorem d263_41 : decode cX9_pinsOn 41 = .ok (.goto 4, 3) := by decide +kernel
theorem d263_44 : decode cX9_pinsOn 44 = .ok (.iconst 0, 1) := by decide +kernel
theorem d263_45 : decode cX9_pinsOn 45 = .ok (.iadd, 1) := by decide +kernel
theorem d263_46 : decode cX9_pinsOn 46 = .ok (.istore_n 2, 1) := by decide +kernel
theorem d263_47 : decode cX9_pinsOn 47 = .ok (.iinc 4 1, 3) := by decide +kernel
theorem d263_50 : decode cX9_pinsOn 50 = .ok (.goto (-33), 3) := by decide +kernel
theorem d263_53 : decode cX9_pinsOn 53 = .ok (.iinc 3 1, 3) := by decide +kernel
theorem d263_56 : decode cX9_pinsOn 56 = .ok (.goto (-52), 3) := by decide +kernel
theorem d263_59 : decode cX9_pinsOn 59 = .ok (.iload_n 2, 1) := by decide +kernel
theorem d263_60 : decode cX9_pinsOn 60 = .ok (.ireturn, 1) := by decide +kernel
theorem v263_0 {w : PW} {Q : PO → PW → Prop} {x1 : Int} (hs : Sh w) (hx1 : bd x1) (h : pX 263 4 [some (.ref 169), some (iv x1), some (iv 0), some (iv 0), none] [] w Q) : pX 263 0 [some (.ref 169), some (iv x1), none, none, none] [] w Q :=
  w_f b263 d263_0 rfl rfl rfl <| w_f b263 d263_1 rfl rfl rfl <| w_f b263 d263_2 rfl rfl rfl <| w_f b263 d263_3 rfl rfl rfl <| h
theorem e263 {w : PW} {Q : PO → PW → Prop} {x1 : Int} (hs : Sh w) (hx1 : bd x1) (h : pX 263 4 [some (.ref 169), some (iv x1), some (iv 0), some (iv 0), none] [] w Q) : pC 263 [.ref 169, iv x1] w Q :=
  (pC_in (Nat.le_of_ble_eq_true rfl) rfl Q).mpr (v263_0 hs hx1 h)
theorem v263_4 {w : PW} {Q : PO → PW → Prop} {x1 : Int} {x2 : Int} {x3 : Int} {o4 : Option Value} (hs : Sh w) (hx1 : bd x1) (hx2 : bd x2) (hx3 : bd x3) (ho4 : pc2 o4 = false) (h : ((gI w 170 1) ≤ x3 → Q (.inl (some (iv x2))) w) ∧ (x3 < (gI w 170 1) → pX 263 17 [some (.ref 169), some (iv x1), some (iv x2), some (iv x3), some (iv 0)] [] w Q)) : pX 263 4 [some (.ref 169), some (iv x1), some (iv x2), some (iv x3), o4] [] w Q :=
  w_f b263 d263_4 rfl rfl rfl <| w_f b263 d263_5 rfl rfl rfl <| w_gr b263 d263_6 rfl rfl hs (tlt 169 rfl) tbC_169 rfl (by decide) <| w_f b263 d263_9 rfl rfl rfl <| w_ial b263 d263_10 rfl hs (tlt 170 rfl) tbC_170 (bdix (n := 843) ⟨by decide, by decide⟩ rfl) ⟨by decide, by decide⟩ <| w_icge b263 d263_11 rfl rfl (p263 _ _) hx3 (bd_gI _ _ _) (fun c1 => w_f b263 d263_59 rfl rfl rfl <| w_ri b263 d263_60 r263 (h.1 c1)) (fun c1 => w_f b263 d263_14 rfl rfl rfl <| w_f b263 d263_15 rfl rfl rfl <| (h.2 c1))
theorem v263_17 {w : PW} {Q : PO → PW → Prop} {x1 : Int} {x2 : Int} {x3 : Int} {x4 : Int} (hs : Sh w) (hx1 : bd x1) (hx2 : bd x2) (hx3 : bd x3) (hx4 : bd x4) (h : ((gI w 170 0) ≤ x4 → pX 263 4 [some (.ref 169), some (iv x1), some (iv x2), some (iv (x3 + 1)), some (iv x4)] [] w Q) ∧ (x4 < (gI w 170 0) → (bd ((251 + 64 * x3) + x4)) ∧ (0 ≤ (251 + 64 * x3) + x4 ∧ (251 + 64 * x3) + x4 < 843) ∧ (0 ≤ x1 ∧ x1 < 32) ∧ ((¬ (tI (gI w 170 ((251 + 64 * x3) + x4).toNat) (x1).toNat = true)) → pX 263 17 [some (.ref 169), some (iv x1), some (iv (x2 + 0)), some (iv x3), some (iv (x4 + 1))] [] w Q) ∧ ((tI (gI w 170 ((251 + 64 * x3) + x4).toNat) (x1).toNat = true) → pX 263 17 [some (.ref 169), some (iv x1), some (iv (x2 + 1)), some (iv x3), some (iv (x4 + 1))] [] w Q))) : pX 263 17 [some (.ref 169), some (iv x1), some (iv x2), some (iv x3), some (iv x4)] [] w Q :=
  w_f b263 d263_17 rfl rfl rfl <| w_f b263 d263_19 rfl rfl rfl <| w_gr b263 d263_20 rfl rfl hs (tlt 169 rfl) tbC_169 rfl (by decide) <| w_f b263 d263_23 rfl rfl rfl <| w_ial b263 d263_24 rfl hs (tlt 170 rfl) tbC_170 (bdix (n := 843) ⟨by decide, by decide⟩ rfl) ⟨by decide, by decide⟩ <| w_icge b263 d263_25 rfl rfl (p263 _ _) hx4 (bd_gI _ _ _) (fun c1 => w_f b263 d263_53 rfl (pf_iinc rfl rfl) rfl <| w_j b263 d263_56 rfl (p263 _ _) <| (h.1 c1)) (fun c1 => w_f b263 d263_28 rfl rfl rfl <| w_f b263 d263_29 rfl rfl rfl <| w_f b263 d263_30 rfl rfl rfl <| w_f b263 d263_31 rfl rfl rfl <| w_f b263 d263_33 rfl rfl rfl <| w_cc b263 d263_34 rfl (pcl_v (n := 3) rfl rfl rfl (by decide +kernel) (sh_isOb hs (tlt 169 rfl) tbC_169) rfl rfl) rfl <| c251 hs hx3 hx4 hx1 (h.2 c1).1 (h.2 c1).2.1 (h.2 c1).2.2.1 <| w_ifeqZ b263 d263_37 rfl rfl (p263 _ _) (fun c2 => w_f b263 d263_44 rfl rfl rfl <| w_f b263 d263_45 rfl (pf_iadd x2 0) rfl <| w_f b263 d263_46 rfl rfl rfl <| w_f b263 d263_47 rfl (pf_iinc rfl rfl) rfl <| w_j b263 d263_50 rfl (p263 _ _) <| ((h.2 c1).2.2.2.1 c2)) (fun c2 => w_f b263 d263_40 rfl rfl rfl <| w_j b263 d263_41 rfl (p263 _ _) <| w_f b263 d263_45 rfl (pf_iadd x2 1) rfl <| w_f b263 d263_46 rfl rfl rfl <| w_f b263 d263_47 rfl (pf_iinc rfl rfl) rfl <| w_j b263 d263_50 rfl (p263 _ _) <| ((h.2 c1).2.2.2.2 c2)))
def sMiss (m : Row) (x : Int) : Nat := cnt (fun k => decide (rN m k 0 = x) && decide (sPlay m k = -1)) (m 5).toNat
theorem sMiss_eq (m : Row) (x : Int) : sNotes m x = sPlayed m x + sMiss m x := by
  unfold sNotes sPlayed sMiss
  rw [← cnt_or (P := fun k => decide (rN m k 0 = x) && decide (sPlay m k ≠ -1)) (Q := fun k => decide (rN m k 0 = x) && decide (sPlay m k = -1)) (fun k _ q => by
    rw [Bool.and_eq_true] at q
    rw [decide_eq_false (p := sPlay m k = -1) (of_decide_eq_true q.2), Bool.and_false])]
  refine cnt_congr (fun k _ => ?_)
  by_cases q : rN m k 0 = x
  · rw [decide_eq_true q, Bool.true_and, Bool.true_and]
    by_cases q2 : sPlay m k = -1
    · rw [decide_eq_true q2, Bool.or_true]
    · rw [decide_eq_true (p := sPlay m k ≠ -1) q2, Bool.true_or]
  · rw [decide_eq_false q, Bool.false_and, Bool.false_and]; rfl
theorem l285_4 {w : PW} {Q : PO → PW → Prop} {m : Row} {x1 : Int} (hs : Sh w) (hM : MR w m) (hx : bd x1) (h : Q (.inl (some (iv (sMiss m x1 : Nat)))) w) : ∀ k i : Nat, i + k = (m 5).toNat → pX 285 4 [some (.ref 169), some (iv x1), some (iv (cnt (fun z => decide (rN m z 0 = x1) && decide (sPlay m z = -1)) i : Nat)), some (iv (i : Nat))] [] w Q := by
  have h5 := hM.ok.n
  have h4 := hM.ok.t
  intro k
  induction k with
  | zero =>
    intro i hi 
    have hc := cnt_le (fun z => decide (rN m z 0 = x1) && decide (sPlay m z = -1)) i
    refine v285_4 hs hx (bdk (by omega)) (bdk (by omega)) ?_
    rw [hM.g (k := 5) rfl]
    refine ⟨fun _ => ?_, fun q => by omega⟩
    unfold sMiss at h
    rw [show (m 5).toNat = i from by omega] at h
    exact h
  | succ k ih =>
    intro i hi 
    have hc := cnt_le (fun z => decide (rN m z 0 = x1) && decide (sPlay m z = -1)) i
    have := ih (i + 1) (by omega)
    have hp : -1 ≤ sPlay m i ∧ sPlay m i < ((m 4).toNat : Nat) := sel_bd
    refine v285_4 hs hx (bdk (by omega)) (bdk (by omega)) ?_
    rw [hM.g (k := 5) rfl, hM.N0 (by omega)]
    refine ⟨fun q => by omega, fun _ => ⟨⟨by omega, by omega⟩, fun q => ?_, fun q => c269 hs hM (by omega) (kI_iv ⟨by omega, by omega⟩ ⟨hs, fun q2 => ?_, fun q2 => ?_⟩)⟩⟩
    · rw [cnt_f (by rw [decide_eq_false q, Bool.false_and])] at this
      exact this
    · rw [cnt_f (by rw [decide_eq_false q2, Bool.and_false])] at this
      exact this
    · rw [cnt_t (by rw [decide_eq_true q, decide_eq_true q2]; rfl)] at this
      exact this
theorem c285 {w : PW} {Q : PO → PW → Prop} {m : Row} {x1 : Int} (hs : Sh w) (hM : MR w m) (hx : bd x1) (h : Q (.inl (some (iv (sMiss m x1 : Nat)))) w) : pC 285 [.ref 169, iv x1] w Q :=
  e285 hs hx (l285_4 hs hM hx h _ 0 (Nat.zero_add _))
theorem c288 {w : PW} {Q : PO → PW → Prop} {m : Row} {u : Nat} (hs : Sh w) (hM : MR w m) (hu : (u : Int) < m 1) (h : Q (.inl (some (iv (sPins m u - (sNotes m (u : Nat) : Nat) + (sMiss m (u : Nat) : Nat))))) w) : pC 288 [.ref 169, iv (u : Nat)] w Q := by
  have h1 := hM.ok.u
  have h5 := hM.ok.n
  have hx : bd (u : Nat) := bdk (by omega)
  have hp := sPins_bd hM.ok u
  have a1 : sNotes m (u : Nat) ≤ (m 5).toNat := cnt_le _ _
  have a2 : sMiss m (u : Nat) ≤ (m 5).toNat := cnt_le _ _
  exact e288 hs hx (c247 hs hM hu (kI_iv ⟨by omega, by omega⟩ ⟨hs, c287 hs hM hx (kI_iv (bdk (by omega)) ⟨hs, c285 hs hM hx (kI_iv (bdk (by omega)) ⟨hs, h⟩)⟩)⟩))
theorem l263_17 {w : PW} {Q : PO → PW → Prop} {t u : Nat} {m : Row} {a : Int} (hs : Sh w) (hM : MR w m) (ht : t < 12) (hu : (u : Int) < m 1) (ha : 0 ≤ a ∧ a ≤ 1000) (h : pX 263 4 [some (.ref 169), some (iv (t : Nat)), some (iv (a + (cnt (fun s => rPin m u s t) (m 0).toNat : Nat))), some (iv ((u : Int) + 1)), some (iv (m 0))] [] w Q) : ∀ k i : Nat, i + k = (m 0).toNat → pX 263 17 [some (.ref 169), some (iv (t : Nat)), some (iv (a + (cnt (fun s => rPin m u s t) i : Nat))), some (iv (u : Nat)), some (iv (i : Nat))] [] w Q := by
  have h0 := hM.ok.s
  have h1 := hM.ok.u
  intro k
  induction k with
  | zero =>
    intro i hi 
    have hc := cnt_le (fun s => rPin m u s t) i
    refine v263_17 hs (bdk (by omega)) ⟨by omega, by omega⟩ (bdk (by omega)) (bdk (by omega)) ?_
    rw [hM.g (k := 0) rfl]
    refine ⟨fun _ => ?_, fun q => by omega⟩
    rw [show (m 0).toNat = i from by omega, show m 0 = (i : Nat) from by omega] at h
    exact h
  | succ k ih =>
    intro i hi 
    have hc := cnt_le (fun s => rPin m u s t) i
    have := ih (i + 1) (by omega)
    refine v263_17 hs (bdk (by omega)) ⟨by omega, by omega⟩ (bdk (by omega)) (bdk (by omega)) ?_
    rw [hM.g (k := 0) rfl, hM.pin (by omega) (by omega), Int.toNat_natCast]
    refine ⟨fun q => by omega, fun _ => ⟨⟨by omega, by omega⟩, ⟨by omega, by omega⟩, ⟨by omega, by omega⟩, fun q => ?_, fun q => ?_⟩⟩
    · rw [cnt_f (P := fun s => rPin m u s t) (show rPin m u i t = false from Bool.eq_false_iff.mpr q)] at this
      rw [show a + (cnt (fun s => rPin m u s t) i : Nat) + 0 = a + (cnt (fun s => rPin m u s t) i : Nat) from Int.add_zero _]
      exact this
    · rw [cnt_t (P := fun s => rPin m u s t) (show rPin m u i t = true from q)] at this
      rw [show a + (cnt (fun s => rPin m u s t) i : Nat) + 1 = a + ((cnt (fun s => rPin m u s t) i + 1 : Nat) : Int) from by omega]
      exact this
theorem l263_4 {w : PW} {Q : PO → PW → Prop} {t : Nat} {m : Row} (hs : Sh w) (hM : MR w m) (ht : t < 12) (h : Q (.inl (some (iv (sTooth m t)))) w) : ∀ k i : Nat, i + k = (m 1).toNat → ∀ o4 : Option Value, pc2 o4 = false → pX 263 4 [some (.ref 169), some (iv (t : Nat)), some (iv (sm (fun u => sPinT m u t) i)), some (iv (i : Nat)), o4] [] w Q := by
  have h1 := hM.ok.u
  have hbd : ∀ z, z ≤ 3 → 0 ≤ sm (fun u => sPinT m u t) z ∧ sm (fun u => sPinT m u t) z ≤ 192 := fun z hz => by
    have := sm_bd (f := fun u => sPinT m u t) (n := z) (c := 64) (fun u _ => sPinT_bd hM.ok u t)
    omega
  intro k
  induction k with
  | zero =>
    intro i hi o4 ho4
    have hb := hbd i (by omega)
    refine v263_4 hs (bdk (by omega)) ⟨by omega, by omega⟩ (bdk (by omega)) ho4 ?_
    rw [hM.g (k := 1) rfl]
    refine ⟨fun _ => ?_, fun q => by omega⟩
    unfold sTooth at h
    rw [show (m 1).toNat = i from by omega] at h
    exact h
  | succ k ih =>
    intro i hi o4 ho4
    have hb := hbd i (by omega)
    have := ih (i + 1) (by omega) (some (iv (m 0))) rfl
    refine v263_4 hs (bdk (by omega)) ⟨by omega, by omega⟩ (bdk (by omega)) ho4 ?_
    rw [hM.g (k := 1) rfl]
    refine ⟨fun q => by omega, fun _ => ?_⟩
    have l := l263_17 (u := i) (a := sm (fun u => sPinT m u t) i) hs hM ht (by omega) (by omega) this (m 0).toNat 0 (Nat.zero_add _)
    rw [show sm (fun u => sPinT m u t) i + ((cnt (fun s => rPin m i s t) 0 : Nat) : Int) = sm (fun u => sPinT m u t) i from Int.add_zero _] at l
    exact l
theorem c263 {w : PW} {Q : PO → PW → Prop} {m : Row} {t : Nat} (hs : Sh w) (hM : MR w m) (ht : t < 12) (h : Q (.inl (some (iv (sTooth m t)))) w) : pC 263 [.ref 169, iv (t : Nat)] w Q :=
  e263 hs (bdk (by omega)) (l263_4 hs hM ht h _ 0 (Nat.zero_add _) none rfl)
