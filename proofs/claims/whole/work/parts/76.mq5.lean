/-! THE MODEL's FACE: layouts -/
/-! 300: PinBarrelModel.tries(I)I -/
theorem b300 : mB 300 = cX9_tries := rfl
theorem r300 : mR 300 = (some .int) := rfl
theorem p300 (a b : Nat) : phi 300 a ≤ phi 300 b := Nat.le_refl 0
theorem d300_0 : decode cX9_tries 0 = .ok (.aload_n 0, 1) := by decide +kernel
theorem d300_1 : decode cX9_tries 1 = .ok (.iload_n 1, 1) := by decide +kernel
theorem d300_2 : decode cX9_tries 2 = .ok (.invokevirtual 377, 3) := by decide +kernel
theorem d300_5 : decode cX9_tries 5 = .ok (.ifCond .eq 5, 3) := by decide +kernel
theorem d300_8 : decode cX9_tries 8 = .ok (.iconst 0, 1) := by decide +kernel
theorem d300_9 : decode cX9_tries 9 = .ok (.ireturn, 1) := by decide +kernel
theorem d300_10 : decode cX9_tries 10 = .ok (.aload_n 0, 1) := by decide +kernel
theorem d300_11 : decode cX9_tries 11 = .ok (.iload_n 1, 1) := by decide +kernel
theorem d300_12 : decode cX9_tries 12 = .ok (.invokevirtual 391, 3) := by decide +kernel
theorem d300_15 : decode cX9_tries 15 = .ok (.bipush (-2), 2) := by decide +kernel
theorem d300_17 : decode cX9_tries 17 = .ok (.if_icmp .ne 8, 3) := by decide +kernel
theorem d300_20 : decode cX9_tries 20 = .ok (.bipush (-2), 2) := by decide +kernel
theorem d300_22 : decode cX9_tries 22 = .ok (.goto 7, 3) := by decide +kernel
theorem d300_25 : decode cX9_tries 25 = .ok (.aload_n 0, 1) := by decide +kernel
theorem d300_26 : decode cX9_tries 26 = .ok (.getfield 311, 3) := by decide +kernel
theorem d300_29 : decode cX9_tries 29 = .ok (.ireturn, 1) := by decide +kernel
theorem v300_0 {w : PW} {Q : PO → PW → Prop} {x1 : Int} (hs : Sh w) (hx1 : bd x1) (h : (bd ((gI w 170 1) - 1)) ∧ ((0 ≤ x1 ∧ x1 < gI w 170 1) → ∀ w2 : PW, w2 = sI w 169 0 0 → pC 299 [.ref 169, iv x1] w2 (kI fun u4 w3 => Sh w3 ∧ (u4 ≠ ((-2)) → Q (.inl (some (iv (gI w3 169 27)))) w3) ∧ (u4 = ((-2)) → Q (.inl (some (iv ((-2))))) w3))) ∧ ((¬ (0 ≤ x1 ∧ x1 < gI w 170 1)) → ∀ w7 : PW, w7 = sI w 169 0 1 → Q (.inl (some (iv 0))) w7)) : pX 300 0 [some (.ref 169), some (iv x1)] [] w Q :=
  w_f b300 d300_0 rfl rfl rfl <| w_f b300 d300_1 rfl rfl rfl <| w_cc b300 d300_2 rfl (pcl_v (n := 1) rfl rfl rfl (by decide +kernel) (sh_isOb hs (tlt 169 rfl) tbC_169) rfl rfl) rfl <| c275 hs hx1 h.1 (fun c1 => w_ifeq b300 d300_5 rfl rfl (p300 _ _) ⟨by decide, by decide⟩ (fun _ => w_f b300 d300_10 rfl rfl rfl <| w_f b300 d300_11 rfl rfl rfl <| w_c b300 d300_12 rfl (pcl_v (n := 1) rfl rfl rfl (by decide +kernel) (sh_isOb (Sh_sI hs (slt_o tbC_169 rfl)) (tlt 169 rfl) tbC_169) rfl rfl) rfl _ (hK_I fun u4 w3 hbu4 hkw3 => w_f b300 d300_15 rfl rfl rfl <| w_icne b300 d300_17 rfl rfl (p300 _ _) hbu4 ⟨by decide, by decide⟩ (fun c5 => w_f b300 d300_25 rfl rfl rfl <| w_gi b300 d300_26 rfl rfl hkw3.1 (tlt 169 rfl) tbC_169 rfl <| w_ri b300 d300_29 r300 (hkw3.2.1 c5)) (fun c5 => w_f b300 d300_20 rfl rfl rfl <| w_j b300 d300_22 rfl (p300 _ _) <| w_ri b300 d300_29 r300 (hkw3.2.2 c5))) (h.2.1 c1 _ rfl)) (fun c => absurd c (by decide))) (fun c6 => w_ifeq b300 d300_5 rfl rfl (p300 _ _) ⟨by decide, by decide⟩ (fun c => absurd c (by decide)) (fun _ => w_f b300 d300_8 rfl rfl rfl <| w_ri b300 d300_9 r300 (h.2.2 c6 _ rfl)))
theorem e300 {w : PW} {Q : PO → PW → Prop} {x1 : Int} (hs : Sh w) (hx1 : bd x1) (h : (bd ((gI w 170 1) - 1)) ∧ ((0 ≤ x1 ∧ x1 < gI w 170 1) → ∀ w2 : PW, w2 = sI w 169 0 0 → pC 299 [.ref 169, iv x1] w2 (kI fun u4 w3 => Sh w3 ∧ (u4 ≠ ((-2)) → Q (.inl (some (iv (gI w3 169 27)))) w3) ∧ (u4 = ((-2)) → Q (.inl (some (iv ((-2))))) w3))) ∧ ((¬ (0 ≤ x1 ∧ x1 < gI w 170 1)) → ∀ w7 : PW, w7 = sI w 169 0 1 → Q (.inl (some (iv 0))) w7)) : pC 300 [.ref 169, iv x1] w Q :=
  (pC_in (Nat.le_of_ble_eq_true rfl) rfl Q).mpr (v300_0 hs hx1 h)
/-! 301: PinBarrelModel.canLay(I)I -/
theorem b301 : mB 301 = cX9_canLay := rfl
theorem r301 : mR 301 = (some .int) := rfl
theorem p301 (a b : Nat) : phi 301 a ≤ phi 301 b := Nat.le_refl 0
theorem d301_0 : decode cX9_canLay 0 = .ok (.aload_n 0, 1) := by decide +kernel
theorem d301_1 : decode cX9_canLay 1 = .ok (.iload_n 1, 1) := by decide +kernel
theorem d301_2 : decode cX9_canLay 2 = .ok (.invokevirtual 377, 3) := by decide +kernel
theorem d301_5 : decode cX9_canLay 5 = .ok (.ifCond .eq 7, 3) := by decide +kernel
theorem d301_8 : decode cX9_canLay 8 = .ok (.iconst 0, 1) := by decide +kernel
theorem d301_9 : decode cX9_canLay 9 = .ok (.goto 8, 3) := by decide +kernel
theorem d301_12 : decode cX9_canLay 12 = .ok (.aload_n 0, 1) := by decide +kernel
theorem d301_13 : decode cX9_canLay 13 = .ok (.iload_n 1, 1) := by decide +kernel
theorem d301_14 : decode cX9_canLay 14 = .ok (.invokevirtual 391, 3) := by decide +kernel
theorem d301_17 : decode cX9_canLay 17 = .ok (.ireturn, 1) := by decide +kernel
theorem v301_0 {w : PW} {Q : PO → PW → Prop} {x1 : Int} (hs : Sh w) (hx1 : bd x1) (h : (bd ((gI w 170 1) - 1)) ∧ ((0 ≤ x1 ∧ x1 < gI w 170 1) → ∀ w2 : PW, w2 = sI w 169 0 0 → pC 299 [.ref 169, iv x1] w2 (kI fun u4 w3 => Sh w3 ∧ Q (.inl (some (iv u4))) w3)) ∧ ((¬ (0 ≤ x1 ∧ x1 < gI w 170 1)) → ∀ w6 : PW, w6 = sI w 169 0 1 → Q (.inl (some (iv 0))) w6)) : pX 301 0 [some (.ref 169), some (iv x1)] [] w Q :=
  w_f b301 d301_0 rfl rfl rfl <| w_f b301 d301_1 rfl rfl rfl <| w_cc b301 d301_2 rfl (pcl_v (n := 1) rfl rfl rfl (by decide +kernel) (sh_isOb hs (tlt 169 rfl) tbC_169) rfl rfl) rfl <| c275 hs hx1 h.1 (fun c1 => w_ifeq b301 d301_5 rfl rfl (p301 _ _) ⟨by decide, by decide⟩ (fun _ => w_f b301 d301_12 rfl rfl rfl <| w_f b301 d301_13 rfl rfl rfl <| w_c b301 d301_14 rfl (pcl_v (n := 1) rfl rfl rfl (by decide +kernel) (sh_isOb (Sh_sI hs (slt_o tbC_169 rfl)) (tlt 169 rfl) tbC_169) rfl rfl) rfl _ (hK_I fun u4 w3 hbu4 hkw3 => w_ri b301 d301_17 r301 hkw3.2) (h.2.1 c1 _ rfl)) (fun c => absurd c (by decide))) (fun c5 => w_ifeq b301 d301_5 rfl rfl (p301 _ _) ⟨by decide, by decide⟩ (fun c => absurd c (by decide)) (fun _ => w_f b301 d301_8 rfl rfl rfl <| w_j b301 d301_9 rfl (p301 _ _) <| w_ri b301 d301_17 r301 (h.2.2 c5 _ rfl)))
theorem e301 {w : PW} {Q : PO → PW → Prop} {x1 : Int} (hs : Sh w) (hx1 : bd x1) (h : (bd ((gI w 170 1) - 1)) ∧ ((0 ≤ x1 ∧ x1 < gI w 170 1) → ∀ w2 : PW, w2 = sI w 169 0 0 → pC 299 [.ref 169, iv x1] w2 (kI fun u4 w3 => Sh w3 ∧ Q (.inl (some (iv u4))) w3)) ∧ ((¬ (0 ≤ x1 ∧ x1 < gI w 170 1)) → ∀ w6 : PW, w6 = sI w 169 0 1 → Q (.inl (some (iv 0))) w6)) : pC 301 [.ref 169, iv x1] w Q :=
  (pC_in (Nat.le_of_ble_eq_true rfl) rfl Q).mpr (v301_0 hs hx1 h)
/-! 302: PinBarrelModel.laidOn(I)I -/
theorem b302 : mB 302 = cX9_laidOn := rfl
theorem r302 : mR 302 = (some .int) := rfl
theorem p302 (a b : Nat) : phi 302 a ≤ phi 302 b := Nat.le_refl 0
theorem d302_0 : decode cX9_laidOn 0 = .ok (.aload_n 0, 1) := by decide +kernel
theorem d302_1 : decode cX9_laidOn 1 = .ok (.iload_n 1, 1) := by decide +kernel
theorem d302_2 : decode cX9_laidOn 2 = .ok (.invokevirtual 366, 3) := by decide +kernel
theorem d302_5 : decode cX9_laidOn 5 = .ok (.ifCond .eq 5, 3) := by decide +kernel
theorem d302_8 : decode cX9_laidOn 8 = .ok (.iconst 0, 1) := by decide +kernel
theorem d302_9 : decode cX9_laidOn 9 = .ok (.ireturn, 1) := by decide +kernel
theorem d302_10 : decode cX9_laidOn 10 = .ok (.aload_n 0, 1) := by decide +kernel
theorem d302_11 : decode cX9_laidOn 11 = .ok (.aload_n 0, 1) := by decide +kernel
theorem d302_12 : decode cX9_laidOn 12 = .ok (.iload_n 1, 1) := by decide +kernel
theorem d302_13 : decode cX9_laidOn 13 = .ok (.iconst 0, 1) := by decide +kernel
theorem d302_14 : decode cX9_laidOn 14 = .ok (.invokevirtual 283, 3) := by decide +kernel
theorem d302_17 : decode cX9_laidOn 17 = .ok (.invokevirtual 391, 3) := by decide +kernel
theorem d302_20 : decode cX9_laidOn 20 = .ok (.iconst 1, 1) := by decide +kernel
theorem d302_21 : decode cX9_laidOn 21 = .ok (.if_icmp .eq 5, 3) := by decide +kernel
theorem d302_24 : decode cX9_laidOn 24 = .ok (.iconst (-1), 1) := by decide +kernel
theorem d302_25 : decode cX9_laidOn 25 = .ok (.ireturn, 1) := by decide +kernel
theorem d302_26 : decode cX9_laidOn 26 = .ok (.iconst 0, 1) := by decide +kernel
theorem d302_27 : decode cX9_laidOn 27 = .ok (.istore_n 2, 1) := by decide +kernel
theorem d302_28 : decode cX9_laidOn 28 = .ok (.aload_n 0, 1) := by decide +kernel
theorem d302_29 : decode cX9_laidOn 29 = .ok (.getfield 34, 3) := by decide +kernel
theorem d302_32 : decode cX9_laidOn 32 = .ok (.iload_n 2, 1) := by decide +kernel
theorem d302_33 : decode cX9_laidOn 33 = .ok (.iaload, 1) := by decide +kernel
theorem d302_34 : decode cX9_laidOn 34 = .ok (.iload_n 1, 1) := by decide +kernel
theorem d302_35 : decode cX9_laidOn 35 = .ok (.if_icmp .eq 9, 3) := by decide +kernel
theorem d302_38 : decode cX9_laidOn 38 = .ok (.iinc 2 1, 3) := by decide +kernel
theorem d302_41 : decode cX9_laidOn 41 = .ok (.goto (-13), 3) := by decide +kernel
theorem d302_44 : decode cX9_laidOn 44 = .ok (.aload_n 0, 1) := by decide +kernel
theorem d302_45 : decode cX9_laidOn 45 = .ok (.getfield 37, 3) := by decide +kernel
theorem d302_48 : decode cX9_laidOn 48 = .ok (.iload_n 2, 1) := by decide +kernel
theorem d302_49 : decode cX9_laidOn 49 = .ok (.iaload, 1) := by decide +kernel
theorem d302_50 : decode cX9_laidOn 50 = .ok (.ireturn, 1) := by decide +kernel
theorem v302_0 {w : PW} {Q : PO → PW → Prop} {x1 : Int} (hs : Sh w) (hx1 : bd x1) (h : (bd ((gI w 170 5) - 1)) ∧ ((0 ≤ x1 ∧ x1 < gI w 170 5) → ∀ w2 : PW, w2 = sI w 169 0 0 → (0 ≤ (71 + 3 * x1) + 0 ∧ (71 + 3 * x1) + 0 < 843) ∧ pC 299 [.ref 169, iv (gI w2 170 ((71 + 3 * x1) + 0).toNat)] w2 (kI fun u4 w3 => Sh w3 ∧ (u4 = 1 → pX 302 28 [some (.ref 169), some (iv x1), some (iv 0)] [] w3 Q) ∧ (u4 ≠ 1 → Q (.inl (some (iv ((-1))))) w3))) ∧ ((¬ (0 ≤ x1 ∧ x1 < gI w 170 5)) → ∀ w7 : PW, w7 = sI w 169 0 1 → Q (.inl (some (iv 0))) w7)) : pX 302 0 [some (.ref 169), some (iv x1), none] [] w Q :=
  w_f b302 d302_0 rfl rfl rfl <| w_f b302 d302_1 rfl rfl rfl <| w_cc b302 d302_2 rfl (pcl_v (n := 1) rfl rfl rfl (by decide +kernel) (sh_isOb hs (tlt 169 rfl) tbC_169) rfl rfl) rfl <| c266 hs hx1 h.1 (fun c1 => w_ifeq b302 d302_5 rfl rfl (p302 _ _) ⟨by decide, by decide⟩ (fun _ => w_f b302 d302_10 rfl rfl rfl <| w_f b302 d302_11 rfl rfl rfl <| w_f b302 d302_12 rfl rfl rfl <| w_f b302 d302_13 rfl rfl rfl <| w_cc b302 d302_14 rfl (pcl_v (n := 2) rfl rfl rfl (by decide +kernel) (sh_isOb (Sh_sI hs (slt_o tbC_169 rfl)) (tlt 169 rfl) tbC_169) rfl rfl) rfl <| c267 (Sh_sI hs (slt_o tbC_169 rfl)) hx1 ⟨by decide, by decide⟩ (h.2.1 c1 _ rfl).1 <| w_c b302 d302_17 rfl (pcl_v (n := 1) rfl rfl rfl (by decide +kernel) (sh_isOb (Sh_sI hs (slt_o tbC_169 rfl)) (tlt 169 rfl) tbC_169) rfl rfl) rfl _ (hK_I fun u4 w3 hbu4 hkw3 => w_f b302 d302_20 rfl rfl rfl <| w_iceq b302 d302_21 rfl rfl (p302 _ _) hbu4 ⟨by decide, by decide⟩ (fun c5 => w_f b302 d302_26 rfl rfl rfl <| w_f b302 d302_27 rfl rfl rfl <| (hkw3.2.1 c5)) (fun c5 => w_f b302 d302_24 rfl rfl rfl <| w_ri b302 d302_25 r302 (hkw3.2.2 c5))) (h.2.1 c1 _ rfl).2) (fun c => absurd c (by decide))) (fun c6 => w_ifeq b302 d302_5 rfl rfl (p302 _ _) ⟨by decide, by decide⟩ (fun c => absurd c (by decide)) (fun _ => w_f b302 d302_8 rfl rfl rfl <| w_ri b302 d302_9 r302 (h.2.2 c6 _ rfl)))
theorem e302 {w : PW} {Q : PO → PW → Prop} {x1 : Int} (hs : Sh w) (hx1 : bd x1) (h : (bd ((gI w 170 5) - 1)) ∧ ((0 ≤ x1 ∧ x1 < gI w 170 5) → ∀ w2 : PW, w2 = sI w 169 0 0 → (0 ≤ (71 + 3 * x1) + 0 ∧ (71 + 3 * x1) + 0 < 843) ∧ pC 299 [.ref 169, iv (gI w2 170 ((71 + 3 * x1) + 0).toNat)] w2 (kI fun u4 w3 => Sh w3 ∧ (u4 = 1 → pX 302 28 [some (.ref 169), some (iv x1), some (iv 0)] [] w3 Q) ∧ (u4 ≠ 1 → Q (.inl (some (iv ((-1))))) w3))) ∧ ((¬ (0 ≤ x1 ∧ x1 < gI w 170 5)) → ∀ w7 : PW, w7 = sI w 169 0 1 → Q (.inl (some (iv 0))) w7)) : pC 302 [.ref 169, iv x1] w Q :=
  (pC_in (Nat.le_of_ble_eq_true rfl) rfl Q).mpr (v302_0 hs hx1 h)
theorem v302_28 {w : PW} {Q : PO → PW → Prop} {x1 : Int} {x2 : Int} (hs : Sh w) (hx1 : bd x1) (hx2 : bd x2) (h : (0 ≤ x2 ∧ x2 < 60) ∧ ((gI w 176 x2.toNat) = x1 → (0 ≤ x2 ∧ x2 < 61) ∧ Q (.inl (some (iv (gI w 177 x2.toNat)))) w) ∧ ((gI w 176 x2.toNat) ≠ x1 → pX 302 28 [some (.ref 169), some (iv x1), some (iv (x2 + 1))] [] w Q)) : pX 302 28 [some (.ref 169), some (iv x1), some (iv x2)] [] w Q :=
  w_f b302 d302_28 rfl rfl rfl <| w_gr b302 d302_29 rfl rfl hs (tlt 169 rfl) tbC_169 rfl (by decide) <| w_f b302 d302_32 rfl rfl rfl <| w_ial b302 d302_33 rfl hs (tlt 176 rfl) tbC_176 (bdix (n := 60) h.1 rfl) h.1 <| w_f b302 d302_34 rfl rfl rfl <| w_iceq b302 d302_35 rfl rfl (p302 _ _) (bd_gI _ _ _) hx1 (fun c1 => w_f b302 d302_44 rfl rfl rfl <| w_gr b302 d302_45 rfl rfl hs (tlt 169 rfl) tbC_169 rfl (by decide) <| w_f b302 d302_48 rfl rfl rfl <| w_ial b302 d302_49 rfl hs (tlt 177 rfl) tbC_177 (bdix (n := 61) (h.2.1 c1).1 rfl) (h.2.1 c1).1 <| w_ri b302 d302_50 r302 (h.2.1 c1).2) (fun c1 => w_f b302 d302_38 rfl (pf_iinc rfl rfl) rfl <| w_j b302 d302_41 rfl (p302 _ _) <| (h.2.2 c1))
/-! 303: PinBarrelModel.spare(I)I -/
theorem b303 : mB 303 = cX9_spare := rfl
theorem r303 : mR 303 = (some .int) := rfl
theorem p303 (a b : Nat) : phi 303 a ≤ phi 303 b := Nat.le_refl 0
theorem d303_0 : decode cX9_spare 0 = .ok (.aload_n 0, 1) := by decide +kernel
theorem d303_1 : decode cX9_spare 1 = .ok (.iload_n 1, 1) := by decide +kernel
theorem d303_2 : decode cX9_spare 2 = .ok (.invokevirtual 377, 3) := by decide +kernel
theorem d303_5 : decode cX9_spare 5 = .ok (.ifCond .eq 5, 3) := by decide +kernel
theorem d303_8 : decode cX9_spare 8 = .ok (.iconst 0, 1) := by decide +kernel
theorem d303_9 : decode cX9_spare 9 = .ok (.ireturn, 1) := by decide +kernel
theorem d303_10 : decode cX9_spare 10 = .ok (.aload_n 0, 1) := by decide +kernel
theorem d303_11 : decode cX9_spare 11 = .ok (.iload_n 1, 1) := by decide +kernel
theorem d303_12 : decode cX9_spare 12 = .ok (.invokevirtual 391, 3) := by decide +kernel
theorem d303_15 : decode cX9_spare 15 = .ok (.iconst 1, 1) := by decide +kernel
theorem d303_16 : decode cX9_spare 16 = .ok (.if_icmp .eq 5, 3) := by decide +kernel
theorem d303_19 : decode cX9_spare 19 = .ok (.iconst (-1), 1) := by decide +kernel
theorem d303_20 : decode cX9_spare 20 = .ok (.ireturn, 1) := by decide +kernel
theorem d303_21 : decode cX9_spare 21 = .ok (.iconst 1, 1) := by decide +kernel
theorem d303_22 : decode cX9_spare 22 = .ok (.aload_n 0, 1) := by decide +kernel
theorem d303_23 : decode cX9_spare 23 = .ok (.getfield 9, 3) := by decide +kernel
theorem d303_26 : decode cX9_spare 26 = .ok (.iconst 4, 1) := by decide +kernel
theorem d303_27 : decode cX9_spare 27 = .ok (.iaload, 1) := by decide +kernel
theorem d303_28 : decode cX9_spare 28 = .ok (.ishl, 1) := by decide +kernel
theorem d303_29 : decode cX9_spare 29 = .ok (.iconst 1, 1) := by decide +kernel
theorem d303_30 : decode cX9_spare 30 = .ok (.isub, 1) := by decide +kernel
theorem d303_31 : decode cX9_spare 31 = .ok (.istore_n 2, 1) := by decide +kernel
theorem d303_32 : decode cX9_spare 32 = .ok (.iconst 0, 1) := by decide +kernel
theorem d303_33 : decode cX9_spare 33 = .ok (.istore_n 3, 1) := by decide +kernel
theorem d303_34 : decode cX9_spare 34 = .ok (.iload_n 3, 1) := by decide +kernel
theorem d303_35 : decode cX9_spare 35 = .ok (.aload_n 0, 1) := by decide +kernel
theorem d303_36 : decode cX9_spare 36 = .ok (.getfield 298, 3) := by decide +kernel
theorem d303_39 : decode cX9_spare 39 = .ok (.if_icmp .ge 22, 3) := by decide +kernel
theorem d303_42 : decode cX9_spare 42 = .ok (.iload_n 2, 1) := by decide +kernel
theorem d303_43 : decode cX9_spare 43 = .ok (.iconst 1, 1) := by decide +kernel
theorem d303_44 : decode cX9_spare 44 = .ok (.aload_n 0, 1) := by decide +kernel
theorem d303_45 : decode cX9_spare 45 = .ok (.getfield 37, 3) := by decide +kernel
theorem d303_48 : decode cX9_spare 48 = .ok (.iload_n 3, 1) := by decide +kernel
theorem d303_49 : decode cX9_spare 49 = .ok (.iaload, 1) := by decide +kernel
theorem d303_50 : decode cX9_spare 50 = .ok (.ishl, 1) := by decide +kernel
theorem d303_51 : decode cX9_spare 51 = .ok (.iconst (-1), 1) := by decide +kernel
theorem d303_52 : decode cX9_spare 52 = .ok (.ixor, 1) := by decide +kernel
theorem d303_53 : decode cX9_spare 53 = .ok (.iand, 1) := by decide +kernel
theorem d303_54 : decode cX9_spare 54 = .ok (.istore_n 2, 1) := by decide +kernel
theorem d303_55 : decode cX9_spare 55 = .ok (.iinc 3 1, 3) := by decide +kernel
theorem d303_58 : decode cX9_spare 58 = .ok (.goto (-24), 3) := by decide +kernel
theorem d303_61 : decode cX9_spare 61 = .ok (.iload_n 2, 1) := by decide +kernel
theorem d303_62 : decode cX9_spare 62 = .ok (.ireturn, 1) := by decide +kernel
theorem v303_0 {w : PW} {Q : PO → PW → Prop} {x1 : Int} (hs : Sh w) (hx1 : bd x1) (h : (bd ((gI w 170 1) - 1)) ∧ ((0 ≤ x1 ∧ x1 < gI w 170 1) → ∀ w2 : PW, w2 = sI w 169 0 0 → pC 299 [.ref 169, iv x1] w2 (kI fun u4 w3 => Sh w3 ∧ (u4 = 1 → pX 303 34 [some (.ref 169), some (iv x1), some (iv ((iShl 1 (gI w3 170 4)) - 1)), some (iv 0)] [] w3 Q) ∧ (u4 ≠ 1 → Q (.inl (some (iv ((-1))))) w3))) ∧ ((¬ (0 ≤ x1 ∧ x1 < gI w 170 1)) → ∀ w7 : PW, w7 = sI w 169 0 1 → Q (.inl (some (iv 0))) w7)) : pX 303 0 [some (.ref 169), some (iv x1), none, none] [] w Q :=
  w_f b303 d303_0 rfl rfl rfl <| w_f b303 d303_1 rfl rfl rfl <| w_cc b303 d303_2 rfl (pcl_v (n := 1) rfl rfl rfl (by decide +kernel) (sh_isOb hs (tlt 169 rfl) tbC_169) rfl rfl) rfl <| c275 hs hx1 h.1 (fun c1 => w_ifeq b303 d303_5 rfl rfl (p303 _ _) ⟨by decide, by decide⟩ (fun _ => w_f b303 d303_10 rfl rfl rfl <| w_f b303 d303_11 rfl rfl rfl <| w_c b303 d303_12 rfl (pcl_v (n := 1) rfl rfl rfl (by decide +kernel) (sh_isOb (Sh_sI hs (slt_o tbC_169 rfl)) (tlt 169 rfl) tbC_169) rfl rfl) rfl _ (hK_I fun u4 w3 hbu4 hkw3 => w_f b303 d303_15 rfl rfl rfl <| w_iceq b303 d303_16 rfl rfl (p303 _ _) hbu4 ⟨by decide, by decide⟩ (fun c5 => w_f b303 d303_21 rfl rfl rfl <| w_f b303 d303_22 rfl rfl rfl <| w_gr b303 d303_23 rfl rfl hkw3.1 (tlt 169 rfl) tbC_169 rfl (by decide) <| w_f b303 d303_26 rfl rfl rfl <| w_ial b303 d303_27 rfl hkw3.1 (tlt 170 rfl) tbC_170 (bdix (n := 843) ⟨by decide, by decide⟩ rfl) ⟨by decide, by decide⟩ <| w_f b303 d303_28 rfl (pf_ishl 1 _) rfl <| w_f b303 d303_29 rfl rfl rfl <| w_f b303 d303_30 rfl (pf_isub _ 1) rfl <| w_f b303 d303_31 rfl rfl rfl <| w_f b303 d303_32 rfl rfl rfl <| w_f b303 d303_33 rfl rfl rfl <| (hkw3.2.1 c5)) (fun c5 => w_f b303 d303_19 rfl rfl rfl <| w_ri b303 d303_20 r303 (hkw3.2.2 c5))) (h.2.1 c1 _ rfl)) (fun c => absurd c (by decide))) (fun c6 => w_ifeq b303 d303_5 rfl rfl (p303 _ _) ⟨by decide, by decide⟩ (fun c => absurd c (by decide)) (fun _ => w_f b303 d303_8 rfl rfl rfl <| w_ri b303 d303_9 r303 (h.2.2 c6 _ rfl)))
theorem e303 {w : PW} {Q : PO → PW → Prop} {x1 : Int} (hs : Sh w) (hx1 : bd x1) (h : (bd ((gI w 170 1) - 1)) ∧ ((0 ≤ x1 ∧ x1 < gI w 170 1) → ∀ w2 : PW, w2 = sI w 169 0 0 → pC 299 [.ref 169, iv x1] w2 (kI fun u4 w3 => Sh w3 ∧ (u4 = 1 → pX 303 34 [some (.ref 169), some (iv x1), some (iv ((iShl 1 (gI w3 170 4)) - 1)), some (iv 0)] [] w3 Q) ∧ (u4 ≠ 1 → Q (.inl (some (iv ((-1))))) w3))) ∧ ((¬ (0 ≤ x1 ∧ x1 < gI w 170 1)) → ∀ w7 : PW, w7 = sI w 169 0 1 → Q (.inl (some (iv 0))) w7)) : pC 303 [.ref 169, iv x1] w Q :=
  (pC_in (Nat.le_of_ble_eq_true rfl) rfl Q).mpr (v303_0 hs hx1 h)
theorem v303_34 {w : PW} {Q : PO → PW → Prop} {x1 : Int} {x2 : Int} {x3 : Int} (hs : Sh w) (hx1 : bd x1) (hx2 : bd x2) (hx3 : bd x3) (h : ((gI w 169 26) ≤ x3 → Q (.inl (some (iv x2))) w) ∧ (x3 < (gI w 169 26) → (0 ≤ x3 ∧ x3 < 61) ∧ pX 303 34 [some (.ref 169), some (iv x1), some (iv (iAnd x2 (iXor (iShl 1 (gI w 177 x3.toNat)) ((-1))))), some (iv (x3 + 1))] [] w Q)) : pX 303 34 [some (.ref 169), some (iv x1), some (iv x2), some (iv x3)] [] w Q :=
  w_f b303 d303_34 rfl rfl rfl <| w_f b303 d303_35 rfl rfl rfl <| w_gi b303 d303_36 rfl rfl hs (tlt 169 rfl) tbC_169 rfl <| w_icge b303 d303_39 rfl rfl (p303 _ _) hx3 (bd_gI _ _ _) (fun c1 => w_f b303 d303_61 rfl rfl rfl <| w_ri b303 d303_62 r303 (h.1 c1)) (fun c1 => w_f b303 d303_42 rfl rfl rfl <| w_f b303 d303_43 rfl rfl rfl <| w_f b303 d303_44 rfl rfl rfl <| w_gr b303 d303_45 rfl rfl hs (tlt 169 rfl) tbC_169 rfl (by decide) <| w_f b303 d303_48 rfl rfl rfl <| w_ial b303 d303_49 rfl hs (tlt 177 rfl) tbC_177 (bdix (n := 61) (h.2 c1).1 rfl) (h.2 c1).1 <| w_f b303 d303_50 rfl (pf_ishl 1 (gI w 177 x3.toNat)) rfl <| w_f b303 d303_51 rfl rfl rfl <| w_f b303 d303_52 rfl (pf_ixor (iShl 1 (gI w 177 x3.toNat)) ((-1))) rfl <| w_f b303 d303_53 rfl (pf_iand x2 (iXor (iShl 1 (gI w 177 x3.toNat)) ((-1)))) rfl <| w_f b303 d303_54 rfl rfl rfl <| w_f b303 d303_55 rfl (pf_iinc rfl rfl) rfl <| w_j b303 d303_58 rfl (p303 _ _) <| (h.2 c1).2)
section MQ5
variable {w : PW} {Q : PO → PW → Prop} {m : Row} {x1 : Int} {u : Nat}
theorem c300 (hs : Sh w) (hM : MR w m) (hx1 : bd x1) (h : ∀ w2, MqF w w2 → gI w2 169 0 = moE (sp125 m x1) → Q (moV (sp125 m x1)) w2) : pC 300 [.ref 169, iv x1] w Q := by
  have h1 := hM.ok.u
  refine e300 hs hx1 ?_
  rw [hM.g (k := 1) rfl]
  refine ⟨⟨by omega, by omega⟩, fun q w2 e2 => ?_, (moG hs (by decide) h).2⟩
  obtain ⟨F2, g2, h2⟩ := (moG hs (by decide) h).1 q w2 e2
  have h3 := moI h2 g2
  obtain ⟨u, rfl⟩ := nat_of q.1
  refine c299 F2.1 (F2.mr hM) q.2 (fun w3 F3 hK => kI_iv (sSeek_b m u (-1)) ⟨F3.1, fun q4 => ?_, fun q4 => ?_⟩)
  · have := h3 w3 F3
    rw [if_neg q4] at this
    rw [hK.2.2.1 q4]
    exact this
  · have := h3 w3 F3
    rw [if_pos q4] at this
    exact this
theorem c301 (hs : Sh w) (hM : MR w m) (hx1 : bd x1) (h : ∀ w2, MqF w w2 → gI w2 169 0 = moE (sp127 m x1) → Q (moV (sp127 m x1)) w2) : pC 301 [.ref 169, iv x1] w Q := by
  have h1 := hM.ok.u
  refine e301 hs hx1 ?_
  rw [hM.g (k := 1) rfl]
  refine ⟨⟨by omega, by omega⟩, fun q w2 e2 => ?_, (moG hs (by decide) h).2⟩
  obtain ⟨F2, g2, h2⟩ := (moG hs (by decide) h).1 q w2 e2
  have h3 := moI h2 g2
  obtain ⟨u, rfl⟩ := nat_of q.1
  exact c299 F2.1 (F2.mr hM) q.2 (fun w3 F3 hK => kI_iv (sSeek_b m u (-1)) ⟨F3.1, h3 w3 F3⟩)
def sq131 (m : Row) (x : Int) : PO := if 0 ≤ x ∧ x < m 5 then rI (if (sSeek m (rN m x.toNat 0) (-1)).1 = 1 then (sSeek m (rN m x.toNat 0) (-1)).2.2.2 (fnd (fun i => decide (ordN m (rN m x.toNat 0) i = x.toNat)) (ordR m (rN m x.toNat 0))) else -1) else .inr 1
theorem l302_28 {w : PW} {Q : PO → PW → Prop} {x f : Nat} {o : Nat → Nat} {z : Int} (hs : Sh w) (hf : f < 60) (hx : x < 60) (hrow : ∀ j, j ≤ f → gI w 176 j = (o j : Nat)) (hno : ∀ j, j < f → o j ≠ x) (hyes : o f = x) (hz : gI w 177 f = z) (h : Q (.inl (some (iv z))) w) : ∀ k i : Nat, i + k = f → pX 302 28 [some (.ref 169), some (iv (x : Nat)), some (iv (i : Nat))] [] w Q := by
  intro k
  induction k with
  | zero =>
    intro i hi 
    have e : i = f := by omega
    subst e
    refine v302_28 hs (bdk (by omega)) (bdk (by omega)) ?_
    rw [Int.toNat_natCast, hrow i (Nat.le_refl _), hz]
    exact ⟨⟨by omega, by omega⟩, fun _ => ⟨⟨by omega, by omega⟩, h⟩, fun q => absurd (congrArg Int.ofNat hyes) q⟩
  | succ k ih =>
    intro i hi 
    refine v302_28 hs (bdk (by omega)) (bdk (by omega)) ?_
    rw [Int.toNat_natCast, hrow i (by omega)]
    exact ⟨⟨by omega, by omega⟩, fun q => absurd (Int.ofNat.inj q) (hno i (by omega)), fun _ => ih (i + 1) (by omega)⟩
theorem c302 (hs : Sh w) (hM : MR w m) (hx1 : bd x1) (h : ∀ w2, MqF w w2 → gI w2 169 0 = moE (sq131 m x1) → Q (moV (sq131 m x1)) w2) : pC 302 [.ref 169, iv x1] w Q := by
  have h1 := hM.ok.u
  have h5 := hM.ok.n
  refine e302 hs hx1 ?_
  rw [hM.g (k := 5) rfl]
  refine ⟨⟨by omega, by omega⟩, fun q w2 e2 => ?_, (moG hs (by decide) h).2⟩
  obtain ⟨F2, g2, h2⟩ := (moG hs (by decide) h).1 q w2 e2
  have hM2 := F2.mr hM
  have h3 := moI h2 g2
  obtain ⟨x, rfl⟩ := nat_of q.1
  rw [Int.toNat_natCast] at h3
  rw [hM2.N0 (by omega)]
  have hN := (hM.ok.N q.2).1
  obtain ⟨u, hu⟩ := nat_of hN.1
  rw [hu] at h3 hN ⊢
  have hRl := ordR_le hM.ok (u : Int)
  refine ⟨⟨by omega, by omega⟩, c299 F2.1 hM2 hN.2 (fun w3 F3 hK => kI_iv (sSeek_b m u (-1)) ⟨F3.1, fun q4 => ?_, fun q4 => ?_⟩)⟩
  · have h4 := h3 w3 F3
    rw [if_pos q4] at h4
    obtain ⟨i, i1, i2⟩ := ordN_in (u := (u : Int)) (m 5).toNat x (by omega) hu
    have hsp := fnd_spec (fun i => decide (ordN m u i = x)) (ordR m u)
    have hfi : fnd (fun i => decide (ordN m u i = x)) (ordR m u) < ordR m u := by
      rcases Nat.lt_or_ge (fnd (fun i => decide (ordN m u i = x)) (ordR m u)) (ordR m u) with q2 | q2
      · exact q2
      · have h9 := hsp.2.1 i (by have : i < ordR m u := i1; omega)
        rw [decide_eq_true (show ordN m u i = x from i2)] at h9
        cases h9
    exact l302_28 (x := x) (o := ordN m u) F3.1 (by omega) (by omega) (fun j hj => hK.2.1 j (by omega)) (fun j hj => of_decide_eq_false (hsp.2.1 j hj)) (of_decide_eq_true (hsp.2.2 hfi)) (hK.2.2.2 q4 _ hfi).1 h4 _ 0 (Nat.zero_add _)
  · have h4 := h3 w3 F3
    rw [if_neg q4] at h4
    exact h4
/-- teeth that go from a set, one after another -/
def spB (X : Int) (ch : Nat → Int) : Nat → Int
  | 0 => X
  | k + 1 => iAnd (spB X ch k) (iXor (iShl 1 (ch k)) (-1))
theorem spB_bd {X : Int} (hX : bd X) (ch : Nat → Int) : ∀ n, bd (spB X ch n)
  | 0 => hX
  | _ + 1 => bd_toInt _
theorem spB_bits {X : Int} {ch : Nat → Int} {t : Nat} (ht : t < 32) : ∀ n, tI (spB X ch n) t = (tI X t && !tI (usedN ch n) t) := by
  intro n
  induction n with
  | zero => rw [show spB X ch 0 = X from rfl, show usedN ch 0 = 0 from rfl, tI_0]; exact (Bool.and_true _).symm
  | succ n ih =>
    show tI (iAnd (spB X ch n) (iXor (iShl 1 (ch n)) (-1))) t = (tI X t && !tI (iOr (usedN ch n) (iShl 1 (ch n))) t)
    rw [tI_and, tI_not ht, tI_or, ih, Bool.not_or, Bool.and_assoc]
theorem spB_eq {X : Int} (hX : bd X) (ch : Nat → Int) (n : Nat) : spB X ch n = iAnd X (iXor (usedN ch n) (-1)) :=
  tI_ext (spB_bd hX ch n) (bd_toInt _) (fun t ht => by rw [spB_bits ht, tI_and, tI_not ht])
theorem l303_34 {w : PW} {Q : PO → PW → Prop} {n : Nat} {X x1 : Int} {ch : Nat → Int} (hs : Sh w) (hx1 : bd x1) (hX : bd X) (hn : n ≤ 60) (hr : gI w 169 26 = (n : Nat)) (hch : ∀ j, j < n → gI w 177 j = ch j) (h : Q (.inl (some (iv (spB X ch n)))) w) : ∀ k i : Nat, i + k = n → pX 303 34 [some (.ref 169), some (iv x1), some (iv (spB X ch i)), some (iv (i : Nat))] [] w Q := by
  intro k
  induction k with
  | zero =>
    intro i hi 
    refine v303_34 hs hx1 (spB_bd hX ch i) (bdk (by omega)) ?_
    rw [hr]
    refine ⟨fun _ => ?_, fun q => by omega⟩
    rw [show n = i from by omega] at h
    exact h
  | succ k ih =>
    intro i hi 
    refine v303_34 hs hx1 (spB_bd hX ch i) (bdk (by omega)) ?_
    rw [hr, Int.toNat_natCast, hch i (by omega)]
    exact ⟨fun q => by omega, fun _ => ⟨⟨by omega, by omega⟩, ih (i + 1) (by omega)⟩⟩
theorem c303 (hs : Sh w) (hM : MR w m) (hx1 : bd x1) (h : ∀ w2, MqF w w2 → gI w2 169 0 = moE (sp134 m x1) → Q (moV (sp134 m x1)) w2) : pC 303 [.ref 169, iv x1] w Q := by
  have h1 := hM.ok.u
  have h4 := hM.ok.t
  refine e303 hs hx1 ?_
  rw [hM.g (k := 1) rfl]
  refine ⟨⟨by omega, by omega⟩, fun q w2 e2 => ?_, (moG hs (by decide) h).2⟩
  obtain ⟨F2, g2, h2⟩ := (moG hs (by decide) h).1 q w2 e2
  have h3 := moI h2 g2
  obtain ⟨u, rfl⟩ := nat_of q.1
  have hRl := ordR_le hM.ok (u : Int)
  refine c299 F2.1 (F2.mr hM) q.2 (fun w3 F3 hK => kI_iv (sSeek_b m u (-1)) ⟨F3.1, fun q4 => ?_, fun q4 => ?_⟩)
  · have h5 := h3 w3 F3
    rw [if_pos q4] at h5
    rw [((F2.tr F3.2.1).mr hM).g (k := 4) rfl]
    have hb : bd (iShl 1 (m 4) - 1) := by
      obtain ⟨n, hn⟩ := nat_of h4.1
      rw [hn, shl1 n (by omega)]
      have h2 : (2 : Nat) ^ n ≤ 2 ^ 12 := Nat.pow_le_pow_right (by decide) (by omega)
      have h0 : 0 < (2 : Nat) ^ n := Nat.pow_pos (by decide)
      exact ⟨by omega, by omega⟩
    have e : sSpare m u = spB (iShl 1 (m 4) - 1) (sSeek m u (-1)).2.2.2 (ordR m u) := (spB_eq hb _ _).symm
    rw [e] at h5
    exact l303_34 F3.1 hx1 hb hRl hK.1 (fun j hj => (hK.2.2.2 q4 j hj).1) h5 _ 0 (Nat.zero_add _)
  · have h5 := h3 w3 F3
    rw [if_neg q4] at h5
    exact h5
end MQ5
