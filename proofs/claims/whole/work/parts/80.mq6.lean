/-! THE MODEL's FACE: counts of notes, silence, what was heard -/
/-! 310: PinBarrelModel.usesOf(II)I -/
theorem b310 : mB 310 = cX9_usesOf := rfl
theorem r310 : mR 310 = (some .int) := rfl
theorem p310 (a b : Nat) : phi 310 a ≤ phi 310 b := Nat.le_refl 0
theorem d310_0 : decode cX9_usesOf 0 = .ok (.iconst 0, 1) := by decide +kernel
theorem d310_1 : decode cX9_usesOf 1 = .ok (.istore_n 3, 1) := by decide +kernel
theorem d310_2 : decode cX9_usesOf 2 = .ok (.iconst 0, 1) := by decide +kernel
theorem d310_3 : decode cX9_usesOf 3 = .ok (.istore 4, 2) := by decide +kernel
theorem d310_5 : decode cX9_usesOf 5 = .ok (.iload 4, 2) := by decide +kernel
theorem d310_7 : decode cX9_usesOf 7 = .ok (.aload_n 0, 1) := by decide +kernel
theorem d310_8 : decode cX9_usesOf 8 = .ok (.getfield 9, 3) := by decide +kernel
theorem d310_11 : decode cX9_usesOf 11 = .ok (.iconst 5, 1) := by decide +kernel
theorem d310_12 : decode cX9_usesOf 12 = .ok (.iaload, 1) := by decide +kernel
theorem d310_13 : decode cX9_usesOf 13 = .ok (.if_icmp .ge 39, 3) := by decide +kernel
theorem d310_16 : decode cX9_usesOf 16 = .ok (.iload_n 3, 1) := by decide +kernel
theorem d310_17 : decode cX9_usesOf 17 = .ok (.aload_n 0, 1) := by decide +kernel
theorem d310_18 : decode cX9_usesOf 18 = .ok (.iload 4, 2) := by decide +kernel
theorem d310_20 : decode cX9_usesOf 20 = .ok (.iconst 0, 1) := by decide +kernel
theorem d310_21 : decode cX9_usesOf 21 = .ok (.invokevirtual 283, 3) := by decide +kernel
theorem d310_24 : decode cX9_usesOf 24 = .ok (.iload_n 1, 1) := by decide +kernel
theorem d310_25 : decode cX9_usesOf 25 = .ok (.if_icmp .ne 18, 3) := by decide +kernel
theorem d310_28 : decode cX9_usesOf 28 = .ok (.aload_n 0, 1) := by decide +kernel
theorem d310_29 : decode cX9_usesOf 29 = .ok (.iload 4, 2) := by decide +kernel
theorem d310_31 : decode cX9_usesOf 31 = .ok (.iconst 2, 1) := by decide +kernel
theorem d310_32 : decode cX9_usesOf 32 = .ok (.invokevirtual 283, 3) := by decide +kernel
theorem d310_35 : decode cX9_usesOf 35 = .ok (.iload_n 2, 1) := by decide +kernel
theorem d310_36 : decode cX9_usesOf 36 = .ok (.if_icmp .ne 7, 3) := by decide +kernel
theorem d310_39 : decode cX9_usesOf 39 = .ok (.iconst 1, 1) := by decide +kernel
theorem d310_40 : decode cX9_usesOf 40 = .ok (.goto 4, 3) := by decide +kernel
theorem d310_43 : decode cX9_usesOf 43 = .ok (.iconst 0, 1) := by decide +kernel
theorem d310_44 : decode cX9_usesOf 44 = .ok (.iadd, 1) := by decide +kernel
theorem d310_45 : decode cX9_usesOf 45 = .ok (.istore_n 3, 1) := by decide +kernel
theorem d310_46 : decode cX9_usesOf 46 = .ok (.iinc 4 1, 3) := by decide +kernel
theorem d310_49 : decode cX9_usesOf 49 = .ok (.goto (-44), 3) := by decide +kernel
theorem d310_52 : decode cX9_usesOf 52 = .ok (.iload_n 3, 1) := by decide +kernel
theorem d310_53 : decode cX9_usesOf 53 = .ok (.ireturn, 1) := by decide +kernel
theorem v310_0 {w : PW} {Q : PO → PW → Prop} {x1 : Int} {x2 : Int} (hs : Sh w) (hx1 : bd x1) (hx2 : bd x2) (h : pX 310 5 [some (.ref 169), some (iv x1), some (iv x2), some (iv 0), some (iv 0)] [] w Q) : pX 310 0 [some (.ref 169), some (iv x1), some (iv x2), none, none] [] w Q :=
  w_f b310 d310_0 rfl rfl rfl <| w_f b310 d310_1 rfl rfl rfl <| w_f b310 d310_2 rfl rfl rfl <| w_f b310 d310_3 rfl rfl rfl <| h
theorem e310 {w : PW} {Q : PO → PW → Prop} {x1 : Int} {x2 : Int} (hs : Sh w) (hx1 : bd x1) (hx2 : bd x2) (h : pX 310 5 [some (.ref 169), some (iv x1), some (iv x2), some (iv 0), some (iv 0)] [] w Q) : pC 310 [.ref 169, iv x1, iv x2] w Q :=
  (pC_in (Nat.le_of_ble_eq_true rfl) rfl Q).mpr (v310_0 hs hx1 hx2 h)
theorem v310_5 {w : PW} {Q : PO → PW → Prop} {x1 : Int} {x2 : Int} {x3 : Int} {x4 : Int} (hs : Sh w) (hx1 : bd x1) (hx2 : bd x2) (hx3 : bd x3) (hx4 : bd x4) (h : ((gI w 170 5) ≤ x4 → Q (.inl (some (iv x3))) w) ∧ (x4 < (gI w 170 5) → (0 ≤ (71 + 3 * x4) + 0 ∧ (71 + 3 * x4) + 0 < 843) ∧ ((gI w 170 ((71 + 3 * x4) + 0).toNat) ≠ x1 → pX 310 5 [some (.ref 169), some (iv x1), some (iv x2), some (iv (x3 + 0)), some (iv (x4 + 1))] [] w Q) ∧ ((gI w 170 ((71 + 3 * x4) + 0).toNat) = x1 → (0 ≤ (71 + 3 * x4) + 2 ∧ (71 + 3 * x4) + 2 < 843) ∧ ((gI w 170 ((71 + 3 * x4) + 2).toNat) ≠ x2 → pX 310 5 [some (.ref 169), some (iv x1), some (iv x2), some (iv (x3 + 0)), some (iv (x4 + 1))] [] w Q) ∧ ((gI w 170 ((71 + 3 * x4) + 2).toNat) = x2 → pX 310 5 [some (.ref 169), some (iv x1), some (iv x2), some (iv (x3 + 1)), some (iv (x4 + 1))] [] w Q)))) : pX 310 5 [some (.ref 169), some (iv x1), some (iv x2), some (iv x3), some (iv x4)] [] w Q :=
  w_f b310 d310_5 rfl rfl rfl <| w_f b310 d310_7 rfl rfl rfl <| w_gr b310 d310_8 rfl rfl hs (tlt 169 rfl) tbC_169 rfl (by decide) <| w_f b310 d310_11 rfl rfl rfl <| w_ial b310 d310_12 rfl hs (tlt 170 rfl) tbC_170 (bdix (n := 843) ⟨by decide, by decide⟩ rfl) ⟨by decide, by decide⟩ <| w_icge b310 d310_13 rfl rfl (p310 _ _) hx4 (bd_gI _ _ _) (fun c1 => w_f b310 d310_52 rfl rfl rfl <| w_ri b310 d310_53 r310 (h.1 c1)) (fun c1 => w_f b310 d310_16 rfl rfl rfl <| w_f b310 d310_17 rfl rfl rfl <| w_f b310 d310_18 rfl rfl rfl <| w_f b310 d310_20 rfl rfl rfl <| w_cc b310 d310_21 rfl (pcl_v (n := 2) rfl rfl rfl (by decide +kernel) (sh_isOb hs (tlt 169 rfl) tbC_169) rfl rfl) rfl <| c267 hs hx4 ⟨by decide, by decide⟩ (h.2 c1).1 <| w_f b310 d310_24 rfl rfl rfl <| w_icne b310 d310_25 rfl rfl (p310 _ _) (bd_gI _ _ _) hx1 (fun c2 => w_f b310 d310_43 rfl rfl rfl <| w_f b310 d310_44 rfl (pf_iadd x3 0) rfl <| w_f b310 d310_45 rfl rfl rfl <| w_f b310 d310_46 rfl (pf_iinc rfl rfl) rfl <| w_j b310 d310_49 rfl (p310 _ _) <| ((h.2 c1).2.1 c2)) (fun c2 => w_f b310 d310_28 rfl rfl rfl <| w_f b310 d310_29 rfl rfl rfl <| w_f b310 d310_31 rfl rfl rfl <| w_cc b310 d310_32 rfl (pcl_v (n := 2) rfl rfl rfl (by decide +kernel) (sh_isOb hs (tlt 169 rfl) tbC_169) rfl rfl) rfl <| c267 hs hx4 ⟨by decide, by decide⟩ ((h.2 c1).2.2 c2).1 <| w_f b310 d310_35 rfl rfl rfl <| w_icne b310 d310_36 rfl rfl (p310 _ _) (bd_gI _ _ _) hx2 (fun c3 => w_f b310 d310_43 rfl rfl rfl <| w_f b310 d310_44 rfl (pf_iadd x3 0) rfl <| w_f b310 d310_45 rfl rfl rfl <| w_f b310 d310_46 rfl (pf_iinc rfl rfl) rfl <| w_j b310 d310_49 rfl (p310 _ _) <| (((h.2 c1).2.2 c2).2.1 c3)) (fun c3 => w_f b310 d310_39 rfl rfl rfl <| w_j b310 d310_40 rfl (p310 _ _) <| w_f b310 d310_44 rfl (pf_iadd x3 1) rfl <| w_f b310 d310_45 rfl rfl rfl <| w_f b310 d310_46 rfl (pf_iinc rfl rfl) rfl <| w_j b310 d310_49 rfl (p310 _ _) <| (((h.2 c1).2.2 c2).2.2 c3))))
/-! 311: PinBarrelModel.uses(II)I -/
theorem b311 : mB 311 = cX9_uses := rfl
theorem r311 : mR 311 = (some .int) := rfl
theorem p311 (a b : Nat) : phi 311 a ≤ phi 311 b := Nat.le_refl 0
theorem d311_0 : decode cX9_uses 0 = .ok (.aload_n 0, 1) := by decide +kernel
theorem d311_1 : decode cX9_uses 1 = .ok (.aload_n 0, 1) := by decide +kernel
theorem d311_2 : decode cX9_uses 2 = .ok (.iload_n 1, 1) := by decide +kernel
theorem d311_3 : decode cX9_uses 3 = .ok (.invokevirtual 340, 3) := by decide +kernel
theorem d311_6 : decode cX9_uses 6 = .ok (.ifCond .eq 10, 3) := by decide +kernel
theorem d311_9 : decode cX9_uses 9 = .ok (.iload_n 2, 1) := by decide +kernel
theorem d311_10 : decode cX9_uses 10 = .ok (.invokestatic 396, 3) := by decide +kernel
theorem d311_13 : decode cX9_uses 13 = .ok (.ifCond .ne 7, 3) := by decide +kernel
theorem d311_16 : decode cX9_uses 16 = .ok (.iconst 1, 1) := by decide +kernel
theorem d311_17 : decode cX9_uses 17 = .ok (.goto 4, 3) := by decide +kernel
theorem d311_20 : decode cX9_uses 20 = .ok (.iconst 0, 1) := by decide +kernel
theorem d311_21 : decode cX9_uses 21 = .ok (.invokevirtual 328, 3) := by decide +kernel
theorem d311_24 : decode cX9_uses 24 = .ok (.ifCond .eq 7, 3) := by decide +kernel
theorem d311_27 : decode cX9_uses 27 = .ok (.iconst 0, 1) := by decide +kernel
theorem d311_28 : decode cX9_uses 28 = .ok (.goto 9, 3) := by decide +kernel
theorem d311_31 : decode cX9_uses 31 = .ok (.aload_n 0, 1) := by decide +kernel
theorem d311_32 : decode cX9_uses 32 = .ok (.iload_n 1, 1) := by decide +kernel
theorem d311_33 : decode cX9_uses 33 = .ok (.iload_n 2, 1) := by decide +kernel
theorem d311_34 : decode cX9_uses 34 = .ok (.invokevirtual 399, 3) := by decide +kernel
theorem d311_37 : decode cX9_uses 37 = .ok (.ireturn, 1) := by decide +kernel
theorem v311_0 {w : PW} {Q : PO → PW → Prop} {x1 : Int} {x2 : Int} (hs : Sh w) (hx1 : bd x1) (hx2 : bd x2) (h : (bd ((gI w 170 1) - 1)) ∧ ((¬ (0 ≤ x1 ∧ x1 < gI w 170 1)) → ∀ w2 : PW, w2 = sI w 169 0 1 → Q (.inl (some (iv 0))) w2) ∧ ((0 ≤ x1 ∧ x1 < gI w 170 1) → ((0 ≤ x2 ∧ x2 ≤ 23) → ∀ w4 : PW, w4 = sI w 169 0 0 → pC 310 [.ref 169, iv x1, iv x2] w4 (kI fun u6 w5 => Sh w5 ∧ Q (.inl (some (iv u6))) w5)) ∧ ((¬ (0 ≤ x2 ∧ x2 ≤ 23)) → ∀ w7 : PW, w7 = sI w 169 0 1 → Q (.inl (some (iv 0))) w7))) : pX 311 0 [some (.ref 169), some (iv x1), some (iv x2)] [] w Q :=
  w_f b311 d311_0 rfl rfl rfl <| w_f b311 d311_1 rfl rfl rfl <| w_f b311 d311_2 rfl rfl rfl <| w_cc b311 d311_3 rfl (pcl_v (n := 1) rfl rfl rfl (by decide +kernel) (sh_isOb hs (tlt 169 rfl) tbC_169) rfl rfl) rfl <| c271 hs hx1 h.1 <| w_ifeqZ b311 d311_6 rfl rfl (p311 _ _) (fun c1 => w_f b311 d311_16 rfl rfl rfl <| w_j b311 d311_17 rfl (p311 _ _) <| w_cc b311 d311_21 rfl (pcl_v (n := 1) rfl rfl rfl (by decide +kernel) (sh_isOb hs (tlt 169 rfl) tbC_169) rfl rfl) rfl <| c245 hs ⟨by decide, by decide⟩ (by decide) <| w_ifeq b311 d311_24 rfl rfl (p311 _ _) ⟨by decide, by decide⟩ (fun c => absurd c (by decide)) (fun _ => w_f b311 d311_27 rfl rfl rfl <| w_j b311 d311_28 rfl (p311 _ _) <| w_ri b311 d311_37 r311 ((h.2.1 c1) _ rfl))) (fun c1 => w_f b311 d311_9 rfl rfl rfl <| w_cc b311 d311_10 rfl (pcl_s1 (n := 1) rfl rfl rfl (by decide +kernel) rfl rfl) rfl <| c309 hs hx2 <| w_ifneZ b311 d311_13 rfl rfl (p311 _ _) (fun c3 => w_f b311 d311_20 rfl rfl rfl <| w_cc b311 d311_21 rfl (pcl_v (n := 1) rfl rfl rfl (by decide +kernel) (sh_isOb hs (tlt 169 rfl) tbC_169) rfl rfl) rfl <| c245 hs ⟨by decide, by decide⟩ (by decide) <| w_ifeq b311 d311_24 rfl rfl (p311 _ _) ⟨by decide, by decide⟩ (fun _ => w_f b311 d311_31 rfl rfl rfl <| w_f b311 d311_32 rfl rfl rfl <| w_f b311 d311_33 rfl rfl rfl <| w_c b311 d311_34 rfl (pcl_v (n := 2) rfl rfl rfl (by decide +kernel) (sh_isOb (Sh_sI hs (slt_o tbC_169 rfl)) (tlt 169 rfl) tbC_169) rfl rfl) rfl _ (hK_I fun u6 w5 hbu6 hkw5 => w_ri b311 d311_37 r311 hkw5.2) (((h.2.2 c1).1 c3) _ rfl)) (fun c => absurd c (by decide))) (fun c3 => w_f b311 d311_16 rfl rfl rfl <| w_j b311 d311_17 rfl (p311 _ _) <| w_cc b311 d311_21 rfl (pcl_v (n := 1) rfl rfl rfl (by decide +kernel) (sh_isOb hs (tlt 169 rfl) tbC_169) rfl rfl) rfl <| c245 hs ⟨by decide, by decide⟩ (by decide) <| w_ifeq b311 d311_24 rfl rfl (p311 _ _) ⟨by decide, by decide⟩ (fun c => absurd c (by decide)) (fun _ => w_f b311 d311_27 rfl rfl rfl <| w_j b311 d311_28 rfl (p311 _ _) <| w_ri b311 d311_37 r311 (((h.2.2 c1).2 c3) _ rfl))))
theorem e311 {w : PW} {Q : PO → PW → Prop} {x1 : Int} {x2 : Int} (hs : Sh w) (hx1 : bd x1) (hx2 : bd x2) (h : (bd ((gI w 170 1) - 1)) ∧ ((¬ (0 ≤ x1 ∧ x1 < gI w 170 1)) → ∀ w2 : PW, w2 = sI w 169 0 1 → Q (.inl (some (iv 0))) w2) ∧ ((0 ≤ x1 ∧ x1 < gI w 170 1) → ((0 ≤ x2 ∧ x2 ≤ 23) → ∀ w4 : PW, w4 = sI w 169 0 0 → pC 310 [.ref 169, iv x1, iv x2] w4 (kI fun u6 w5 => Sh w5 ∧ Q (.inl (some (iv u6))) w5)) ∧ ((¬ (0 ≤ x2 ∧ x2 ≤ 23)) → ∀ w7 : PW, w7 = sI w 169 0 1 → Q (.inl (some (iv 0))) w7))) : pC 311 [.ref 169, iv x1, iv x2] w Q :=
  (pC_in (Nat.le_of_ble_eq_true rfl) rfl Q).mpr (v311_0 hs hx1 hx2 h)
/-! 312: PinBarrelModel.mostUsed(I)I -/
theorem b312 : mB 312 = cX9_mostUsed := rfl
theorem r312 : mR 312 = (some .int) := rfl
theorem p312 (a b : Nat) : phi 312 a ≤ phi 312 b := Nat.le_refl 0
theorem d312_0 : decode cX9_mostUsed 0 = .ok (.aload_n 0, 1) := by decide +kernel
theorem d312_1 : decode cX9_mostUsed 1 = .ok (.iload_n 1, 1) := by decide +kernel
theorem d312_2 : decode cX9_mostUsed 2 = .ok (.invokevirtual 377, 3) := by decide +kernel
theorem d312_5 : decode cX9_mostUsed 5 = .ok (.ifCond .eq 5, 3) := by decide +kernel
theorem d312_8 : decode cX9_mostUsed 8 = .ok (.iconst 0, 1) := by decide +kernel
theorem d312_9 : decode cX9_mostUsed 9 = .ok (.ireturn, 1) := by decide +kernel
theorem d312_10 : decode cX9_mostUsed 10 = .ok (.iconst (-1), 1) := by decide +kernel
theorem d312_11 : decode cX9_mostUsed 11 = .ok (.istore_n 2, 1) := by decide +kernel
theorem d312_12 : decode cX9_mostUsed 12 = .ok (.iconst 0, 1) := by decide +kernel
theorem d312_13 : decode cX9_mostUsed 13 = .ok (.istore_n 3, 1) := by decide +kernel
theorem d312_14 : decode cX9_mostUsed 14 = .ok (.iconst 0, 1) := by decide +kernel
theorem d312_15 : decode cX9_mostUsed 15 = .ok (.istore 4, 2) := by decide +kernel
theorem d312_17 : decode cX9_mostUsed 17 = .ok (.iload 4, 2) := by decide +kernel
theorem d312_19 : decode cX9_mostUsed 19 = .ok (.bipush 24, 2) := by decide +kernel
theorem d312_21 : decode cX9_mostUsed 21 = .ok (.if_icmp .ge 33, 3) := by decide +kernel
theorem d312_24 : decode cX9_mostUsed 24 = .ok (.aload_n 0, 1) := by decide +kernel
theorem d312_25 : decode cX9_mostUsed 25 = .ok (.iload_n 1, 1) := by decide +kernel
theorem d312_26 : decode cX9_mostUsed 26 = .ok (.iload 4, 2) := by decide +kernel
theorem d312_28 : decode cX9_mostUsed 28 = .ok (.invokevirtual 399, 3) := by decide +kernel
theorem d312_31 : decode cX9_mostUsed 31 = .ok (.istore 5, 2) := by decide +kernel
theorem d312_33 : decode cX9_mostUsed 33 = .ok (.iload 5, 2) := by decide +kernel
theorem d312_35 : decode cX9_mostUsed 35 = .ok (.iload_n 3, 1) := by decide +kernel
theorem d312_36 : decode cX9_mostUsed 36 = .ok (.if_icmp .gt 6, 3) := by decide +kernel
theorem d312_39 : decode cX9_mostUsed 39 = .ok (.goto 9, 3) := by decide +kernel
theorem d312_42 : decode cX9_mostUsed 42 = .ok (.iload 4, 2) := by decide +kernel
theorem d312_44 : decode cX9_mostUsed 44 = .ok (.istore_n 2, 1) := by decide +kernel
theorem d312_45 : decode cX9_mostUsed 45 = .ok (.iload 5, 2) := by decide +kernel
theorem d312_47 : decode cX9_mostUsed 47 = .ok (.istore_n 3, 1) := by decide +kernel
theorem d312_48 : decode cX9_mostUsed 48 = .ok (.iinc 4 1, 3) := by decide +kernel
theorem d312_51 : decode cX9_mostUsed 51 = .ok (.goto (-34), 3) := by decide +kernel
theorem d312_54 : decode cX9_mostUsed 54 = .ok (.iload_n 2, 1) := by decide +kernel
theorem d312_55 : decode cX9_mostUsed 55 = .ok (.ireturn, 1) := by decide +kernel
theorem v312_0 {w : PW} {Q : PO → PW → Prop} {x1 : Int} (hs : Sh w) (hx1 : bd x1) (h : (bd ((gI w 170 1) - 1)) ∧ ((0 ≤ x1 ∧ x1 < gI w 170 1) → ∀ w2 : PW, w2 = sI w 169 0 0 → pX 312 17 [some (.ref 169), some (iv x1), some (iv ((-1))), some (iv 0), some (iv 0), none] [] w2 Q) ∧ ((¬ (0 ≤ x1 ∧ x1 < gI w 170 1)) → ∀ w4 : PW, w4 = sI w 169 0 1 → Q (.inl (some (iv 0))) w4)) : pX 312 0 [some (.ref 169), some (iv x1), none, none, none, none] [] w Q :=
  w_f b312 d312_0 rfl rfl rfl <| w_f b312 d312_1 rfl rfl rfl <| w_cc b312 d312_2 rfl (pcl_v (n := 1) rfl rfl rfl (by decide +kernel) (sh_isOb hs (tlt 169 rfl) tbC_169) rfl rfl) rfl <| c275 hs hx1 h.1 (fun c1 => w_ifeq b312 d312_5 rfl rfl (p312 _ _) ⟨by decide, by decide⟩ (fun _ => w_f b312 d312_10 rfl rfl rfl <| w_f b312 d312_11 rfl rfl rfl <| w_f b312 d312_12 rfl rfl rfl <| w_f b312 d312_13 rfl rfl rfl <| w_f b312 d312_14 rfl rfl rfl <| w_f b312 d312_15 rfl rfl rfl <| (h.2.1 c1 _ rfl)) (fun c => absurd c (by decide))) (fun c3 => w_ifeq b312 d312_5 rfl rfl (p312 _ _) ⟨by decide, by decide⟩ (fun c => absurd c (by decide)) (fun _ => w_f b312 d312_8 rfl rfl rfl <| w_ri b312 d312_9 r312 (h.2.2 c3 _ rfl)))
theorem e312 {w : PW} {Q : PO → PW → Prop} {x1 : Int} (hs : Sh w) (hx1 : bd x1) (h : (bd ((gI w 170 1) - 1)) ∧ ((0 ≤ x1 ∧ x1 < gI w 170 1) → ∀ w2 : PW, w2 = sI w 169 0 0 → pX 312 17 [some (.ref 169), some (iv x1), some (iv ((-1))), some (iv 0), some (iv 0), none] [] w2 Q) ∧ ((¬ (0 ≤ x1 ∧ x1 < gI w 170 1)) → ∀ w4 : PW, w4 = sI w 169 0 1 → Q (.inl (some (iv 0))) w4)) : pC 312 [.ref 169, iv x1] w Q :=
  (pC_in (Nat.le_of_ble_eq_true rfl) rfl Q).mpr (v312_0 hs hx1 h)
theorem v312_17 {w : PW} {Q : PO → PW → Prop} {x1 : Int} {x2 : Int} {x3 : Int} {x4 : Int} {o5 : Option Value} (hs : Sh w) (hx1 : bd x1) (hx2 : bd x2) (hx3 : bd x3) (hx4 : bd x4) (ho5 : pc2 o5 = false) (h : (24 ≤ x4 → Q (.inl (some (iv x2))) w) ∧ (x4 < 24 → pC 310 [.ref 169, iv x1, iv x4] w (kI fun u3 w2 => Sh w2 ∧ (x3 < u3 → pX 312 17 [some (.ref 169), some (iv x1), some (iv x4), some (iv u3), some (iv (x4 + 1)), some (iv u3)] [] w2 Q) ∧ (u3 ≤ x3 → pX 312 17 [some (.ref 169), some (iv x1), some (iv x2), some (iv x3), some (iv (x4 + 1)), some (iv u3)] [] w2 Q)))) : pX 312 17 [some (.ref 169), some (iv x1), some (iv x2), some (iv x3), some (iv x4), o5] [] w Q :=
  w_f b312 d312_17 rfl rfl rfl <| w_f b312 d312_19 rfl rfl rfl <| w_icge b312 d312_21 rfl rfl (p312 _ _) hx4 ⟨by decide, by decide⟩ (fun c1 => w_f b312 d312_54 rfl rfl rfl <| w_ri b312 d312_55 r312 (h.1 c1)) (fun c1 => w_f b312 d312_24 rfl rfl rfl <| w_f b312 d312_25 rfl rfl rfl <| w_f b312 d312_26 rfl rfl rfl <| w_c b312 d312_28 rfl (pcl_v (n := 2) rfl rfl rfl (by decide +kernel) (sh_isOb hs (tlt 169 rfl) tbC_169) rfl rfl) rfl _ (hK_I fun u3 w2 hbu3 hkw2 => w_f b312 d312_31 rfl rfl rfl <| w_f b312 d312_33 rfl rfl rfl <| w_f b312 d312_35 rfl rfl rfl <| w_icgt b312 d312_36 rfl rfl (p312 _ _) hbu3 hx3 (fun c4 => w_f b312 d312_42 rfl rfl rfl <| w_f b312 d312_44 rfl rfl rfl <| w_f b312 d312_45 rfl rfl rfl <| w_f b312 d312_47 rfl rfl rfl <| w_f b312 d312_48 rfl (pf_iinc rfl rfl) rfl <| w_j b312 d312_51 rfl (p312 _ _) <| (hkw2.2.1 c4)) (fun c4 => w_j b312 d312_39 rfl (p312 _ _) <| w_f b312 d312_48 rfl (pf_iinc rfl rfl) rfl <| w_j b312 d312_51 rfl (p312 _ _) <| (hkw2.2.2 c4))) (h.2 c1))
/-! 313: PinBarrelModel.inRow(IIII)I -/
theorem b313 : mB 313 = cX9_inRow := rfl
theorem r313 : mR 313 = (some .int) := rfl
theorem p313 (a b : Nat) : phi 313 a ≤ phi 313 b := Nat.le_refl 0
theorem d313_0 : decode cX9_inRow 0 = .ok (.iconst 0, 1) := by decide +kernel
theorem d313_1 : decode cX9_inRow 1 = .ok (.istore 5, 2) := by decide +kernel
theorem d313_3 : decode cX9_inRow 3 = .ok (.iconst 0, 1) := by decide +kernel
theorem d313_4 : decode cX9_inRow 4 = .ok (.istore 6, 2) := by decide +kernel
theorem d313_6 : decode cX9_inRow 6 = .ok (.iload 6, 2) := by decide +kernel
theorem d313_8 : decode cX9_inRow 8 = .ok (.aload_n 0, 1) := by decide +kernel
theorem d313_9 : decode cX9_inRow 9 = .ok (.getfield 9, 3) := by decide +kernel
theorem d313_12 : decode cX9_inRow 12 = .ok (.iconst 5, 1) := by decide +kernel
theorem d313_13 : decode cX9_inRow 13 = .ok (.iaload, 1) := by decide +kernel
theorem d313_14 : decode cX9_inRow 14 = .ok (.if_icmp .ge 72, 3) := by decide +kernel
theorem d313_17 : decode cX9_inRow 17 = .ok (.aload_n 0, 1) := by decide +kernel
theorem d313_18 : decode cX9_inRow 18 = .ok (.iload 6, 2) := by decide +kernel
theorem d313_20 : decode cX9_inRow 20 = .ok (.iconst 0, 1) := by decide +kernel
theorem d313_21 : decode cX9_inRow 21 = .ok (.invokevirtual 283, 3) := by decide +kernel
theorem d313_24 : decode cX9_inRow 24 = .ok (.iload_n 1, 1) := by decide +kernel
theorem d313_25 : decode cX9_inRow 25 = .ok (.if_icmp .ne 55, 3) := by decide +kernel
theorem d313_28 : decode cX9_inRow 28 = .ok (.aload_n 0, 1) := by decide +kernel
theorem d313_29 : decode cX9_inRow 29 = .ok (.iload 6, 2) := by decide +kernel
theorem d313_31 : decode cX9_inRow 31 = .ok (.iconst 2, 1) := by decide +kernel
theorem d313_32 : decode cX9_inRow 32 = .ok (.invokevirtual 283, 3) := by decide +kernel
theorem d313_35 : decode cX9_inRow 35 = .ok (.iload_n 2, 1) := by decide +kernel
theorem d313_36 : decode cX9_inRow 36 = .ok (.if_icmp .eq 6, 3) := by decide +kernel
theorem d313_39 : decode cX9_inRow 39 = .ok (.goto 41, 3) := by decide +kernel
theorem d313_42 : decode cX9_inRow 42 = .ok (.iload 5, 2) := by decide +kernel
theorem d313_44 : decode cX9_inRow 44 = .ok (.aload_n 0, 1) := by decide +kernel
theorem d313_45 : decode cX9_inRow 45 = .ok (.iload 6, 2) := by decide +kernel
theorem d313_47 : decode cX9_inRow 47 = .ok (.iconst 1, 1) := by decide +kernel
theorem d313_48 : decode cX9_inRow 48 = .ok (.invokevirtual 283, 3) := by decide +kernel
theorem d313_51 : decode cX9_inRow 51 = .ok (.iload_n 3, 1) := by decide +kernel
theorem d313_52 : decode cX9_inRow 52 = .ok (.isub, 1) := by decide +kernel
theorem d313_53 : decode cX9_inRow 53 = .ok (.aload_n 0, 1) := by decide +kernel
theorem d313_54 : decode cX9_inRow 54 = .ok (.getfield 9, 3) := by decide +kernel
theorem d313_57 : decode cX9_inRow 57 = .ok (.iconst 0, 1) := by decide +kernel
theorem d313_58 : decode cX9_inRow 58 = .ok (.iaload, 1) := by decide +kernel
theorem d313_59 : decode cX9_inRow 59 = .ok (.iadd, 1) := by decide +kernel
theorem d313_60 : decode cX9_inRow 60 = .ok (.aload_n 0, 1) := by decide +kernel
theorem d313_61 : decode cX9_inRow 61 = .ok (.getfield 9, 3) := by decide +kernel
theorem d313_64 : decode cX9_inRow 64 = .ok (.iconst 0, 1) := by decide +kernel
theorem d313_65 : decode cX9_inRow 65 = .ok (.iaload, 1) := by decide +kernel
theorem d313_66 : decode cX9_inRow 66 = .ok (.irem, 1) := by decide +kernel
theorem d313_67 : decode cX9_inRow 67 = .ok (.iload 4, 2) := by decide +kernel
theorem d313_69 : decode cX9_inRow 69 = .ok (.if_icmp .ge 7, 3) := by decide +kernel
theorem d313_72 : decode cX9_inRow 72 = .ok (.iconst 1, 1) := by decide +kernel
theorem d313_73 : decode cX9_inRow 73 = .ok (.goto 4, 3) := by decide +kernel
theorem d313_76 : decode cX9_inRow 76 = .ok (.iconst 0, 1) := by decide +kernel
theorem d313_77 : decode cX9_inRow 77 = .ok (.iadd, 1) := by decide +kernel
theorem d313_78 : decode cX9_inRow 78 = .ok (.istore 5, 2) := by decide +kernel
theorem d313_80 : decode cX9_inRow 80 = .ok (.iinc 6 1, 3) := by decide +kernel
theorem d313_83 : decode cX9_inRow 83 = .ok (.goto (-77), 3) := by decide +kernel
theorem d313_86 : decode cX9_inRow 86 = .ok (.iload 5, 2) := by decide +kernel
theorem d313_88 : decode cX9_inRow 88 = .ok (.ireturn, 1) := by decide +kernel
theorem v313_0 {w : PW} {Q : PO → PW → Prop} {x1 : Int} {x2 : Int} {x3 : Int} {x4 : Int} (hs : Sh w) (hx1 : bd x1) (hx2 : bd x2) (hx3 : bd x3) (hx4 : bd x4) (h : pX 313 6 [some (.ref 169), some (iv x1), some (iv x2), some (iv x3), some (iv x4), some (iv 0), some (iv 0)] [] w Q) : pX 313 0 [some (.ref 169), some (iv x1), some (iv x2), some (iv x3), some (iv x4), none, none] [] w Q :=
  w_f b313 d313_0 rfl rfl rfl <| w_f b313 d313_1 rfl rfl rfl <| w_f b313 d313_3 rfl rfl rfl <| w_f b313 d313_4 rfl rfl rfl <| h
theorem e313 {w : PW} {Q : PO → PW → Prop} {x1 : Int} {x2 : Int} {x3 : Int} {x4 : Int} (hs : Sh w) (hx1 : bd x1) (hx2 : bd x2) (hx3 : bd x3) (hx4 : bd x4) (h : pX 313 6 [some (.ref 169), some (iv x1), some (iv x2), some (iv x3), some (iv x4), some (iv 0), some (iv 0)] [] w Q) : pC 313 [.ref 169, iv x1, iv x2, iv x3, iv x4] w Q :=
  (pC_in (Nat.le_of_ble_eq_true rfl) rfl Q).mpr (v313_0 hs hx1 hx2 hx3 hx4 h)
theorem v313_6 {w : PW} {Q : PO → PW → Prop} {x1 : Int} {x2 : Int} {x3 : Int} {x4 : Int} {x5 : Int} {x6 : Int} (hs : Sh w) (hx1 : bd x1) (hx2 : bd x2) (hx3 : bd x3) (hx4 : bd x4) (hx5 : bd x5) (hx6 : bd x6) (h : ((gI w 170 5) ≤ x6 → Q (.inl (some (iv x5))) w) ∧ (x6 < (gI w 170 5) → (0 ≤ (71 + 3 * x6) + 0 ∧ (71 + 3 * x6) + 0 < 843) ∧ ((gI w 170 ((71 + 3 * x6) + 0).toNat) ≠ x1 → pX 313 6 [some (.ref 169), some (iv x1), some (iv x2), some (iv x3), some (iv x4), some (iv x5), some (iv (x6 + 1))] [] w Q) ∧ ((gI w 170 ((71 + 3 * x6) + 0).toNat) = x1 → (0 ≤ (71 + 3 * x6) + 2 ∧ (71 + 3 * x6) + 2 < 843) ∧ ((gI w 170 ((71 + 3 * x6) + 2).toNat) = x2 → (0 ≤ (71 + 3 * x6) + 1 ∧ (71 + 3 * x6) + 1 < 843) ∧ (bd (((gI w 170 ((71 + 3 * x6) + 1).toNat) - x3) + (gI w 170 0))) ∧ (0 < (gI w 170 0) ∧ (gI w 170 0) < 2147483648) ∧ (bd ((((gI w 170 ((71 + 3 * x6) + 1).toNat) - x3) + (gI w 170 0)).tmod (gI w 170 0))) ∧ (x4 ≤ ((((gI w 170 ((71 + 3 * x6) + 1).toNat) - x3) + (gI w 170 0)).tmod (gI w 170 0)) → pX 313 6 [some (.ref 169), some (iv x1), some (iv x2), some (iv x3), some (iv x4), some (iv (x5 + 0)), some (iv (x6 + 1))] [] w Q) ∧ (((((gI w 170 ((71 + 3 * x6) + 1).toNat) - x3) + (gI w 170 0)).tmod (gI w 170 0)) < x4 → pX 313 6 [some (.ref 169), some (iv x1), some (iv x2), some (iv x3), some (iv x4), some (iv (x5 + 1)), some (iv (x6 + 1))] [] w Q)) ∧ ((gI w 170 ((71 + 3 * x6) + 2).toNat) ≠ x2 → pX 313 6 [some (.ref 169), some (iv x1), some (iv x2), some (iv x3), some (iv x4), some (iv x5), some (iv (x6 + 1))] [] w Q)))) : pX 313 6 [some (.ref 169), some (iv x1), some (iv x2), some (iv x3), some (iv x4), some (iv x5), some (iv x6)] [] w Q :=
  w_f b313 d313_6 rfl rfl rfl <| w_f b313 d313_8 rfl rfl rfl <| w_gr b313 d313_9 rfl rfl hs (tlt 169 rfl) tbC_169 rfl (by decide) <| w_f b313 d313_12 rfl rfl rfl <| w_ial b313 d313_13 rfl hs (tlt 170 rfl) tbC_170 (bdix (n := 843) ⟨by decide, by decide⟩ rfl) ⟨by decide, by decide⟩ <| w_icge b313 d313_14 rfl rfl (p313 _ _) hx6 (bd_gI _ _ _) (fun c1 => w_f b313 d313_86 rfl rfl rfl <| w_ri b313 d313_88 r313 (h.1 c1)) (fun c1 => w_f b313 d313_17 rfl rfl rfl <| w_f b313 d313_18 rfl rfl rfl <| w_f b313 d313_20 rfl rfl rfl <| w_cc b313 d313_21 rfl (pcl_v (n := 2) rfl rfl rfl (by decide +kernel) (sh_isOb hs (tlt 169 rfl) tbC_169) rfl rfl) rfl <| c267 hs hx6 ⟨by decide, by decide⟩ (h.2 c1).1 <| w_f b313 d313_24 rfl rfl rfl <| w_icne b313 d313_25 rfl rfl (p313 _ _) (bd_gI _ _ _) hx1 (fun c2 => w_f b313 d313_80 rfl (pf_iinc rfl rfl) rfl <| w_j b313 d313_83 rfl (p313 _ _) <| ((h.2 c1).2.1 c2)) (fun c2 => w_f b313 d313_28 rfl rfl rfl <| w_f b313 d313_29 rfl rfl rfl <| w_f b313 d313_31 rfl rfl rfl <| w_cc b313 d313_32 rfl (pcl_v (n := 2) rfl rfl rfl (by decide +kernel) (sh_isOb hs (tlt 169 rfl) tbC_169) rfl rfl) rfl <| c267 hs hx6 ⟨by decide, by decide⟩ ((h.2 c1).2.2 c2).1 <| w_f b313 d313_35 rfl rfl rfl <| w_iceq b313 d313_36 rfl rfl (p313 _ _) (bd_gI _ _ _) hx2 (fun c3 => w_f b313 d313_42 rfl rfl rfl <| w_f b313 d313_44 rfl rfl rfl <| w_f b313 d313_45 rfl rfl rfl <| w_f b313 d313_47 rfl rfl rfl <| w_cc b313 d313_48 rfl (pcl_v (n := 2) rfl rfl rfl (by decide +kernel) (sh_isOb hs (tlt 169 rfl) tbC_169) rfl rfl) rfl <| c267 hs hx6 ⟨by decide, by decide⟩ (((h.2 c1).2.2 c2).2.1 c3).1 <| w_f b313 d313_51 rfl rfl rfl <| w_f b313 d313_52 rfl (pf_isub (gI w 170 ((71 + 3 * x6) + 1).toNat) x3) rfl <| w_f b313 d313_53 rfl rfl rfl <| w_gr b313 d313_54 rfl rfl hs (tlt 169 rfl) tbC_169 rfl (by decide) <| w_f b313 d313_57 rfl rfl rfl <| w_ial b313 d313_58 rfl hs (tlt 170 rfl) tbC_170 (bdix (n := 843) ⟨by decide, by decide⟩ rfl) ⟨by decide, by decide⟩ <| w_f b313 d313_59 rfl (pf_iadd ((gI w 170 ((71 + 3 * x6) + 1).toNat) - x3) (gI w 170 0)) rfl <| w_f b313 d313_60 rfl rfl rfl <| w_gr b313 d313_61 rfl rfl hs (tlt 169 rfl) tbC_169 rfl (by decide) <| w_f b313 d313_64 rfl rfl rfl <| w_ial b313 d313_65 rfl hs (tlt 170 rfl) tbC_170 (bdix (n := 843) ⟨by decide, by decide⟩ rfl) ⟨by decide, by decide⟩ <| w_f b313 d313_66 rfl (pf_irem (((h.2 c1).2.2 c2).2.1 c3).2.1 (((h.2 c1).2.2 c2).2.1 c3).2.2.1) rfl <| w_f b313 d313_67 rfl rfl rfl <| w_icge b313 d313_69 rfl rfl (p313 _ _) (((h.2 c1).2.2 c2).2.1 c3).2.2.2.1 hx4 (fun c4 => w_f b313 d313_76 rfl rfl rfl <| w_f b313 d313_77 rfl (pf_iadd x5 0) rfl <| w_f b313 d313_78 rfl rfl rfl <| w_f b313 d313_80 rfl (pf_iinc rfl rfl) rfl <| w_j b313 d313_83 rfl (p313 _ _) <| ((((h.2 c1).2.2 c2).2.1 c3).2.2.2.2.1 c4)) (fun c4 => w_f b313 d313_72 rfl rfl rfl <| w_j b313 d313_73 rfl (p313 _ _) <| w_f b313 d313_77 rfl (pf_iadd x5 1) rfl <| w_f b313 d313_78 rfl rfl rfl <| w_f b313 d313_80 rfl (pf_iinc rfl rfl) rfl <| w_j b313 d313_83 rfl (p313 _ _) <| ((((h.2 c1).2.2 c2).2.1 c3).2.2.2.2.2 c4))) (fun c3 => w_j b313 d313_39 rfl (p313 _ _) <| w_f b313 d313_80 rfl (pf_iinc rfl rfl) rfl <| w_j b313 d313_83 rfl (p313 _ _) <| (((h.2 c1).2.2 c2).2.2 c3))))
/-! 314: PinBarrelModel.crowd(III)I -/
theorem b314 : mB 314 = cX9_crowd := rfl
theorem r314 : mR 314 = (some .int) := rfl
theorem p314 (a b : Nat) : phi 314 a ≤ phi 314 b := Nat.le_refl 0
theorem d314_0 : decode cX9_crowd 0 = .ok (.aload_n 0, 1) := by decide +kernel
theorem d314_1 : decode cX9_crowd 1 = .ok (.aload_n 0, 1) := by decide +kernel
theorem d314_2 : decode cX9_crowd 2 = .ok (.iload_n 1, 1) := by decide +kernel
theorem d314_3 : decode cX9_crowd 3 = .ok (.invokevirtual 340, 3) := by decide +kernel
theorem d314_6 : decode cX9_crowd 6 = .ok (.ifCond .eq 22, 3) := by decide +kernel
theorem d314_9 : decode cX9_crowd 9 = .ok (.iload_n 2, 1) := by decide +kernel
theorem d314_10 : decode cX9_crowd 10 = .ok (.invokestatic 396, 3) := by decide +kernel
theorem d314_13 : decode cX9_crowd 13 = .ok (.ifCond .eq 15, 3) := by decide +kernel
theorem d314_16 : decode cX9_crowd 16 = .ok (.iload_n 3, 1) := by decide +kernel
theorem d314_17 : decode cX9_crowd 17 = .ok (.i2l, 1) := by decide +kernel
theorem d314_18 : decode cX9_crowd 18 = .ok (.lconst 1, 1) := by decide +kernel
theorem d314_19 : decode cX9_crowd 19 = .ok (.ldc2_w 402, 3) := by decide +kernel
theorem d314_22 : decode cX9_crowd 22 = .ok (.invokestatic 81, 3) := by decide +kernel
theorem d314_25 : decode cX9_crowd 25 = .ok (.ifCond .ne 7, 3) := by decide +kernel
theorem d314_28 : decode cX9_crowd 28 = .ok (.iconst 1, 1) := by decide +kernel
theorem d314_29 : decode cX9_crowd 29 = .ok (.goto 4, 3) := by decide +kernel
theorem d314_32 : decode cX9_crowd 32 = .ok (.iconst 0, 1) := by decide +kernel
theorem d314_33 : decode cX9_crowd 33 = .ok (.invokevirtual 328, 3) := by decide +kernel
theorem d314_36 : decode cX9_crowd 36 = .ok (.ifCond .eq 5, 3) := by decide +kernel
theorem d314_39 : decode cX9_crowd 39 = .ok (.iconst 0, 1) := by decide +kernel
theorem d314_40 : decode cX9_crowd 40 = .ok (.ireturn, 1) := by decide +kernel
theorem d314_41 : decode cX9_crowd 41 = .ok (.iconst 0, 1) := by decide +kernel
theorem d314_42 : decode cX9_crowd 42 = .ok (.istore 4, 2) := by decide +kernel
theorem d314_44 : decode cX9_crowd 44 = .ok (.iconst 0, 1) := by decide +kernel
theorem d314_45 : decode cX9_crowd 45 = .ok (.istore 5, 2) := by decide +kernel
theorem d314_47 : decode cX9_crowd 47 = .ok (.iload 5, 2) := by decide +kernel
theorem d314_49 : decode cX9_crowd 49 = .ok (.aload_n 0, 1) := by decide +kernel
theorem d314_50 : decode cX9_crowd 50 = .ok (.getfield 9, 3) := by decide +kernel
theorem d314_53 : decode cX9_crowd 53 = .ok (.iconst 0, 1) := by decide +kernel
theorem d314_54 : decode cX9_crowd 54 = .ok (.iaload, 1) := by decide +kernel
theorem d314_55 : decode cX9_crowd 55 = .ok (.if_icmp .ge 25, 3) := by decide +kernel
theorem d314_58 : decode cX9_crowd 58 = .ok (.iload 4, 2) := by decide +kernel
theorem d314_60 : decode cX9_crowd 60 = .ok (.aload_n 0, 1) := by decide +kernel
theorem d314_61 : decode cX9_crowd 61 = .ok (.iload_n 1, 1) := by decide +kernel
theorem d314_62 : decode cX9_crowd 62 = .ok (.iload_n 2, 1) := by decide +kernel
theorem d314_63 : decode cX9_crowd 63 = .ok (.iload 5, 2) := by decide +kernel
theorem d314_65 : decode cX9_crowd 65 = .ok (.iload_n 3, 1) := by decide +kernel
theorem d314_66 : decode cX9_crowd 66 = .ok (.invokevirtual 404, 3) := by decide +kernel
theorem d314_69 : decode cX9_crowd 69 = .ok (.invokestatic 346, 3) := by decide +kernel
theorem d314_72 : decode cX9_crowd 72 = .ok (.istore 4, 2) := by decide +kernel
theorem d314_74 : decode cX9_crowd 74 = .ok (.iinc 5 1, 3) := by decide +kernel
theorem d314_77 : decode cX9_crowd 77 = .ok (.goto (-30), 3) := by decide +kernel
theorem d314_80 : decode cX9_crowd 80 = .ok (.iload 4, 2) := by decide +kernel
theorem d314_82 : decode cX9_crowd 82 = .ok (.ireturn, 1) := by decide +kernel
theorem v314_0 {w : PW} {Q : PO → PW → Prop} {x1 : Int} {x2 : Int} {x3 : Int} (hs : Sh w) (hx1 : bd x1) (hx2 : bd x2) (hx3 : bd x3) (h : (bd ((gI w 170 1) - 1)) ∧ ((¬ (0 ≤ x1 ∧ x1 < gI w 170 1)) → ∀ w2 : PW, w2 = sI w 169 0 1 → Q (.inl (some (iv 0))) w2) ∧ ((0 ≤ x1 ∧ x1 < gI w 170 1) → ((¬ (0 ≤ x2 ∧ x2 ≤ 23)) → ∀ w4 : PW, w4 = sI w 169 0 1 → Q (.inl (some (iv 0))) w4) ∧ ((0 ≤ x2 ∧ x2 ≤ 23) → ((((1 : Int64)).toInt ≤ (i2L x3).toInt ∧ (i2L x3).toInt ≤ ((64 : Int64)).toInt) → ∀ w6 : PW, w6 = sI w 169 0 0 → pX 314 47 [some (.ref 169), some (iv x1), some (iv x2), some (iv x3), some (iv 0), some (iv 0)] [] w6 Q) ∧ ((¬ (((1 : Int64)).toInt ≤ (i2L x3).toInt ∧ (i2L x3).toInt ≤ ((64 : Int64)).toInt)) → ∀ w7 : PW, w7 = sI w 169 0 1 → Q (.inl (some (iv 0))) w7)))) : pX 314 0 [some (.ref 169), some (iv x1), some (iv x2), some (iv x3), none, none] [] w Q :=
  w_f b314 d314_0 rfl rfl rfl <| w_f b314 d314_1 rfl rfl rfl <| w_f b314 d314_2 rfl rfl rfl <| w_cc b314 d314_3 rfl (pcl_v (n := 1) rfl rfl rfl (by decide +kernel) (sh_isOb hs (tlt 169 rfl) tbC_169) rfl rfl) rfl <| c271 hs hx1 h.1 <| w_ifeqZ b314 d314_6 rfl rfl (p314 _ _) (fun c1 => w_f b314 d314_28 rfl rfl rfl <| w_j b314 d314_29 rfl (p314 _ _) <| w_cc b314 d314_33 rfl (pcl_v (n := 1) rfl rfl rfl (by decide +kernel) (sh_isOb hs (tlt 169 rfl) tbC_169) rfl rfl) rfl <| c245 hs ⟨by decide, by decide⟩ (by decide) <| w_ifeq b314 d314_36 rfl rfl (p314 _ _) ⟨by decide, by decide⟩ (fun c => absurd c (by decide)) (fun _ => w_f b314 d314_39 rfl rfl rfl <| w_ri b314 d314_40 r314 ((h.2.1 c1) _ rfl))) (fun c1 => w_f b314 d314_9 rfl rfl rfl <| w_cc b314 d314_10 rfl (pcl_s1 (n := 1) rfl rfl rfl (by decide +kernel) rfl rfl) rfl <| c309 hs hx2 <| w_ifeqZ b314 d314_13 rfl rfl (p314 _ _) (fun c3 => w_f b314 d314_28 rfl rfl rfl <| w_j b314 d314_29 rfl (p314 _ _) <| w_cc b314 d314_33 rfl (pcl_v (n := 1) rfl rfl rfl (by decide +kernel) (sh_isOb hs (tlt 169 rfl) tbC_169) rfl rfl) rfl <| c245 hs ⟨by decide, by decide⟩ (by decide) <| w_ifeq b314 d314_36 rfl rfl (p314 _ _) ⟨by decide, by decide⟩ (fun c => absurd c (by decide)) (fun _ => w_f b314 d314_39 rfl rfl rfl <| w_ri b314 d314_40 r314 (((h.2.2 c1).1 c3) _ rfl))) (fun c3 => w_f b314 d314_16 rfl rfl rfl <| w_f b314 d314_17 rfl rfl rfl <| w_f b314 d314_18 rfl rfl rfl <| w_ldcL b314 d314_19 rfl rfl <| w_cc b314 d314_22 rfl (pcl_s1 (n := 3) rfl rfl rfl (by decide +kernel) rfl rfl) rfl <| c221 hs <| w_ifneZ b314 d314_25 rfl rfl (p314 _ _) (fun c5 => w_f b314 d314_32 rfl rfl rfl <| w_cc b314 d314_33 rfl (pcl_v (n := 1) rfl rfl rfl (by decide +kernel) (sh_isOb hs (tlt 169 rfl) tbC_169) rfl rfl) rfl <| c245 hs ⟨by decide, by decide⟩ (by decide) <| w_ifeq b314 d314_36 rfl rfl (p314 _ _) ⟨by decide, by decide⟩ (fun _ => w_f b314 d314_41 rfl rfl rfl <| w_f b314 d314_42 rfl rfl rfl <| w_f b314 d314_44 rfl rfl rfl <| w_f b314 d314_45 rfl rfl rfl <| ((((h.2.2 c1).2 c3).1 c5) _ rfl)) (fun c => absurd c (by decide))) (fun c5 => w_f b314 d314_28 rfl rfl rfl <| w_j b314 d314_29 rfl (p314 _ _) <| w_cc b314 d314_33 rfl (pcl_v (n := 1) rfl rfl rfl (by decide +kernel) (sh_isOb hs (tlt 169 rfl) tbC_169) rfl rfl) rfl <| c245 hs ⟨by decide, by decide⟩ (by decide) <| w_ifeq b314 d314_36 rfl rfl (p314 _ _) ⟨by decide, by decide⟩ (fun c => absurd c (by decide)) (fun _ => w_f b314 d314_39 rfl rfl rfl <| w_ri b314 d314_40 r314 ((((h.2.2 c1).2 c3).2 c5) _ rfl)))))
theorem e314 {w : PW} {Q : PO → PW → Prop} {x1 : Int} {x2 : Int} {x3 : Int} (hs : Sh w) (hx1 : bd x1) (hx2 : bd x2) (hx3 : bd x3) (h : (bd ((gI w 170 1) - 1)) ∧ ((¬ (0 ≤ x1 ∧ x1 < gI w 170 1)) → ∀ w2 : PW, w2 = sI w 169 0 1 → Q (.inl (some (iv 0))) w2) ∧ ((0 ≤ x1 ∧ x1 < gI w 170 1) → ((¬ (0 ≤ x2 ∧ x2 ≤ 23)) → ∀ w4 : PW, w4 = sI w 169 0 1 → Q (.inl (some (iv 0))) w4) ∧ ((0 ≤ x2 ∧ x2 ≤ 23) → ((((1 : Int64)).toInt ≤ (i2L x3).toInt ∧ (i2L x3).toInt ≤ ((64 : Int64)).toInt) → ∀ w6 : PW, w6 = sI w 169 0 0 → pX 314 47 [some (.ref 169), some (iv x1), some (iv x2), some (iv x3), some (iv 0), some (iv 0)] [] w6 Q) ∧ ((¬ (((1 : Int64)).toInt ≤ (i2L x3).toInt ∧ (i2L x3).toInt ≤ ((64 : Int64)).toInt)) → ∀ w7 : PW, w7 = sI w 169 0 1 → Q (.inl (some (iv 0))) w7)))) : pC 314 [.ref 169, iv x1, iv x2, iv x3] w Q :=
  (pC_in (Nat.le_of_ble_eq_true rfl) rfl Q).mpr (v314_0 hs hx1 hx2 hx3 h)
theorem v314_47 {w : PW} {Q : PO → PW → Prop} {x1 : Int} {x2 : Int} {x3 : Int} {x4 : Int} {x5 : Int} (hs : Sh w) (hx1 : bd x1) (hx2 : bd x2) (hx3 : bd x3) (hx4 : bd x4) (hx5 : bd x5) (h : ((gI w 170 0) ≤ x5 → Q (.inl (some (iv x4))) w) ∧ (x5 < (gI w 170 0) → pC 313 [.ref 169, iv x1, iv x2, iv x5, iv x3] w (kI fun u3 w2 => Sh w2 ∧ pX 314 47 [some (.ref 169), some (iv x1), some (iv x2), some (iv x3), some (iv (max x4 u3)), some (iv (x5 + 1))] [] w2 Q))) : pX 314 47 [some (.ref 169), some (iv x1), some (iv x2), some (iv x3), some (iv x4), some (iv x5)] [] w Q :=
  w_f b314 d314_47 rfl rfl rfl <| w_f b314 d314_49 rfl rfl rfl <| w_gr b314 d314_50 rfl rfl hs (tlt 169 rfl) tbC_169 rfl (by decide) <| w_f b314 d314_53 rfl rfl rfl <| w_ial b314 d314_54 rfl hs (tlt 170 rfl) tbC_170 (bdix (n := 843) ⟨by decide, by decide⟩ rfl) ⟨by decide, by decide⟩ <| w_icge b314 d314_55 rfl rfl (p314 _ _) hx5 (bd_gI _ _ _) (fun c1 => w_f b314 d314_80 rfl rfl rfl <| w_ri b314 d314_82 r314 (h.1 c1)) (fun c1 => w_f b314 d314_58 rfl rfl rfl <| w_f b314 d314_60 rfl rfl rfl <| w_f b314 d314_61 rfl rfl rfl <| w_f b314 d314_62 rfl rfl rfl <| w_f b314 d314_63 rfl rfl rfl <| w_f b314 d314_65 rfl rfl rfl <| w_c b314 d314_66 rfl (pcl_v (n := 4) rfl rfl rfl (by decide +kernel) (sh_isOb hs (tlt 169 rfl) tbC_169) rfl rfl) rfl _ (hK_I fun u3 w2 hbu3 hkw2 => w_max b314 d314_69 rfl rfl rfl hx4 hbu3 <| w_f b314 d314_72 rfl rfl rfl <| w_f b314 d314_74 rfl (pf_iinc rfl rfl) rfl <| w_j b314 d314_77 rfl (p314 _ _) <| hkw2.2) (h.2 c1))
/-! 315: PinBarrelModel.silence(I)I -/
theorem b315 : mB 315 = cX9_silence := rfl
theorem r315 : mR 315 = (some .int) := rfl
theorem p315 (a b : Nat) : phi 315 a ≤ phi 315 b := Nat.le_refl 0
theorem d315_0 : decode cX9_silence 0 = .ok (.aload_n 0, 1) := by decide +kernel
theorem d315_1 : decode cX9_silence 1 = .ok (.iload_n 1, 1) := by decide +kernel
theorem d315_2 : decode cX9_silence 2 = .ok (.invokevirtual 377, 3) := by decide +kernel
theorem d315_5 : decode cX9_silence 5 = .ok (.ifCond .eq 5, 3) := by decide +kernel
theorem d315_8 : decode cX9_silence 8 = .ok (.iconst 0, 1) := by decide +kernel
theorem d315_9 : decode cX9_silence 9 = .ok (.ireturn, 1) := by decide +kernel
theorem d315_10 : decode cX9_silence 10 = .ok (.iconst (-1), 1) := by decide +kernel
theorem d315_11 : decode cX9_silence 11 = .ok (.istore_n 2, 1) := by decide +kernel
theorem d315_12 : decode cX9_silence 12 = .ok (.iconst (-1), 1) := by decide +kernel
theorem d315_13 : decode cX9_silence 13 = .ok (.istore_n 3, 1) := by decide +kernel
theorem d315_14 : decode cX9_silence 14 = .ok (.iconst (-1), 1) := by decide +kernel
theorem d315_15 : decode cX9_silence 15 = .ok (.istore 4, 2) := by decide +kernel
theorem d315_17 : decode cX9_silence 17 = .ok (.iconst 0, 1) := by decide +kernel
theorem d315_18 : decode cX9_silence 18 = .ok (.istore 5, 2) := by decide +kernel
theorem d315_20 : decode cX9_silence 20 = .ok (.iload 5, 2) := by decide +kernel
theorem d315_22 : decode cX9_silence 22 = .ok (.aload_n 0, 1) := by decide +kernel
theorem d315_23 : decode cX9_silence 23 = .ok (.getfield 9, 3) := by decide +kernel
theorem d315_26 : decode cX9_silence 26 = .ok (.iconst 0, 1) := by decide +kernel
theorem d315_27 : decode cX9_silence 27 = .ok (.iaload, 1) := by decide +kernel
theorem d315_28 : decode cX9_silence 28 = .ok (.if_icmp .ge 57, 3) := by decide +kernel
theorem d315_31 : decode cX9_silence 31 = .ok (.aload_n 0, 1) := by decide +kernel
theorem d315_32 : decode cX9_silence 32 = .ok (.getfield 9, 3) := by decide +kernel
theorem d315_35 : decode cX9_silence 35 = .ok (.iload_n 1, 1) := by decide +kernel
theorem d315_36 : decode cX9_silence 36 = .ok (.iload 5, 2) := by decide +kernel
theorem d315_38 : decode cX9_silence 38 = .ok (.invokestatic 213, 3) := by decide +kernel
theorem d315_41 : decode cX9_silence 41 = .ok (.iaload, 1) := by decide +kernel
theorem d315_42 : decode cX9_silence 42 = .ok (.ifCond .ne 6, 3) := by decide +kernel
theorem d315_45 : decode cX9_silence 45 = .ok (.goto 34, 3) := by decide +kernel
theorem d315_48 : decode cX9_silence 48 = .ok (.iload_n 3, 1) := by decide +kernel
theorem d315_49 : decode cX9_silence 49 = .ok (.iconst (-1), 1) := by decide +kernel
theorem d315_50 : decode cX9_silence 50 = .ok (.if_icmp .eq 14, 3) := by decide +kernel
theorem d315_53 : decode cX9_silence 53 = .ok (.iload 4, 2) := by decide +kernel
theorem d315_55 : decode cX9_silence 55 = .ok (.iload 5, 2) := by decide +kernel
theorem d315_57 : decode cX9_silence 57 = .ok (.iload_n 3, 1) := by decide +kernel
theorem d315_58 : decode cX9_silence 58 = .ok (.isub, 1) := by decide +kernel
theorem d315_59 : decode cX9_silence 59 = .ok (.invokestatic 346, 3) := by decide +kernel
theorem d315_62 : decode cX9_silence 62 = .ok (.istore 4, 2) := by decide +kernel
theorem d315_64 : decode cX9_silence 64 = .ok (.iload_n 2, 1) := by decide +kernel
theorem d315_65 : decode cX9_silence 65 = .ok (.iconst (-1), 1) := by decide +kernel
theorem d315_66 : decode cX9_silence 66 = .ok (.if_icmp .ne 8, 3) := by decide +kernel
theorem d315_69 : decode cX9_silence 69 = .ok (.iload 5, 2) := by decide +kernel
theorem d315_71 : decode cX9_silence 71 = .ok (.goto 4, 3) := by decide +kernel
theorem d315_74 : decode cX9_silence 74 = .ok (.iload_n 2, 1) := by decide +kernel
theorem d315_75 : decode cX9_silence 75 = .ok (.istore_n 2, 1) := by decide +kernel
theorem d315_76 : decode cX9_silence 76 = .ok (.iload 5, 2) := by decide +kernel
theorem d315_78 : decode cX9_silence 78 = .ok (.istore_n 3, 1) := by decide +kernel
theorem d315_79 : decode cX9_silence 79 = .ok (.iinc 5 1, 3) := by decide +kernel
theorem d315_82 : decode cX9_silence 82 = .ok (.goto (-62), 3) := by decide +kernel
theorem d315_85 : decode cX9_silence 85 = .ok (.iload_n 2, 1) := by decide +kernel
theorem d315_86 : decode cX9_silence 86 = .ok (.iconst (-1), 1) := by decide +kernel
theorem d315_87 : decode cX9_silence 87 = .ok (.if_icmp .ne 7, 3) := by decide +kernel
theorem d315_90 : decode cX9_silence 90 = .ok (.iconst (-1), 1) := by decide +kernel
theorem d315_91 : decode cX9_silence 91 = .ok (.goto 14, 3) := by decide +kernel
theorem d315_94 : decode cX9_silence 94 = .ok (.iload 4, 2) := by decide +kernel
theorem d315_96 : decode cX9_silence 96 = .ok (.aload_n 0, 1) := by decide +kernel
theorem d315_97 : decode cX9_silence 97 = .ok (.iload_n 3, 1) := by decide +kernel
theorem d315_98 : decode cX9_silence 98 = .ok (.iload_n 2, 1) := by decide +kernel
theorem d315_99 : decode cX9_silence 99 = .ok (.invokevirtual 231, 3) := by decide +kernel
theorem d315_102 : decode cX9_silence 102 = .ok (.invokestatic 346, 3) := by decide +kernel
theorem d315_105 : decode cX9_silence 105 = .ok (.ireturn, 1) := by decide +kernel
theorem v315_0 {w : PW} {Q : PO → PW → Prop} {x1 : Int} (hs : Sh w) (hx1 : bd x1) (h : (bd ((gI w 170 1) - 1)) ∧ ((0 ≤ x1 ∧ x1 < gI w 170 1) → ∀ w2 : PW, w2 = sI w 169 0 0 → pX 315 20 [some (.ref 169), some (iv x1), some (iv ((-1))), some (iv ((-1))), some (iv ((-1))), some (iv 0)] [] w2 Q) ∧ ((¬ (0 ≤ x1 ∧ x1 < gI w 170 1)) → ∀ w4 : PW, w4 = sI w 169 0 1 → Q (.inl (some (iv 0))) w4)) : pX 315 0 [some (.ref 169), some (iv x1), none, none, none, none] [] w Q :=
  w_f b315 d315_0 rfl rfl rfl <| w_f b315 d315_1 rfl rfl rfl <| w_cc b315 d315_2 rfl (pcl_v (n := 1) rfl rfl rfl (by decide +kernel) (sh_isOb hs (tlt 169 rfl) tbC_169) rfl rfl) rfl <| c275 hs hx1 h.1 (fun c1 => w_ifeq b315 d315_5 rfl rfl (p315 _ _) ⟨by decide, by decide⟩ (fun _ => w_f b315 d315_10 rfl rfl rfl <| w_f b315 d315_11 rfl rfl rfl <| w_f b315 d315_12 rfl rfl rfl <| w_f b315 d315_13 rfl rfl rfl <| w_f b315 d315_14 rfl rfl rfl <| w_f b315 d315_15 rfl rfl rfl <| w_f b315 d315_17 rfl rfl rfl <| w_f b315 d315_18 rfl rfl rfl <| (h.2.1 c1 _ rfl)) (fun c => absurd c (by decide))) (fun c3 => w_ifeq b315 d315_5 rfl rfl (p315 _ _) ⟨by decide, by decide⟩ (fun c => absurd c (by decide)) (fun _ => w_f b315 d315_8 rfl rfl rfl <| w_ri b315 d315_9 r315 (h.2.2 c3 _ rfl)))
theorem e315 {w : PW} {Q : PO → PW → Prop} {x1 : Int} (hs : Sh w) (hx1 : bd x1) (h : (bd ((gI w 170 1) - 1)) ∧ ((0 ≤ x1 ∧ x1 < gI w 170 1) → ∀ w2 : PW, w2 = sI w 169 0 0 → pX 315 20 [some (.ref 169), some (iv x1), some (iv ((-1))), some (iv ((-1))), some (iv ((-1))), some (iv 0)] [] w2 Q) ∧ ((¬ (0 ≤ x1 ∧ x1 < gI w 170 1)) → ∀ w4 : PW, w4 = sI w 169 0 1 → Q (.inl (some (iv 0))) w4)) : pC 315 [.ref 169, iv x1] w Q :=
  (pC_in (Nat.le_of_ble_eq_true rfl) rfl Q).mpr (v315_0 hs hx1 h)
theorem v315_20 {w : PW} {Q : PO → PW → Prop} {x1 : Int} {x2 : Int} {x3 : Int} {x4 : Int} {x5 : Int} (hs : Sh w) (hx1 : bd x1) (hx2 : bd x2) (hx3 : bd x3) (hx4 : bd x4) (hx5 : bd x5) (h : ((gI w 170 0) ≤ x5 → (x2 ≠ ((-1)) → (0 < gI w 170 0 ∧ gI w 170 0 ≤ 64) ∧ (0 ≤ x3 ∧ x3 < gI w 170 0) ∧ (0 ≤ x2 ∧ x2 < gI w 170 0) ∧ (bd (wayI (gI w 170 0) x3 x2)) ∧ Q (.inl (some (iv (max x4 (wayI (gI w 170 0) x3 x2))))) w) ∧ (x2 = ((-1)) → Q (.inl (some (iv ((-1))))) w)) ∧ (x5 < (gI w 170 0) → (0 ≤ ((251 + 64 * x1) + x5) ∧ ((251 + 64 * x1) + x5) < 843) ∧ ((gI w 170 ((251 + 64 * x1) + x5).toNat) ≠ 0 → (x3 = ((-1)) → (x2 ≠ ((-1)) → pX 315 20 [some (.ref 169), some (iv x1), some (iv x2), some (iv x5), some (iv x4), some (iv (x5 + 1))] [] w Q) ∧ (x2 = ((-1)) → pX 315 20 [some (.ref 169), some (iv x1), some (iv x5), some (iv x5), some (iv x4), some (iv (x5 + 1))] [] w Q)) ∧ (x3 ≠ ((-1)) → (bd (x5 - x3)) ∧ (x2 ≠ ((-1)) → pX 315 20 [some (.ref 169), some (iv x1), some (iv x2), some (iv x5), some (iv (max x4 (x5 - x3))), some (iv (x5 + 1))] [] w Q) ∧ (x2 = ((-1)) → pX 315 20 [some (.ref 169), some (iv x1), some (iv x5), some (iv x5), some (iv (max x4 (x5 - x3))), some (iv (x5 + 1))] [] w Q))) ∧ ((gI w 170 ((251 + 64 * x1) + x5).toNat) = 0 → pX 315 20 [some (.ref 169), some (iv x1), some (iv x2), some (iv x3), some (iv x4), some (iv (x5 + 1))] [] w Q))) : pX 315 20 [some (.ref 169), some (iv x1), some (iv x2), some (iv x3), some (iv x4), some (iv x5)] [] w Q :=
  w_f b315 d315_20 rfl rfl rfl <| w_f b315 d315_22 rfl rfl rfl <| w_gr b315 d315_23 rfl rfl hs (tlt 169 rfl) tbC_169 rfl (by decide) <| w_f b315 d315_26 rfl rfl rfl <| w_ial b315 d315_27 rfl hs (tlt 170 rfl) tbC_170 (bdix (n := 843) ⟨by decide, by decide⟩ rfl) ⟨by decide, by decide⟩ <| w_icge b315 d315_28 rfl rfl (p315 _ _) hx5 (bd_gI _ _ _) (fun c1 => w_f b315 d315_85 rfl rfl rfl <| w_f b315 d315_86 rfl rfl rfl <| w_icne b315 d315_87 rfl rfl (p315 _ _) hx2 ⟨by decide, by decide⟩ (fun c2 => w_f b315 d315_94 rfl rfl rfl <| w_f b315 d315_96 rfl rfl rfl <| w_f b315 d315_97 rfl rfl rfl <| w_f b315 d315_98 rfl rfl rfl <| w_cc b315 d315_99 rfl (pcl_v (n := 2) rfl rfl rfl (by decide +kernel) (sh_isOb hs (tlt 169 rfl) tbC_169) rfl rfl) rfl <| c253 hs hx3 hx2 ((h.1 c1).1 c2).1 ((h.1 c1).1 c2).2.1 ((h.1 c1).1 c2).2.2.1 <| w_max b315 d315_102 rfl rfl rfl hx4 ((h.1 c1).1 c2).2.2.2.1 <| w_ri b315 d315_105 r315 ((h.1 c1).1 c2).2.2.2.2) (fun c2 => w_f b315 d315_90 rfl rfl rfl <| w_j b315 d315_91 rfl (p315 _ _) <| w_ri b315 d315_105 r315 ((h.1 c1).2 c2))) (fun c1 => w_f b315 d315_31 rfl rfl rfl <| w_gr b315 d315_32 rfl rfl hs (tlt 169 rfl) tbC_169 rfl (by decide) <| w_f b315 d315_35 rfl rfl rfl <| w_f b315 d315_36 rfl rfl rfl <| w_cc b315 d315_38 rfl (pcl_s1 (n := 2) rfl rfl rfl (by decide +kernel) rfl rfl) rfl <| c236 hs hx1 hx5 <| w_ial b315 d315_41 rfl hs (tlt 170 rfl) tbC_170 (bdix (n := 843) (h.2 c1).1 rfl) (h.2 c1).1 <| w_ifne b315 d315_42 rfl rfl (p315 _ _) (bd_gI _ _ _) (fun c3 => w_f b315 d315_48 rfl rfl rfl <| w_f b315 d315_49 rfl rfl rfl <| w_iceq b315 d315_50 rfl rfl (p315 _ _) hx3 ⟨by decide, by decide⟩ (fun c4 => w_f b315 d315_64 rfl rfl rfl <| w_f b315 d315_65 rfl rfl rfl <| w_icne b315 d315_66 rfl rfl (p315 _ _) hx2 ⟨by decide, by decide⟩ (fun c5 => w_f b315 d315_74 rfl rfl rfl <| w_f b315 d315_75 rfl rfl rfl <| w_f b315 d315_76 rfl rfl rfl <| w_f b315 d315_78 rfl rfl rfl <| w_f b315 d315_79 rfl (pf_iinc rfl rfl) rfl <| w_j b315 d315_82 rfl (p315 _ _) <| ((((h.2 c1).2.1 c3).1 c4).1 c5)) (fun c5 => w_f b315 d315_69 rfl rfl rfl <| w_j b315 d315_71 rfl (p315 _ _) <| w_f b315 d315_75 rfl rfl rfl <| w_f b315 d315_76 rfl rfl rfl <| w_f b315 d315_78 rfl rfl rfl <| w_f b315 d315_79 rfl (pf_iinc rfl rfl) rfl <| w_j b315 d315_82 rfl (p315 _ _) <| ((((h.2 c1).2.1 c3).1 c4).2 c5))) (fun c4 => w_f b315 d315_53 rfl rfl rfl <| w_f b315 d315_55 rfl rfl rfl <| w_f b315 d315_57 rfl rfl rfl <| w_f b315 d315_58 rfl (pf_isub x5 x3) rfl <| w_max b315 d315_59 rfl rfl rfl hx4 (((h.2 c1).2.1 c3).2 c4).1 <| w_f b315 d315_62 rfl rfl rfl <| w_f b315 d315_64 rfl rfl rfl <| w_f b315 d315_65 rfl rfl rfl <| w_icne b315 d315_66 rfl rfl (p315 _ _) hx2 ⟨by decide, by decide⟩ (fun c6 => w_f b315 d315_74 rfl rfl rfl <| w_f b315 d315_75 rfl rfl rfl <| w_f b315 d315_76 rfl rfl rfl <| w_f b315 d315_78 rfl rfl rfl <| w_f b315 d315_79 rfl (pf_iinc rfl rfl) rfl <| w_j b315 d315_82 rfl (p315 _ _) <| ((((h.2 c1).2.1 c3).2 c4).2.1 c6)) (fun c6 => w_f b315 d315_69 rfl rfl rfl <| w_j b315 d315_71 rfl (p315 _ _) <| w_f b315 d315_75 rfl rfl rfl <| w_f b315 d315_76 rfl rfl rfl <| w_f b315 d315_78 rfl rfl rfl <| w_f b315 d315_79 rfl (pf_iinc rfl rfl) rfl <| w_j b315 d315_82 rfl (p315 _ _) <| ((((h.2 c1).2.1 c3).2 c4).2.2 c6)))) (fun c3 => w_j b315 d315_45 rfl (p315 _ _) <| w_f b315 d315_79 rfl (pf_iinc rfl rfl) rfl <| w_j b315 d315_82 rfl (p315 _ _) <| ((h.2 c1).2.2 c3)))
/-! 316: PinBarrelModel.heard(II)I -/
theorem b316 : mB 316 = cX9_heard := rfl
theorem r316 : mR 316 = (some .int) := rfl
theorem p316 (a b : Nat) : phi 316 a ≤ phi 316 b := Nat.le_refl 0
theorem d316_0 : decode cX9_heard 0 = .ok (.aload_n 0, 1) := by decide +kernel
theorem d316_1 : decode cX9_heard 1 = .ok (.iload_n 2, 1) := by decide +kernel
theorem d316_2 : decode cX9_heard 2 = .ok (.i2l, 1) := by decide +kernel
theorem d316_3 : decode cX9_heard 3 = .ok (.lconst 0, 1) := by decide +kernel
theorem d316_4 : decode cX9_heard 4 = .ok (.ldc2_w 369, 3) := by decide +kernel
theorem d316_7 : decode cX9_heard 7 = .ok (.invokestatic 81, 3) := by decide +kernel
theorem d316_10 : decode cX9_heard 10 = .ok (.ifCond .ne 7, 3) := by decide +kernel
theorem d316_13 : decode cX9_heard 13 = .ok (.iconst 1, 1) := by decide +kernel
theorem d316_14 : decode cX9_heard 14 = .ok (.goto 4, 3) := by decide +kernel
theorem d316_17 : decode cX9_heard 17 = .ok (.iconst 0, 1) := by decide +kernel
theorem d316_18 : decode cX9_heard 18 = .ok (.invokevirtual 328, 3) := by decide +kernel
theorem d316_21 : decode cX9_heard 21 = .ok (.ifCond .eq 5, 3) := by decide +kernel
theorem d316_24 : decode cX9_heard 24 = .ok (.iconst 0, 1) := by decide +kernel
theorem d316_25 : decode cX9_heard 25 = .ok (.ireturn, 1) := by decide +kernel
theorem d316_26 : decode cX9_heard 26 = .ok (.iload_n 1, 1) := by decide +kernel
theorem d316_27 : decode cX9_heard 27 = .ok (.i2l, 1) := by decide +kernel
theorem d316_28 : decode cX9_heard 28 = .ok (.iconst 0, 1) := by decide +kernel
theorem d316_29 : decode cX9_heard 29 = .ok (.aload_n 0, 1) := by decide +kernel
theorem d316_30 : decode cX9_heard 30 = .ok (.getfield 9, 3) := by decide +kernel
theorem d316_33 : decode cX9_heard 33 = .ok (.bipush 9, 2) := by decide +kernel
theorem d316_35 : decode cX9_heard 35 = .ok (.iaload, 1) := by decide +kernel
theorem d316_36 : decode cX9_heard 36 = .ok (.bipush 100, 2) := by decide +kernel
theorem d316_38 : decode cX9_heard 38 = .ok (.isub, 1) := by decide +kernel
theorem d316_39 : decode cX9_heard 39 = .ok (.invokestatic 346, 3) := by decide +kernel
theorem d316_42 : decode cX9_heard 42 = .ok (.i2l, 1) := by decide +kernel
theorem d316_43 : decode cX9_heard 43 = .ok (.aload_n 0, 1) := by decide +kernel
theorem d316_44 : decode cX9_heard 44 = .ok (.getfield 9, 3) := by decide +kernel
theorem d316_47 : decode cX9_heard 47 = .ok (.bipush 9, 2) := by decide +kernel
theorem d316_49 : decode cX9_heard 49 = .ok (.iaload, 1) := by decide +kernel
theorem d316_50 : decode cX9_heard 50 = .ok (.iconst 1, 1) := by decide +kernel
theorem d316_51 : decode cX9_heard 51 = .ok (.isub, 1) := by decide +kernel
theorem d316_52 : decode cX9_heard 52 = .ok (.i2l, 1) := by decide +kernel
theorem d316_53 : decode cX9_heard 53 = .ok (.invokestatic 81, 3) := by decide +kernel
theorem d316_56 : decode cX9_heard 56 = .ok (.ifCond .ne 5, 3) := by decide +kernel
theorem d316_59 : decode cX9_heard 59 = .ok (.iconst (-1), 1) := by decide +kernel
theorem d316_60 : decode cX9_heard 60 = .ok (.ireturn, 1) := by decide +kernel
theorem d316_61 : decode cX9_heard 61 = .ok (.aload_n 0, 1) := by decide +kernel
theorem d316_62 : decode cX9_heard 62 = .ok (.getfield 9, 3) := by decide +kernel
theorem d316_65 : decode cX9_heard 65 = .ok (.sipush 443, 3) := by decide +kernel
theorem d316_68 : decode cX9_heard 68 = .ok (.iconst 4, 1) := by decide +kernel
theorem d316_69 : decode cX9_heard 69 = .ok (.iload_n 1, 1) := by decide +kernel
theorem d316_70 : decode cX9_heard 70 = .ok (.bipush 100, 2) := by decide +kernel
theorem d316_72 : decode cX9_heard 72 = .ok (.irem, 1) := by decide +kernel
theorem d316_73 : decode cX9_heard 73 = .ok (.imul, 1) := by decide +kernel
theorem d316_74 : decode cX9_heard 74 = .ok (.iadd, 1) := by decide +kernel
theorem d316_75 : decode cX9_heard 75 = .ok (.iload_n 2, 1) := by decide +kernel
theorem d316_76 : decode cX9_heard 76 = .ok (.iadd, 1) := by decide +kernel
theorem d316_77 : decode cX9_heard 77 = .ok (.iaload, 1) := by decide +kernel
theorem d316_78 : decode cX9_heard 78 = .ok (.ireturn, 1) := by decide +kernel
theorem v316_0 {w : PW} {Q : PO → PW → Prop} {x1 : Int} {x2 : Int} (hs : Sh w) (hx1 : bd x1) (hx2 : bd x2) (h : ((((0 : Int64)).toInt ≤ (i2L x2).toInt ∧ (i2L x2).toInt ≤ ((3 : Int64)).toInt) → ∀ w2 : PW, w2 = sI w 169 0 0 → (bd ((gI w2 170 9) - 100)) ∧ (((i2L (max 0 ((gI w2 170 9) - 100))).toInt ≤ (i2L x1).toInt ∧ (i2L x1).toInt ≤ (i2L ((gI w2 170 9) - 1)).toInt) → (0 ≤ ((443 + (4 * (x1.tmod 100))) + x2) ∧ ((443 + (4 * (x1.tmod 100))) + x2) < 843) ∧ Q (.inl (some (iv (gI w2 170 ((443 + (4 * (x1.tmod 100))) + x2).toNat)))) w2) ∧ ((¬ ((i2L (max 0 ((gI w2 170 9) - 100))).toInt ≤ (i2L x1).toInt ∧ (i2L x1).toInt ≤ (i2L ((gI w2 170 9) - 1)).toInt)) → Q (.inl (some (iv ((-1))))) w2)) ∧ ((¬ (((0 : Int64)).toInt ≤ (i2L x2).toInt ∧ (i2L x2).toInt ≤ ((3 : Int64)).toInt)) → ∀ w4 : PW, w4 = sI w 169 0 1 → Q (.inl (some (iv 0))) w4)) : pX 316 0 [some (.ref 169), some (iv x1), some (iv x2)] [] w Q :=
  w_f b316 d316_0 rfl rfl rfl <| w_f b316 d316_1 rfl rfl rfl <| w_f b316 d316_2 rfl rfl rfl <| w_f b316 d316_3 rfl rfl rfl <| w_ldcL b316 d316_4 rfl rfl <| w_cc b316 d316_7 rfl (pcl_s1 (n := 3) rfl rfl rfl (by decide +kernel) rfl rfl) rfl <| c221 hs <| w_ifneZ b316 d316_10 rfl rfl (p316 _ _) (fun c1 => w_f b316 d316_17 rfl rfl rfl <| w_cc b316 d316_18 rfl (pcl_v (n := 1) rfl rfl rfl (by decide +kernel) (sh_isOb hs (tlt 169 rfl) tbC_169) rfl rfl) rfl <| c245 hs ⟨by decide, by decide⟩ (by decide) <| w_ifeq b316 d316_21 rfl rfl (p316 _ _) ⟨by decide, by decide⟩ (fun _ => w_f b316 d316_26 rfl rfl rfl <| w_f b316 d316_27 rfl rfl rfl <| w_f b316 d316_28 rfl rfl rfl <| w_f b316 d316_29 rfl rfl rfl <| w_gr b316 d316_30 rfl rfl (Sh_sI hs (slt_o tbC_169 rfl)) (tlt 169 rfl) tbC_169 rfl (by decide) <| w_f b316 d316_33 rfl rfl rfl <| w_ial b316 d316_35 rfl (Sh_sI hs (slt_o tbC_169 rfl)) (tlt 170 rfl) tbC_170 (bdix (n := 843) ⟨by decide, by decide⟩ rfl) ⟨by decide, by decide⟩ <| w_f b316 d316_36 rfl rfl rfl <| w_f b316 d316_38 rfl (pf_isub _ 100) rfl <| w_max b316 d316_39 rfl rfl rfl ⟨by decide, by decide⟩ ((h.1 c1) _ rfl).1 <| w_f b316 d316_42 rfl rfl rfl <| w_f b316 d316_43 rfl rfl rfl <| w_gr b316 d316_44 rfl rfl (Sh_sI hs (slt_o tbC_169 rfl)) (tlt 169 rfl) tbC_169 rfl (by decide) <| w_f b316 d316_47 rfl rfl rfl <| w_ial b316 d316_49 rfl (Sh_sI hs (slt_o tbC_169 rfl)) (tlt 170 rfl) tbC_170 (bdix (n := 843) ⟨by decide, by decide⟩ rfl) ⟨by decide, by decide⟩ <| w_f b316 d316_50 rfl rfl rfl <| w_f b316 d316_51 rfl (pf_isub _ 1) rfl <| w_f b316 d316_52 rfl rfl rfl <| w_cc b316 d316_53 rfl (pcl_s1 (n := 3) rfl rfl rfl (by decide +kernel) rfl rfl) rfl <| c221 (Sh_sI hs (slt_o tbC_169 rfl)) <| w_ifneZ b316 d316_56 rfl rfl (p316 _ _) (fun c3 => w_f b316 d316_61 rfl rfl rfl <| w_gr b316 d316_62 rfl rfl (Sh_sI hs (slt_o tbC_169 rfl)) (tlt 169 rfl) tbC_169 rfl (by decide) <| w_f b316 d316_65 rfl rfl rfl <| w_f b316 d316_68 rfl rfl rfl <| w_f b316 d316_69 rfl rfl rfl <| w_f b316 d316_70 rfl rfl rfl <| w_f b316 d316_72 rfl (pf_irem hx1 ⟨by decide, by decide⟩) rfl <| w_f b316 d316_73 rfl (pf_imul 4 (x1.tmod 100)) rfl <| w_f b316 d316_74 rfl (pf_iadd 443 (4 * (x1.tmod 100))) rfl <| w_f b316 d316_75 rfl rfl rfl <| w_f b316 d316_76 rfl (pf_iadd (443 + (4 * (x1.tmod 100))) x2) rfl <| w_ial b316 d316_77 rfl (Sh_sI hs (slt_o tbC_169 rfl)) (tlt 170 rfl) tbC_170 (bdix (n := 843) (((h.1 c1) _ rfl).2.1 c3).1 rfl) (((h.1 c1) _ rfl).2.1 c3).1 <| w_ri b316 d316_78 r316 (((h.1 c1) _ rfl).2.1 c3).2) (fun c3 => w_f b316 d316_59 rfl rfl rfl <| w_ri b316 d316_60 r316 (((h.1 c1) _ rfl).2.2 c3))) (fun c => absurd c (by decide))) (fun c1 => w_f b316 d316_13 rfl rfl rfl <| w_j b316 d316_14 rfl (p316 _ _) <| w_cc b316 d316_18 rfl (pcl_v (n := 1) rfl rfl rfl (by decide +kernel) (sh_isOb hs (tlt 169 rfl) tbC_169) rfl rfl) rfl <| c245 hs ⟨by decide, by decide⟩ (by decide) <| w_ifeq b316 d316_21 rfl rfl (p316 _ _) ⟨by decide, by decide⟩ (fun c => absurd c (by decide)) (fun _ => w_f b316 d316_24 rfl rfl rfl <| w_ri b316 d316_25 r316 ((h.2 c1) _ rfl)))
theorem e316 {w : PW} {Q : PO → PW → Prop} {x1 : Int} {x2 : Int} (hs : Sh w) (hx1 : bd x1) (hx2 : bd x2) (h : ((((0 : Int64)).toInt ≤ (i2L x2).toInt ∧ (i2L x2).toInt ≤ ((3 : Int64)).toInt) → ∀ w2 : PW, w2 = sI w 169 0 0 → (bd ((gI w2 170 9) - 100)) ∧ (((i2L (max 0 ((gI w2 170 9) - 100))).toInt ≤ (i2L x1).toInt ∧ (i2L x1).toInt ≤ (i2L ((gI w2 170 9) - 1)).toInt) → (0 ≤ ((443 + (4 * (x1.tmod 100))) + x2) ∧ ((443 + (4 * (x1.tmod 100))) + x2) < 843) ∧ Q (.inl (some (iv (gI w2 170 ((443 + (4 * (x1.tmod 100))) + x2).toNat)))) w2) ∧ ((¬ ((i2L (max 0 ((gI w2 170 9) - 100))).toInt ≤ (i2L x1).toInt ∧ (i2L x1).toInt ≤ (i2L ((gI w2 170 9) - 1)).toInt)) → Q (.inl (some (iv ((-1))))) w2)) ∧ ((¬ (((0 : Int64)).toInt ≤ (i2L x2).toInt ∧ (i2L x2).toInt ≤ ((3 : Int64)).toInt)) → ∀ w4 : PW, w4 = sI w 169 0 1 → Q (.inl (some (iv 0))) w4)) : pC 316 [.ref 169, iv x1, iv x2] w Q :=
  (pC_in (Nat.le_of_ble_eq_true rfl) rfl Q).mpr (v316_0 hs hx1 hx2 h)
theorem l310_5 {w : PW} {Q : PO → PW → Prop} {u p : Int} {m : Row} (hs : Sh w) (hM : MR w m) (hu : bd u) (hp : bd p) (h : Q (.inl (some (iv (sUses m u p : Nat)))) w) : ∀ k i : Nat, i + k = (m 5).toNat → pX 310 5 [some (.ref 169), some (iv u), some (iv p), some (iv (cnt (fun z => decide (rN m z 0 = u ∧ rN m z 2 = p)) i : Nat)), some (iv (i : Nat))] [] w Q := by
  have h5 := hM.ok.n
  intro k
  induction k with
  | zero =>
    intro i hi 
    have hc := cnt_le (fun z => decide (rN m z 0 = u ∧ rN m z 2 = p)) i
    refine v310_5 hs hu hp (bdk (by omega)) (bdk (by omega)) ?_
    rw [hM.g (k := 5) rfl]
    refine ⟨fun _ => ?_, fun q => by omega⟩
    unfold sUses at h
    rw [show (m 5).toNat = i from by omega] at h
    exact h
  | succ k ih =>
    intro i hi 
    have hc := cnt_le (fun z => decide (rN m z 0 = u ∧ rN m z 2 = p)) i
    have := ih (i + 1) (by omega)
    refine v310_5 hs hu hp (bdk (by omega)) (bdk (by omega)) ?_
    rw [hM.g (k := 5) rfl, hM.N0 (by omega), hM.N2 (by omega)]
    refine ⟨fun q => by omega, fun _ => ⟨⟨by omega, by omega⟩, fun q => ?_, fun q => ⟨⟨by omega, by omega⟩, fun q2 => ?_, fun q2 => ?_⟩⟩⟩
    · rw [cnt_f (decide_eq_false (fun z => q z.1))] at this
      exact this
    · rw [cnt_f (decide_eq_false (fun z => q2 z.2))] at this
      exact this
    · rw [cnt_t (decide_eq_true ⟨q, q2⟩)] at this
      exact this
theorem c310 {w : PW} {Q : PO → PW → Prop} {m : Row} {u p : Int} (hs : Sh w) (hM : MR w m) (hu : bd u) (hp : bd p) (h : Q (.inl (some (iv (sUses m u p : Nat)))) w) : pC 310 [.ref 169, iv u, iv p] w Q :=
  e310 hs hu hp (l310_5 hs hM hu hp h _ 0 (Nat.zero_add _))
theorem l312_17 {w : PW} {Q : PO → PW → Prop} {u : Int} {m : Row} (hs : Sh w) (hM : MR w m) (hu : bd u) (h : Q (.inl (some (iv (sMostA m u 24).1))) w) : ∀ k i : Nat, i + k = 24 → ∀ o5 : Option Value, pc2 o5 = false → pX 312 17 [some (.ref 169), some (iv u), some (iv (sMostA m u i).1), some (iv (sMostA m u i).2), some (iv (i : Nat)), o5] [] w Q := by
  intro k
  induction k with
  | zero =>
    intro i hi o5 ho
    have hb := sMostA_bd hM.ok u i
    refine v312_17 hs hu ⟨by omega, by omega⟩ (bdk (by omega)) (bdk (by omega)) ho ⟨fun _ => ?_, fun q => by omega⟩
    rw [show 24 = i from by omega] at h
    exact h
  | succ k ih =>
    intro i hi o5 ho
    have hb := sMostA_bd hM.ok u i
    have hul := sUses_le hM.ok u i
    refine v312_17 hs hu ⟨by omega, by omega⟩ (bdk (by omega)) (bdk (by omega)) ho ⟨fun q => by omega, fun _ => c310 hs hM hu (bdk (by omega)) (kI_iv (bdk (by omega)) ⟨hs, fun q => ?_, fun q => ?_⟩)⟩
    · have e : sMostA m u (i + 1) = ((i : Int), sUses m u i) := if_pos (by omega)
      have := ih (i + 1) (by omega) (some (iv (sUses m u i : Nat))) rfl
      rw [e] at this
      exact this
    · have e : sMostA m u (i + 1) = sMostA m u i := if_neg (by omega)
      have := ih (i + 1) (by omega) (some (iv (sUses m u i : Nat))) rfl
      rw [e] at this
      exact this
theorem tmod_row {a f S : Int} (ha : 0 ≤ a ∧ a < S) (hf : 0 ≤ f ∧ f < S) : (a - f + S).tmod S = if a - f < 0 then a - f + S else a - f := by
  rw [Int.tmod_eq_emod_of_nonneg (by omega)]
  split
  · exact Int.emod_eq_of_lt (by omega) (by omega)
  · rw [Int.add_emod_right]
    exact Int.emod_eq_of_lt (by omega) (by omega)
theorem l313_6 {w : PW} {Q : PO → PW → Prop} {m : Row} {u p f k0 : Int} (hs : Sh w) (hM : MR w m) (hu : bd u) (hp : bd p) (hf : 0 ≤ f ∧ f < m 0) (hk : bd k0) (h : Q (.inl (some (iv (sInRow m u p f k0 : Nat)))) w) : ∀ k i : Nat, i + k = (m 5).toNat → pX 313 6 [some (.ref 169), some (iv u), some (iv p), some (iv f), some (iv k0), some (iv (cnt (sRowP m u p f k0) i : Nat)), some (iv (i : Nat))] [] w Q := by
  have h5 := hM.ok.n
  have h0 := hM.ok.s
  intro k
  induction k with
  | zero =>
    intro i hi 
    have hc := cnt_le (sRowP m u p f k0) i
    refine v313_6 hs hu hp ⟨by omega, by omega⟩ hk (bdk (by omega)) (bdk (by omega)) ?_
    rw [hM.g (k := 5) rfl]
    refine ⟨fun _ => ?_, fun q => by omega⟩
    unfold sInRow at h
    rw [show (m 5).toNat = i from by omega] at h
    exact h
  | succ k ih =>
    intro i hi 
    have hc := cnt_le (sRowP m u p f k0) i
    have hN := (hM.ok.N (i := i) (by omega)).2.1
    have := ih (i + 1) (by omega)
    refine v313_6 hs hu hp ⟨by omega, by omega⟩ hk (bdk (by omega)) (bdk (by omega)) ?_
    rw [hM.g (k := 5) rfl, hM.g (k := 0) rfl, hM.N0 (by omega), hM.N1 (by omega), hM.N2 (by omega), tmod_row hN hf]
    have e : sRowP m u p f k0 i = (decide (rN m i 0 = u ∧ rN m i 2 = p) && decide ((if rN m i 1 - f < 0 then rN m i 1 - f + m 0 else rN m i 1 - f) < k0)) := rfl
    refine ⟨fun q => by omega, fun _ => ⟨⟨by omega, by omega⟩, fun q => ?_, fun q => ⟨⟨by omega, by omega⟩, fun q2 => ⟨⟨by omega, by omega⟩, ⟨by omega, by omega⟩, ⟨by omega, by omega⟩, by split <;> exact ⟨by omega, by omega⟩, fun q3 => ?_, fun q3 => ?_⟩, fun q2 => ?_⟩⟩⟩
    · rw [cnt_f (by rw [e, decide_eq_false (fun z => q z.1), Bool.false_and])] at this
      exact this
    · rw [cnt_f (by rw [e, decide_eq_false (p := _ < k0) (by omega), Bool.and_false])] at this
      exact this
    · rw [cnt_t (by rw [e, decide_eq_true (p := _ < k0) q3, decide_eq_true ⟨q, q2⟩]; rfl)] at this
      exact this
    · rw [cnt_f (by rw [e, decide_eq_false (fun z => q2 z.2), Bool.false_and])] at this
      exact this
theorem c313 {w : PW} {Q : PO → PW → Prop} {m : Row} {u p f k0 : Int} (hs : Sh w) (hM : MR w m) (hu : bd u) (hp : bd p) (hf : 0 ≤ f ∧ f < m 0) (hk : bd k0) (h : Q (.inl (some (iv (sInRow m u p f k0 : Nat)))) w) : pC 313 [.ref 169, iv u, iv p, iv f, iv k0] w Q := by
  have h0 := hM.ok.s
  exact e313 hs hu hp ⟨by omega, by omega⟩ hk (l313_6 hs hM hu hp hf hk h _ 0 (Nat.zero_add _))
theorem l314_47 {w : PW} {Q : PO → PW → Prop} {u p x3 : Int} {m : Row} (hs : Sh w) (hM : MR w m) (hu : bd u) (hp : bd p) (hx3 : bd x3) (h : Q (.inl (some (iv (sCrwA m u p x3 (m 0).toNat)))) w) : ∀ k i : Nat, i + k = (m 0).toNat → pX 314 47 [some (.ref 169), some (iv u), some (iv p), some (iv x3), some (iv (sCrwA m u p x3 i)), some (iv (i : Nat))] [] w Q := by
  have h0 := hM.ok.s
  intro k
  induction k with
  | zero =>
    intro i hi 
    have hb := sCrwA_bd hM.ok u p x3 i
    refine v314_47 hs hu hp hx3 ⟨by omega, by omega⟩ (bdk (by omega)) ?_
    rw [hM.g (k := 0) rfl]
    refine ⟨fun _ => ?_, fun q => by omega⟩
    rw [show (m 0).toNat = i from by omega] at h
    exact h
  | succ k ih =>
    intro i hi 
    have hb := sCrwA_bd hM.ok u p x3 i
    have hul := sInRow_le hM.ok u p i x3
    refine v314_47 hs hu hp hx3 ⟨by omega, by omega⟩ (bdk (by omega)) ?_
    rw [hM.g (k := 0) rfl]
    exact ⟨fun q => by omega, fun _ => c313 hs hM hu hp ⟨by omega, by omega⟩ hx3 (kI_iv (bdk (by omega)) ⟨hs, ih (i + 1) (by omega)⟩)⟩
section MQ6
variable {w w2 : PW} {Q : PO → PW → Prop} {m : Row} {x1 x2 x3 : Int} {u : Nat}
theorem sCrwA_min (hR : RowOK m) (a p k : Int) : ∀ n : Nat, n ≤ (m 0).toNat → sCrwA m a p (min k (m 0)) n = sCrwA m a p k n := by
  have h0 := hR.s
  have h5 := hR.n
  intro n
  induction n with
  | zero => intro _; rfl
  | succ n ih =>
    intro hn
    unfold sCrwA
    rw [ih (by omega)]
    have e : sInRow m a p n (min k (m 0)) = sInRow m a p n k := by
      unfold sInRow
      refine cnt_congr (fun i hi => ?_)
      unfold sRowP
      have hN := (hR.N (i := i) (by omega)).2.1
      have e2 : ((if rN m i 1 - (n : Int) < 0 then rN m i 1 - (n : Int) + m 0 else rN m i 1 - (n : Int)) < min k (m 0)) ↔ ((if rN m i 1 - (n : Int) < 0 then rN m i 1 - (n : Int) + m 0 else rN m i 1 - (n : Int)) < k) := by
        split <;> omega
      rw [decide_eq_decide.mpr e2]
    rw [e]
theorem c311 (hs : Sh w) (hM : MR w m) (hx1 : bd x1) (hx2 : bd x2) (h : ∀ w2, MqF w w2 → gI w2 169 0 = moE (sp147 m x1 x2) → Q (moV (sp147 m x1 x2)) w2) : pC 311 [.ref 169, iv x1, iv x2] w Q := by
  have h1 := hM.ok.u
  have := sUses_le hM.ok x1 x2
  refine e311 hs hx1 hx2 ?_
  rw [hM.g (k := 1) rfl]
  refine ⟨⟨by omega, by omega⟩, (moG hs (by decide) h).2, fun q => ⟨fun q2 w4 e4 => ?_, (moG hs (by decide) (mo_t h q)).2⟩⟩
  obtain ⟨F4, g4, h4⟩ := (moG hs (by decide) (mo_t h q)).1 q2 w4 e4
  exact c310 F4.1 (F4.mr hM) hx1 hx2 (kI_iv (bdk (by omega)) ⟨F4.1, moI h4 g4 w4 (MF.rf F4.1)⟩)
theorem c312 (hs : Sh w) (hM : MR w m) (hx1 : bd x1) (h : ∀ w2, MqF w w2 → gI w2 169 0 = moE (sp149 m x1) → Q (moV (sp149 m x1)) w2) : pC 312 [.ref 169, iv x1] w Q := by
  have h1 := hM.ok.u
  refine e312 hs hx1 ?_
  rw [hM.g (k := 1) rfl]
  refine ⟨⟨by omega, by omega⟩, fun q w2 e2 => ?_, (moG hs (by decide) h).2⟩
  obtain ⟨F2, g2, h2⟩ := (moG hs (by decide) h).1 q w2 e2
  exact l312_17 F2.1 (F2.mr hM) hx1 (moI h2 g2 w2 (MF.rf F2.1)) 24 0 rfl none rfl
theorem c314 (hs : Sh w) (hM : MR w m) (hx1 : bd x1) (hx2 : bd x2) (hx3 : bd x3) (h : ∀ w2, MqF w w2 → gI w2 169 0 = moE (sp152 m x1 x2 x3) → Q (moV (sp152 m x1 x2 x3)) w2) : pC 314 [.ref 169, iv x1, iv x2, iv x3] w Q := by
  have h1 := hM.ok.u
  refine e314 hs hx1 hx2 hx3 ?_
  rw [hM.g (k := 1) rfl, i2L_toInt hx3, show (1 : Int64).toInt = 1 from by decide, show (64 : Int64).toInt = 64 from by decide]
  refine ⟨⟨by omega, by omega⟩, (moG hs (by decide) h).2, fun q => ⟨(moG hs (by decide) (mo_t h q)).2, fun q2 => ⟨fun q3 w6 e6 => ?_, (moG hs (by decide) (mo_t (mo_t h q) q2)).2⟩⟩⟩
  obtain ⟨F6, g6, h6⟩ := (moG hs (by decide) (mo_t (mo_t h q) q2)).1 q3 w6 e6
  have := moI h6 g6 w6 (MF.rf F6.1)
  rw [sCrwA_min hM.ok x1 x2 x3 _ (Nat.le_refl _)] at this
  exact l314_47 F6.1 (F6.mr hM) hx1 hx2 hx3 this _ 0 (Nat.zero_add _)
theorem c316 (hs : Sh w) (hM : MR w m) (hx1 : bd x1) (hx2 : bd x2) (h : ∀ w2, MqF w w2 → gI w2 169 0 = moE (sp158 m x1 x2) → Q (moV (sp158 m x1 x2)) w2) : pC 316 [.ref 169, iv x1, iv x2] w Q := by
  have h8 := hM.ok.pt
  have h9 := hM.ok.pp
  refine e316 hs hx1 hx2 ?_
  rw [i2L_toInt hx2, show (0 : Int64).toInt = 0 from by decide, show (3 : Int64).toInt = 3 from by decide]
  refine ⟨fun q w2 e2 => ?_, (moG hs (by decide) h).2⟩
  obtain ⟨F2, g2, h2⟩ := (moG hs (by decide) h).1 q w2 e2
  have hM2 := F2.mr hM
  have h3 := moI h2 g2 w2 (MF.rf F2.1)
  unfold sHeard at h3
  rw [hM2.g (k := 9) rfl, i2L_toInt hx1, i2L_toInt ⟨by omega, by omega⟩, i2L_toInt ⟨by omega, by omega⟩]
  refine ⟨⟨by omega, by omega⟩, fun q2 => ?_, fun q2 => ?_⟩
  · have e : x1.tmod 100 = ((x1.toNat % 100 : Nat) : Int) := by rw [Int.tmod_eq_emod_of_nonneg (by omega)]; omega
    rw [e]
    refine ⟨⟨by omega, by omega⟩, ?_⟩
    rw [hM2.i (n := 443 + 4 * (x1.toNat % 100) + x2.toNat) (by omega) (by omega)]
    rw [if_pos (by omega)] at h3
    exact h3
  · rw [if_neg (by omega)] at h3
    exact h3
/-- a set is empty where the tune has no pin -/
theorem cell_0 (hR : RowOK m) {s : Nat} (hu : (u : Int) < m 1) (hS : (s : Int) < m 0) : (m (251 + 64 * u + s) = 0 → sHasS m u s = false) ∧ (m (251 + 64 * u + s) ≠ 0 → sHasS m u s = true) := by
  have hp := hR.P hu hS
  have h4 := hR.t
  refine ⟨fun z => ?_, fun z => ?_⟩
  · unfold sHasS
    rw [show cnt (fun t => rPin m u s t) (m 4).toNat = 0 from cnt_zero (fun t _ => by unfold rPin; rw [z, tI_0])]
    rfl
  · unfold sHasS
    refine decide_eq_true (Nat.pos_of_ne_zero (fun c => z (tI_ext hp.1 bd0 (fun t ht => ?_))))
    rw [tI_0]
    cases q : tI (m (251 + 64 * u + s)) t with
    | false => rfl
    | true =>
      have h1 := hp.2 t ht q
      have := cnt_pos (P := fun t => rPin m u s t) (n := (m 4).toNat) (i := t) (by omega) q
      omega
theorem sSilA_cut {a b : Nat} (h : a ≤ b) (hz : ∀ s, a ≤ s → s < b → sHasS m u s = false) : sSilA m u b = sSilA m u a := by
  induction b with
  | zero => rw [show a = 0 from by omega]
  | succ b ih =>
    by_cases q : a = b + 1
    · rw [q]
    · rw [show sSilA m u (b + 1) = sSilA m u b from if_neg (by rw [hz b (by omega) (by omega)]; exact Bool.false_ne_true)]
      exact ih (by omega) (fun s h1 h2 => hz s h1 (by omega))
theorem sSilA_last {l n : Nat} (h : l < n) (hl : sHasS m u l = true) (hz : ∀ s, l < s → s < n → sHasS m u s = false) : sSilA m u n = max (sSilA m u l) (sWyS m u l : Nat) := by
  rw [sSilA_cut (a := l + 1) (by omega) (fun s h1 h2 => hz s (by omega) h2)]
  exact if_pos hl
/-- where the loop of silence stands -/
def SiI (m : Row) (u i : Nat) (a b c : Int) : Prop := ((∀ s, s < i → sHasS m u s = false) ∧ a = -1 ∧ b = -1 ∧ c = -1) ∨ ∃ f l : Nat, f ≤ l ∧ l < i ∧ sHasS m u f = true ∧ sHasS m u l = true ∧ (∀ s, s < f → sHasS m u s = false) ∧ (∀ s, l < s → s < i → sHasS m u s = false) ∧ a = f ∧ b = l ∧ c = sSilA m u l
theorem l315_20 (hs : Sh w) (hM : MR w m) (hu : (u : Int) < m 1) (h : Q (.inl (some (iv (sSilA m u (m 0).toNat)))) w) : ∀ k i : Nat, i + k = (m 0).toNat → ∀ a b c : Int, SiI m u i a b c → pX 315 20 [some (.ref 169), some (iv (u : Nat)), some (iv a), some (iv b), some (iv c), some (iv (i : Nat))] [] w Q := by
  have h0 := hM.ok.s
  have h1 := hM.ok.u
  have hsb := fun l => sSilA_bd hM.ok u l
  intro k
  induction k with
  | zero =>
    intro i hi a b c hI
    rcases hI with ⟨hz, rfl, rfl, rfl⟩ | ⟨f, l, hfl, hli, hf, hl, hzf, hzl, rfl, rfl, rfl⟩
    · refine v315_20 hs (bdk (by omega)) ⟨by decide, by decide⟩ ⟨by decide, by decide⟩ ⟨by decide, by decide⟩ (bdk (by omega)) ?_
      rw [hM.g (k := 0) rfl]
      refine ⟨fun _ => ⟨fun z => absurd rfl z, fun _ => ?_⟩, fun q => by omega⟩
      rw [sSilA_cut (a := 0) (Nat.zero_le _) (fun s _ h2 => hz s (by omega))] at h
      exact h
    · have hb := hsb l
      have hw : wayI (m 0) (l : Nat) (f : Nat) = (sWyS m u l : Nat) := by
        have e : sWyS m u l = if f = l then (m 0).toNat else f + (m 0).toNat - l := by
          unfold sWyS
          by_cases q : f = l
          · rw [if_pos q, fnd_eq (i := (m 0).toNat - 1) (fun j hj => ?_) (fun z => absurd z (by omega)) (Nat.le_refl _)]
            · omega
            · unfold wN
              split
              · exact hzl _ (by omega) (by omega)
              · exact hzf _ (by omega)
          · rw [if_neg q, fnd_eq (i := f + (m 0).toNat - l - 1) (fun j hj => ?_) (fun _ => ?_) (by omega)]
            · omega
            · unfold wN
              split
              · exact hzl _ (by omega) (by omega)
              · exact hzf _ (by omega)
            · unfold wN
              rw [if_neg (by omega), show l + (f + (m 0).toNat - l - 1 + 1) - (m 0).toNat = f from by omega]
              exact hf
        rw [e]
        unfold wayI
        split <;> split <;> omega
      refine v315_20 hs (bdk (by omega)) (bdk (by omega)) (bdk (by omega)) ⟨by omega, by omega⟩ (bdk (by omega)) ?_
      rw [hM.g (k := 0) rfl, hw]
      have hwl := sWyS_le hM.ok u l
      refine ⟨fun _ => ⟨fun _ => ⟨⟨by omega, by omega⟩, ⟨by omega, by omega⟩, ⟨by omega, by omega⟩, bdk (by omega), ?_⟩, fun z => by omega⟩, fun q => by omega⟩
      rw [sSilA_last (l := l) (by omega) hl (fun s h1 h2 => hzl s h1 (by omega))] at h
      exact h
  | succ k ih =>
    intro i hi a b c hI
    have hc := cell_0 hM.ok (s := i) hu (by omega)
    have hno : sHasS m u i = false → SiI m u (i + 1) a b c := fun q => by
      rcases hI with ⟨hz, e1, e2, e3⟩ | ⟨f, l, hfl, hli, hf, hl, hzf, hzl, e1, e2, e3⟩
      · refine Or.inl ⟨fun s hs => ?_, e1, e2, e3⟩
        by_cases e : s = i
        · rw [e]; exact q
        · exact hz s (by omega)
      · refine Or.inr ⟨f, l, hfl, by omega, hf, hl, hzf, fun s h1 h2 => ?_, e1, e2, e3⟩
        by_cases e : s = i
        · rw [e]; exact q
        · exact hzl s h1 (by omega)
    have hx : bd a ∧ bd b ∧ bd c := by
      rcases hI with ⟨hz, e1, e2, e3⟩ | ⟨f, l, hfl, hli, hf, hl, hzf, hzl, e1, e2, e3⟩
      · rw [e1, e2, e3]; exact ⟨⟨by decide, by decide⟩, ⟨by decide, by decide⟩, ⟨by decide, by decide⟩⟩
      · have := hsb l
        exact ⟨⟨by omega, by omega⟩, ⟨by omega, by omega⟩, ⟨by omega, by omega⟩⟩
    refine v315_20 hs (bdk (by omega)) hx.1 hx.2.1 hx.2.2 (bdk (by omega)) ?_
    rw [hM.g (k := 0) rfl, hM.pin (by omega) (by omega)]
    refine ⟨fun q => by omega, fun _ => ⟨⟨by omega, by omega⟩, fun q => ?_, fun q => ih (i + 1) (by omega) a b c (hno (hc.1 q))⟩⟩
    have hq := hc.2 q
    rcases hI with ⟨hz, rfl, rfl, rfl⟩ | ⟨f, l, hfl, hli, hf, hl, hzf, hzl, rfl, rfl, rfl⟩
    · refine ⟨fun _ => ⟨fun z => absurd rfl z, fun _ => ih (i + 1) (by omega) (i : Nat) (i : Nat) (-1) (Or.inr ⟨i, i, Nat.le_refl _, by omega, hq, hq, hz, fun s h1 h2 => by omega, rfl, rfl, ?_⟩)⟩, fun z => absurd rfl z⟩
      exact (sSilA_cut (a := 0) (Nat.zero_le _) (fun s _ h2 => hz s h2)).symm
    · have hb := hsb l
      have e : sWyS m u l = i - l := by
        unfold sWyS
        rw [fnd_eq (i := i - l - 1) (fun j hj => ?_) (fun _ => ?_) (by omega)]
        · omega
        · unfold wN
          rw [if_pos (by omega)]
          exact hzl _ (by omega) (by omega)
        · unfold wN
          rw [if_pos (by omega), show l + (i - l - 1 + 1) = i from by omega]
          exact hq
      refine ⟨fun z => by omega, fun _ => ⟨⟨by omega, by omega⟩, fun _ => ih (i + 1) (by omega) (f : Nat) (i : Nat) _ (Or.inr ⟨f, i, by omega, by omega, hf, hq, hzf, fun s h1 h2 => by omega, rfl, rfl, ?_⟩), fun z => by omega⟩⟩
      rw [sSilA_last (l := l) hli hl hzl, e, show ((i - l : Nat) : Int) = (i : Int) - (l : Int) from by omega]
theorem c315 (hs : Sh w) (hM : MR w m) (hx1 : bd x1) (h : ∀ w2, MqF w w2 → gI w2 169 0 = moE (sp155 m x1) → Q (moV (sp155 m x1)) w2) : pC 315 [.ref 169, iv x1] w Q := by
  have h1 := hM.ok.u
  refine e315 hs hx1 ?_
  rw [hM.g (k := 1) rfl]
  refine ⟨⟨by omega, by omega⟩, fun q w2 e2 => ?_, (moG hs (by decide) h).2⟩
  obtain ⟨F2, g2, h2⟩ := (moG hs (by decide) h).1 q w2 e2
  have h3 := moI h2 g2 w2 (MF.rf F2.1)
  obtain ⟨u, rfl⟩ := nat_of q.1
  rw [Int.toNat_natCast] at h3
  exact l315_20 F2.1 (F2.mr hM) q.2 h3 _ 0 (Nat.zero_add _) (-1) (-1) (-1) (Or.inl ⟨fun s hs => absurd hs (Nat.not_lt_zero _), rfl, rfl, rfl⟩)
end MQ6
