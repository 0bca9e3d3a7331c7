/-! THE MODEL's SEARCH: the order of the notes, the next tooth, other tunes -/
/-! 293: PinBarrelModel.isAhead(II)Z -/
theorem b293 : mB 293 = cX9_isAhead := rfl
theorem r293 : mR 293 = (some .boolean) := rfl
theorem p293 (a b : Nat) : phi 293 a ≤ phi 293 b := Nat.le_refl 0
theorem d293_0 : decode cX9_isAhead 0 = .ok (.aload_n 0, 1) := by decide +kernel
theorem d293_1 : decode cX9_isAhead 1 = .ok (.iload_n 1, 1) := by decide +kernel
theorem d293_2 : decode cX9_isAhead 2 = .ok (.iconst 1, 1) := by decide +kernel
theorem d293_3 : decode cX9_isAhead 3 = .ok (.invokevirtual 283, 3) := by decide +kernel
theorem d293_6 : decode cX9_isAhead 6 = .ok (.aload_n 0, 1) := by decide +kernel
theorem d293_7 : decode cX9_isAhead 7 = .ok (.iload_n 2, 1) := by decide +kernel
theorem d293_8 : decode cX9_isAhead 8 = .ok (.iconst 1, 1) := by decide +kernel
theorem d293_9 : decode cX9_isAhead 9 = .ok (.invokevirtual 283, 3) := by decide +kernel
theorem d293_12 : decode cX9_isAhead 12 = .ok (.if_icmp .eq 24, 3) := by decide +kernel
theorem d293_15 : decode cX9_isAhead 15 = .ok (.aload_n 0, 1) := by decide +kernel
theorem d293_16 : decode cX9_isAhead 16 = .ok (.iload_n 1, 1) := by decide +kernel
theorem d293_17 : decode cX9_isAhead 17 = .ok (.iconst 1, 1) := by decide +kernel
theorem d293_18 : decode cX9_isAhead 18 = .ok (.invokevirtual 283, 3) := by decide +kernel
theorem d293_21 : decode cX9_isAhead 21 = .ok (.aload_n 0, 1) := by decide +kernel
theorem d293_22 : decode cX9_isAhead 22 = .ok (.iload_n 2, 1) := by decide +kernel
theorem d293_23 : decode cX9_isAhead 23 = .ok (.iconst 1, 1) := by decide +kernel
theorem d293_24 : decode cX9_isAhead 24 = .ok (.invokevirtual 283, 3) := by decide +kernel
theorem d293_27 : decode cX9_isAhead 27 = .ok (.if_icmp .ge 7, 3) := by decide +kernel
theorem d293_30 : decode cX9_isAhead 30 = .ok (.iconst 1, 1) := by decide +kernel
theorem d293_31 : decode cX9_isAhead 31 = .ok (.goto 4, 3) := by decide +kernel
theorem d293_34 : decode cX9_isAhead 34 = .ok (.iconst 0, 1) := by decide +kernel
theorem d293_35 : decode cX9_isAhead 35 = .ok (.ireturn, 1) := by decide +kernel
theorem d293_36 : decode cX9_isAhead 36 = .ok (.aload_n 0, 1) := by decide +kernel
theorem d293_37 : decode cX9_isAhead 37 = .ok (.iload_n 1, 1) := by decide +kernel
theorem d293_38 : decode cX9_isAhead 38 = .ok (.iconst 2, 1) := by decide +kernel
theorem d293_39 : decode cX9_isAhead 39 = .ok (.invokevirtual 283, 3) := by decide +kernel
theorem d293_42 : decode cX9_isAhead 42 = .ok (.aload_n 0, 1) := by decide +kernel
theorem d293_43 : decode cX9_isAhead 43 = .ok (.iload_n 2, 1) := by decide +kernel
theorem d293_44 : decode cX9_isAhead 44 = .ok (.iconst 2, 1) := by decide +kernel
theorem d293_45 : decode cX9_isAhead 45 = .ok (.invokevirtual 283, 3) := by decide +kernel
theorem d293_48 : decode cX9_isAhead 48 = .ok (.if_icmp .eq 24, 3) := by decide +kernel
theorem d293_51 : decode cX9_isAhead 51 = .ok (.aload_n 0, 1) := by decide +kernel
theorem d293_52 : decode cX9_isAhead 52 = .ok (.iload_n 1, 1) := by decide +kernel
theorem d293_53 : decode cX9_isAhead 53 = .ok (.iconst 2, 1) := by decide +kernel
theorem d293_54 : decode cX9_isAhead 54 = .ok (.invokevirtual 283, 3) := by decide +kernel
theorem d293_57 : decode cX9_isAhead 57 = .ok (.aload_n 0, 1) := by decide +kernel
theorem d293_58 : decode cX9_isAhead 58 = .ok (.iload_n 2, 1) := by decide +kernel
theorem d293_59 : decode cX9_isAhead 59 = .ok (.iconst 2, 1) := by decide +kernel
theorem d293_60 : decode cX9_isAhead 60 = .ok (.invokevirtual 283, 3) := by decide +kernel
theorem d293_63 : decode cX9_isAhead 63 = .ok (.if_icmp .ge 7, 3) := by decide +kernel
theorem d293_66 : decode cX9_isAhead 66 = .ok (.iconst 1, 1) := by decide +kernel
theorem d293_67 : decode cX9_isAhead 67 = .ok (.goto 4, 3) := by decide +kernel
theorem d293_70 : decode cX9_isAhead 70 = .ok (.iconst 0, 1) := by decide +kernel
theorem d293_71 : decode cX9_isAhead 71 = .ok (.ireturn, 1) := by decide +kernel
theorem d293_72 : decode cX9_isAhead 72 = .ok (.iload_n 1, 1) := by decide +kernel
theorem d293_73 : decode cX9_isAhead 73 = .ok (.iload_n 2, 1) := by decide +kernel
theorem d293_74 : decode cX9_isAhead 74 = .ok (.if_icmp .ge 7, 3) := by decide +kernel
theorem d293_77 : decode cX9_isAhead 77 = .ok (.iconst 1, 1) := by decide +kernel
theorem d293_78 : decode cX9_isAhead 78 = .ok (.goto 4, 3) := by decide +kernel
theorem d293_81 : decode cX9_isAhead 81 = .ok (.iconst 0, 1) := by decide +kernel
theorem d293_82 : decode cX9_isAhead 82 = .ok (.ireturn, 1) := by decide +kernel
theorem v293_0 {w : PW} {Q : PO → PW → Prop} {x1 : Int} {x2 : Int} (hs : Sh w) (hx1 : bd x1) (hx2 : bd x2) (h : (0 ≤ (71 + 3 * x1) + 1 ∧ (71 + 3 * x1) + 1 < 843) ∧ (0 ≤ (71 + 3 * x2) + 1 ∧ (71 + 3 * x2) + 1 < 843) ∧ ((gI w 170 ((71 + 3 * x1) + 1).toNat) = (gI w 170 ((71 + 3 * x2) + 1).toNat) → (0 ≤ (71 + 3 * x1) + 2 ∧ (71 + 3 * x1) + 2 < 843) ∧ (0 ≤ (71 + 3 * x2) + 2 ∧ (71 + 3 * x2) + 2 < 843) ∧ ((gI w 170 ((71 + 3 * x1) + 2).toNat) = (gI w 170 ((71 + 3 * x2) + 2).toNat) → (x2 ≤ x1 → Q (.inl (some (iv 0))) w) ∧ (x1 < x2 → Q (.inl (some (iv 1))) w)) ∧ ((gI w 170 ((71 + 3 * x1) + 2).toNat) ≠ (gI w 170 ((71 + 3 * x2) + 2).toNat) → (0 ≤ (71 + 3 * x1) + 2 ∧ (71 + 3 * x1) + 2 < 843) ∧ (0 ≤ (71 + 3 * x2) + 2 ∧ (71 + 3 * x2) + 2 < 843) ∧ ((gI w 170 ((71 + 3 * x2) + 2).toNat) ≤ (gI w 170 ((71 + 3 * x1) + 2).toNat) → Q (.inl (some (iv 0))) w) ∧ ((gI w 170 ((71 + 3 * x1) + 2).toNat) < (gI w 170 ((71 + 3 * x2) + 2).toNat) → Q (.inl (some (iv 1))) w))) ∧ ((gI w 170 ((71 + 3 * x1) + 1).toNat) ≠ (gI w 170 ((71 + 3 * x2) + 1).toNat) → (0 ≤ (71 + 3 * x1) + 1 ∧ (71 + 3 * x1) + 1 < 843) ∧ (0 ≤ (71 + 3 * x2) + 1 ∧ (71 + 3 * x2) + 1 < 843) ∧ ((gI w 170 ((71 + 3 * x2) + 1).toNat) ≤ (gI w 170 ((71 + 3 * x1) + 1).toNat) → Q (.inl (some (iv 0))) w) ∧ ((gI w 170 ((71 + 3 * x1) + 1).toNat) < (gI w 170 ((71 + 3 * x2) + 1).toNat) → Q (.inl (some (iv 1))) w))) : pX 293 0 [some (.ref 169), some (iv x1), some (iv x2)] [] w Q :=
  w_f b293 d293_0 rfl rfl rfl <| w_f b293 d293_1 rfl rfl rfl <| w_f b293 d293_2 rfl rfl rfl <| w_cc b293 d293_3 rfl (pcl_v (n := 2) rfl rfl rfl (by decide +kernel) (sh_isOb hs (tlt 169 rfl) tbC_169) rfl rfl) rfl <| c267 hs hx1 ⟨by decide, by decide⟩ h.1 <| w_f b293 d293_6 rfl rfl rfl <| w_f b293 d293_7 rfl rfl rfl <| w_f b293 d293_8 rfl rfl rfl <| w_cc b293 d293_9 rfl (pcl_v (n := 2) rfl rfl rfl (by decide +kernel) (sh_isOb hs (tlt 169 rfl) tbC_169) rfl rfl) rfl <| c267 hs hx2 ⟨by decide, by decide⟩ h.2.1 <| w_iceq b293 d293_12 rfl rfl (p293 _ _) (bd_gI _ _ _) (bd_gI _ _ _) (fun c1 => w_f b293 d293_36 rfl rfl rfl <| w_f b293 d293_37 rfl rfl rfl <| w_f b293 d293_38 rfl rfl rfl <| w_cc b293 d293_39 rfl (pcl_v (n := 2) rfl rfl rfl (by decide +kernel) (sh_isOb hs (tlt 169 rfl) tbC_169) rfl rfl) rfl <| c267 hs hx1 ⟨by decide, by decide⟩ (h.2.2.1 c1).1 <| w_f b293 d293_42 rfl rfl rfl <| w_f b293 d293_43 rfl rfl rfl <| w_f b293 d293_44 rfl rfl rfl <| w_cc b293 d293_45 rfl (pcl_v (n := 2) rfl rfl rfl (by decide +kernel) (sh_isOb hs (tlt 169 rfl) tbC_169) rfl rfl) rfl <| c267 hs hx2 ⟨by decide, by decide⟩ (h.2.2.1 c1).2.1 <| w_iceq b293 d293_48 rfl rfl (p293 _ _) (bd_gI _ _ _) (bd_gI _ _ _) (fun c2 => w_f b293 d293_72 rfl rfl rfl <| w_f b293 d293_73 rfl rfl rfl <| w_icge b293 d293_74 rfl rfl (p293 _ _) hx1 hx2 (fun c3 => w_f b293 d293_81 rfl rfl rfl <| w_rz b293 d293_82 r293 (by decide) (((h.2.2.1 c1).2.2.1 c2).1 c3)) (fun c3 => w_f b293 d293_77 rfl rfl rfl <| w_j b293 d293_78 rfl (p293 _ _) <| w_rz b293 d293_82 r293 (by decide) (((h.2.2.1 c1).2.2.1 c2).2 c3))) (fun c2 => w_f b293 d293_51 rfl rfl rfl <| w_f b293 d293_52 rfl rfl rfl <| w_f b293 d293_53 rfl rfl rfl <| w_cc b293 d293_54 rfl (pcl_v (n := 2) rfl rfl rfl (by decide +kernel) (sh_isOb hs (tlt 169 rfl) tbC_169) rfl rfl) rfl <| c267 hs hx1 ⟨by decide, by decide⟩ ((h.2.2.1 c1).2.2.2 c2).1 <| w_f b293 d293_57 rfl rfl rfl <| w_f b293 d293_58 rfl rfl rfl <| w_f b293 d293_59 rfl rfl rfl <| w_cc b293 d293_60 rfl (pcl_v (n := 2) rfl rfl rfl (by decide +kernel) (sh_isOb hs (tlt 169 rfl) tbC_169) rfl rfl) rfl <| c267 hs hx2 ⟨by decide, by decide⟩ ((h.2.2.1 c1).2.2.2 c2).2.1 <| w_icge b293 d293_63 rfl rfl (p293 _ _) (bd_gI _ _ _) (bd_gI _ _ _) (fun c4 => w_f b293 d293_70 rfl rfl rfl <| w_rz b293 d293_71 r293 (by decide) (((h.2.2.1 c1).2.2.2 c2).2.2.1 c4)) (fun c4 => w_f b293 d293_66 rfl rfl rfl <| w_j b293 d293_67 rfl (p293 _ _) <| w_rz b293 d293_71 r293 (by decide) (((h.2.2.1 c1).2.2.2 c2).2.2.2 c4)))) (fun c1 => w_f b293 d293_15 rfl rfl rfl <| w_f b293 d293_16 rfl rfl rfl <| w_f b293 d293_17 rfl rfl rfl <| w_cc b293 d293_18 rfl (pcl_v (n := 2) rfl rfl rfl (by decide +kernel) (sh_isOb hs (tlt 169 rfl) tbC_169) rfl rfl) rfl <| c267 hs hx1 ⟨by decide, by decide⟩ (h.2.2.2 c1).1 <| w_f b293 d293_21 rfl rfl rfl <| w_f b293 d293_22 rfl rfl rfl <| w_f b293 d293_23 rfl rfl rfl <| w_cc b293 d293_24 rfl (pcl_v (n := 2) rfl rfl rfl (by decide +kernel) (sh_isOb hs (tlt 169 rfl) tbC_169) rfl rfl) rfl <| c267 hs hx2 ⟨by decide, by decide⟩ (h.2.2.2 c1).2.1 <| w_icge b293 d293_27 rfl rfl (p293 _ _) (bd_gI _ _ _) (bd_gI _ _ _) (fun c5 => w_f b293 d293_34 rfl rfl rfl <| w_rz b293 d293_35 r293 (by decide) ((h.2.2.2 c1).2.2.1 c5)) (fun c5 => w_f b293 d293_30 rfl rfl rfl <| w_j b293 d293_31 rfl (p293 _ _) <| w_rz b293 d293_35 r293 (by decide) ((h.2.2.2 c1).2.2.2 c5)))
theorem e293 {w : PW} {Q : PO → PW → Prop} {x1 : Int} {x2 : Int} (hs : Sh w) (hx1 : bd x1) (hx2 : bd x2) (h : (0 ≤ (71 + 3 * x1) + 1 ∧ (71 + 3 * x1) + 1 < 843) ∧ (0 ≤ (71 + 3 * x2) + 1 ∧ (71 + 3 * x2) + 1 < 843) ∧ ((gI w 170 ((71 + 3 * x1) + 1).toNat) = (gI w 170 ((71 + 3 * x2) + 1).toNat) → (0 ≤ (71 + 3 * x1) + 2 ∧ (71 + 3 * x1) + 2 < 843) ∧ (0 ≤ (71 + 3 * x2) + 2 ∧ (71 + 3 * x2) + 2 < 843) ∧ ((gI w 170 ((71 + 3 * x1) + 2).toNat) = (gI w 170 ((71 + 3 * x2) + 2).toNat) → (x2 ≤ x1 → Q (.inl (some (iv 0))) w) ∧ (x1 < x2 → Q (.inl (some (iv 1))) w)) ∧ ((gI w 170 ((71 + 3 * x1) + 2).toNat) ≠ (gI w 170 ((71 + 3 * x2) + 2).toNat) → (0 ≤ (71 + 3 * x1) + 2 ∧ (71 + 3 * x1) + 2 < 843) ∧ (0 ≤ (71 + 3 * x2) + 2 ∧ (71 + 3 * x2) + 2 < 843) ∧ ((gI w 170 ((71 + 3 * x2) + 2).toNat) ≤ (gI w 170 ((71 + 3 * x1) + 2).toNat) → Q (.inl (some (iv 0))) w) ∧ ((gI w 170 ((71 + 3 * x1) + 2).toNat) < (gI w 170 ((71 + 3 * x2) + 2).toNat) → Q (.inl (some (iv 1))) w))) ∧ ((gI w 170 ((71 + 3 * x1) + 1).toNat) ≠ (gI w 170 ((71 + 3 * x2) + 1).toNat) → (0 ≤ (71 + 3 * x1) + 1 ∧ (71 + 3 * x1) + 1 < 843) ∧ (0 ≤ (71 + 3 * x2) + 1 ∧ (71 + 3 * x2) + 1 < 843) ∧ ((gI w 170 ((71 + 3 * x2) + 1).toNat) ≤ (gI w 170 ((71 + 3 * x1) + 1).toNat) → Q (.inl (some (iv 0))) w) ∧ ((gI w 170 ((71 + 3 * x1) + 1).toNat) < (gI w 170 ((71 + 3 * x2) + 1).toNat) → Q (.inl (some (iv 1))) w))) : pC 293 [.ref 169, iv x1, iv x2] w Q :=
  (pC_in (Nat.le_of_ble_eq_true rfl) rfl Q).mpr (v293_0 hs hx1 hx2 h)
/-! 294: PinBarrelModel.laysRow(I)V -/
theorem b294 : mB 294 = cX9_laysRow := rfl
theorem r294 : mR 294 = none := rfl
theorem p294 (a b : Nat) : phi 294 a ≤ phi 294 b := Nat.le_refl 0
theorem d294_0 : decode cX9_laysRow 0 = .ok (.aload_n 0, 1) := by decide +kernel
theorem d294_1 : decode cX9_laysRow 1 = .ok (.iconst 0, 1) := by decide +kernel
theorem d294_2 : decode cX9_laysRow 2 = .ok (.putfield 298, 3) := by decide +kernel
theorem d294_5 : decode cX9_laysRow 5 = .ok (.iconst 0, 1) := by decide +kernel
theorem d294_6 : decode cX9_laysRow 6 = .ok (.istore_n 2, 1) := by decide +kernel
theorem d294_7 : decode cX9_laysRow 7 = .ok (.iload_n 2, 1) := by decide +kernel
theorem d294_8 : decode cX9_laysRow 8 = .ok (.aload_n 0, 1) := by decide +kernel
theorem d294_9 : decode cX9_laysRow 9 = .ok (.getfield 9, 3) := by decide +kernel
theorem d294_12 : decode cX9_laysRow 12 = .ok (.iconst 5, 1) := by decide +kernel
theorem d294_13 : decode cX9_laysRow 13 = .ok (.iaload, 1) := by decide +kernel
theorem d294_14 : decode cX9_laysRow 14 = .ok (.if_icmp .ge 84, 3) := by decide +kernel
theorem d294_17 : decode cX9_laysRow 17 = .ok (.aload_n 0, 1) := by decide +kernel
theorem d294_18 : decode cX9_laysRow 18 = .ok (.iload_n 2, 1) := by decide +kernel
theorem d294_19 : decode cX9_laysRow 19 = .ok (.iconst 0, 1) := by decide +kernel
theorem d294_20 : decode cX9_laysRow 20 = .ok (.invokevirtual 283, 3) := by decide +kernel
theorem d294_23 : decode cX9_laysRow 23 = .ok (.iload_n 1, 1) := by decide +kernel
theorem d294_24 : decode cX9_laysRow 24 = .ok (.if_icmp .eq 6, 3) := by decide +kernel
theorem d294_27 : decode cX9_laysRow 27 = .ok (.goto 65, 3) := by decide +kernel
theorem d294_30 : decode cX9_laysRow 30 = .ok (.aload_n 0, 1) := by decide +kernel
theorem d294_31 : decode cX9_laysRow 31 = .ok (.getfield 298, 3) := by decide +kernel
theorem d294_34 : decode cX9_laysRow 34 = .ok (.istore_n 3, 1) := by decide +kernel
theorem d294_35 : decode cX9_laysRow 35 = .ok (.iload_n 3, 1) := by decide +kernel
theorem d294_36 : decode cX9_laysRow 36 = .ok (.ifCond .le 39, 3) := by decide +kernel
theorem d294_39 : decode cX9_laysRow 39 = .ok (.aload_n 0, 1) := by decide +kernel
theorem d294_40 : decode cX9_laysRow 40 = .ok (.iload_n 2, 1) := by decide +kernel
theorem d294_41 : decode cX9_laysRow 41 = .ok (.aload_n 0, 1) := by decide +kernel
theorem d294_42 : decode cX9_laysRow 42 = .ok (.getfield 34, 3) := by decide +kernel
theorem d294_45 : decode cX9_laysRow 45 = .ok (.iload_n 3, 1) := by decide +kernel
theorem d294_46 : decode cX9_laysRow 46 = .ok (.iconst 1, 1) := by decide +kernel
theorem d294_47 : decode cX9_laysRow 47 = .ok (.isub, 1) := by decide +kernel
theorem d294_48 : decode cX9_laysRow 48 = .ok (.iaload, 1) := by decide +kernel
theorem d294_49 : decode cX9_laysRow 49 = .ok (.invokevirtual 301, 3) := by decide +kernel
theorem d294_52 : decode cX9_laysRow 52 = .ok (.ifCond .eq 23, 3) := by decide +kernel
theorem d294_55 : decode cX9_laysRow 55 = .ok (.aload_n 0, 1) := by decide +kernel
theorem d294_56 : decode cX9_laysRow 56 = .ok (.getfield 34, 3) := by decide +kernel
theorem d294_59 : decode cX9_laysRow 59 = .ok (.iload_n 3, 1) := by decide +kernel
theorem d294_60 : decode cX9_laysRow 60 = .ok (.aload_n 0, 1) := by decide +kernel
theorem d294_61 : decode cX9_laysRow 61 = .ok (.getfield 34, 3) := by decide +kernel
theorem d294_64 : decode cX9_laysRow 64 = .ok (.iload_n 3, 1) := by decide +kernel
theorem d294_65 : decode cX9_laysRow 65 = .ok (.iconst 1, 1) := by decide +kernel
theorem d294_66 : decode cX9_laysRow 66 = .ok (.isub, 1) := by decide +kernel
theorem d294_67 : decode cX9_laysRow 67 = .ok (.iaload, 1) := by decide +kernel
theorem d294_68 : decode cX9_laysRow 68 = .ok (.iastore, 1) := by decide +kernel
theorem d294_69 : decode cX9_laysRow 69 = .ok (.iinc 3 (-1), 3) := by decide +kernel
theorem d294_72 : decode cX9_laysRow 72 = .ok (.goto (-37), 3) := by decide +kernel
theorem d294_75 : decode cX9_laysRow 75 = .ok (.aload_n 0, 1) := by decide +kernel
theorem d294_76 : decode cX9_laysRow 76 = .ok (.getfield 34, 3) := by decide +kernel
theorem d294_79 : decode cX9_laysRow 79 = .ok (.iload_n 3, 1) := by decide +kernel
theorem d294_80 : decode cX9_laysRow 80 = .ok (.iload_n 2, 1) := by decide +kernel
theorem d294_81 : decode cX9_laysRow 81 = .ok (.iastore, 1) := by decide +kernel
theorem d294_82 : decode cX9_laysRow 82 = .ok (.aload_n 0, 1) := by decide +kernel
theorem d294_83 : decode cX9_laysRow 83 = .ok (.dup, 1) := by decide +kernel
theorem d294_84 : decode cX9_laysRow 84 = .ok (.getfield 298, 3) := by decide +kernel
theorem d294_87 : decode cX9_laysRow 87 = .ok (.iconst 1, 1) := by decide +kernel
theorem d294_88 : decode cX9_laysRow 88 = .ok (.iadd, 1) := by decide +kernel
theorem d294_89 : decode cX9_laysRow 89 = .ok (.putfield 298, 3) := by decide +kernel
theorem d294_92 : decode cX9_laysRow 92 = .ok (.iinc 2 1, 3) := by decide +kernel
theorem d294_95 : decode cX9_laysRow 95 = .ok (.goto (-88), 3) := by decide +kernel
theorem d294_98 : decode cX9_laysRow 98 = .ok (.return_, 1) := by decide +kernel
theorem v294_0 {w : PW} {Q : PO → PW → Prop} {x1 : Int} (hs : Sh w) (hx1 : bd x1) (h : ∀ w1 : PW, w1 = sI w 169 26 0 → pX 294 7 [some (.ref 169), some (iv x1), some (iv 0), none] [] w1 Q) : pX 294 0 [some (.ref 169), some (iv x1), none, none] [] w Q :=
  w_f b294 d294_0 rfl rfl rfl <| w_f b294 d294_1 rfl rfl rfl <| w_pi b294 d294_2 rfl rfl hs (tlt 169 rfl) tbC_169 rfl rfl rfl <| w_f b294 d294_5 rfl rfl rfl <| w_f b294 d294_6 rfl rfl rfl <| (h _ rfl)
theorem e294 {w : PW} {Q : PO → PW → Prop} {x1 : Int} (hs : Sh w) (hx1 : bd x1) (h : ∀ w1 : PW, w1 = sI w 169 26 0 → pX 294 7 [some (.ref 169), some (iv x1), some (iv 0), none] [] w1 Q) : pC 294 [.ref 169, iv x1] w Q :=
  (pC_in (Nat.le_of_ble_eq_true rfl) rfl Q).mpr (v294_0 hs hx1 h)
theorem v294_7 {w : PW} {Q : PO → PW → Prop} {x1 : Int} {x2 : Int} {o3 : Option Value} (hs : Sh w) (hx1 : bd x1) (hx2 : bd x2) (ho3 : pc2 o3 = false) (h : ((gI w 170 5) ≤ x2 → Q (.inl none) w) ∧ (x2 < (gI w 170 5) → (0 ≤ (71 + 3 * x2) + 0 ∧ (71 + 3 * x2) + 0 < 843) ∧ ((gI w 170 ((71 + 3 * x2) + 0).toNat) = x1 → pX 294 35 [some (.ref 169), some (iv x1), some (iv x2), some (iv (gI w 169 26))] [] w Q) ∧ ((gI w 170 ((71 + 3 * x2) + 0).toNat) ≠ x1 → pX 294 7 [some (.ref 169), some (iv x1), some (iv (x2 + 1)), o3] [] w Q))) : pX 294 7 [some (.ref 169), some (iv x1), some (iv x2), o3] [] w Q :=
  w_f b294 d294_7 rfl rfl rfl <| w_f b294 d294_8 rfl rfl rfl <| w_gr b294 d294_9 rfl rfl hs (tlt 169 rfl) tbC_169 rfl (by decide) <| w_f b294 d294_12 rfl rfl rfl <| w_ial b294 d294_13 rfl hs (tlt 170 rfl) tbC_170 (bdix (n := 843) ⟨by decide, by decide⟩ rfl) ⟨by decide, by decide⟩ <| w_icge b294 d294_14 rfl rfl (p294 _ _) hx2 (bd_gI _ _ _) (fun c1 => w_rv b294 d294_98 r294 (h.1 c1)) (fun c1 => w_f b294 d294_17 rfl rfl rfl <| w_f b294 d294_18 rfl rfl rfl <| w_f b294 d294_19 rfl rfl rfl <| w_cc b294 d294_20 rfl (pcl_v (n := 2) rfl rfl rfl (by decide +kernel) (sh_isOb hs (tlt 169 rfl) tbC_169) rfl rfl) rfl <| c267 hs hx2 ⟨by decide, by decide⟩ (h.2 c1).1 <| w_f b294 d294_23 rfl rfl rfl <| w_iceq b294 d294_24 rfl rfl (p294 _ _) (bd_gI _ _ _) hx1 (fun c2 => w_f b294 d294_30 rfl rfl rfl <| w_gi b294 d294_31 rfl rfl hs (tlt 169 rfl) tbC_169 rfl <| w_f b294 d294_34 rfl rfl rfl <| ((h.2 c1).2.1 c2)) (fun c2 => w_j b294 d294_27 rfl (p294 _ _) <| w_f b294 d294_92 rfl (pf_iinc rfl rfl) rfl <| w_j b294 d294_95 rfl (p294 _ _) <| ((h.2 c1).2.2 c2)))
theorem v294_35 {w : PW} {Q : PO → PW → Prop} {x1 : Int} {x2 : Int} {x3 : Int} (hs : Sh w) (hx1 : bd x1) (hx2 : bd x2) (hx3 : bd x3) (h : (x3 ≤ 0 → (0 ≤ x3 ∧ x3 < 60) ∧ ∀ w2 : PW, w2 = sI w 176 x3.toNat x2 → ∀ w3 : PW, w3 = sI w2 169 26 ((gI w2 169 26) + 1) → pX 294 7 [some (.ref 169), some (iv x1), some (iv (x2 + 1)), some (iv x3)] [] w3 Q) ∧ (0 < x3 → (0 ≤ (x3 - 1) ∧ (x3 - 1) < 60) ∧ pC 293 [.ref 169, iv x2, iv (gI w 176 (x3 - 1).toNat)] w (kI fun u5 w4 => Sh w4 ∧ (u5 = 0 → (0 ≤ x3 ∧ x3 < 60) ∧ ∀ w7 : PW, w7 = sI w4 176 x3.toNat x2 → ∀ w8 : PW, w8 = sI w7 169 26 ((gI w7 169 26) + 1) → pX 294 7 [some (.ref 169), some (iv x1), some (iv (x2 + 1)), some (iv x3)] [] w8 Q) ∧ (u5 ≠ 0 → (0 ≤ (x3 - 1) ∧ (x3 - 1) < 60) ∧ (0 ≤ x3 ∧ x3 < 60) ∧ ∀ w9 : PW, w9 = sI w4 176 x3.toNat (gI w4 176 (x3 - 1).toNat) → pX 294 35 [some (.ref 169), some (iv x1), some (iv x2), some (iv (x3 + (-1)))] [] w9 Q)))) : pX 294 35 [some (.ref 169), some (iv x1), some (iv x2), some (iv x3)] [] w Q :=
  w_f b294 d294_35 rfl rfl rfl <| w_ifle b294 d294_36 rfl rfl (p294 _ _) hx3 (fun c1 => w_f b294 d294_75 rfl rfl rfl <| w_gr b294 d294_76 rfl rfl hs (tlt 169 rfl) tbC_169 rfl (by decide) <| w_f b294 d294_79 rfl rfl rfl <| w_f b294 d294_80 rfl rfl rfl <| w_ias b294 d294_81 rfl hs (tlt 176 rfl) tbC_176 (bdix (n := 60) (h.1 c1).1 rfl) (h.1 c1).1 <| w_f b294 d294_82 rfl rfl rfl <| w_f b294 d294_83 rfl rfl rfl <| w_gi b294 d294_84 rfl rfl (Sh_sI hs (slt_a tbC_176)) (tlt 169 rfl) tbC_169 rfl <| w_f b294 d294_87 rfl rfl rfl <| w_f b294 d294_88 rfl (pf_iadd _ 1) rfl <| w_pi b294 d294_89 rfl rfl (Sh_sI hs (slt_a tbC_176)) (tlt 169 rfl) tbC_169 rfl rfl rfl <| w_f b294 d294_92 rfl (pf_iinc rfl rfl) rfl <| w_j b294 d294_95 rfl (p294 _ _) <| (((h.1 c1).2 _ rfl) _ rfl)) (fun c1 => w_f b294 d294_39 rfl rfl rfl <| w_f b294 d294_40 rfl rfl rfl <| w_f b294 d294_41 rfl rfl rfl <| w_gr b294 d294_42 rfl rfl hs (tlt 169 rfl) tbC_169 rfl (by decide) <| w_f b294 d294_45 rfl rfl rfl <| w_f b294 d294_46 rfl rfl rfl <| w_f b294 d294_47 rfl (pf_isub x3 1) rfl <| w_ial b294 d294_48 rfl hs (tlt 176 rfl) tbC_176 (bdix (n := 60) (h.2 c1).1 rfl) (h.2 c1).1 <| w_c b294 d294_49 rfl (pcl_v (n := 2) rfl rfl rfl (by decide +kernel) (sh_isOb hs (tlt 169 rfl) tbC_169) rfl rfl) rfl _ (hK_I fun u5 w4 hbu5 hkw4 => w_ifeq b294 d294_52 rfl rfl (p294 _ _) hbu5 (fun c6 => w_f b294 d294_75 rfl rfl rfl <| w_gr b294 d294_76 rfl rfl hkw4.1 (tlt 169 rfl) tbC_169 rfl (by decide) <| w_f b294 d294_79 rfl rfl rfl <| w_f b294 d294_80 rfl rfl rfl <| w_ias b294 d294_81 rfl hkw4.1 (tlt 176 rfl) tbC_176 (bdix (n := 60) (hkw4.2.1 c6).1 rfl) (hkw4.2.1 c6).1 <| w_f b294 d294_82 rfl rfl rfl <| w_f b294 d294_83 rfl rfl rfl <| w_gi b294 d294_84 rfl rfl (Sh_sI hkw4.1 (slt_a tbC_176)) (tlt 169 rfl) tbC_169 rfl <| w_f b294 d294_87 rfl rfl rfl <| w_f b294 d294_88 rfl (pf_iadd _ 1) rfl <| w_pi b294 d294_89 rfl rfl (Sh_sI hkw4.1 (slt_a tbC_176)) (tlt 169 rfl) tbC_169 rfl rfl rfl <| w_f b294 d294_92 rfl (pf_iinc rfl rfl) rfl <| w_j b294 d294_95 rfl (p294 _ _) <| (((hkw4.2.1 c6).2 _ rfl) _ rfl)) (fun c6 => w_f b294 d294_55 rfl rfl rfl <| w_gr b294 d294_56 rfl rfl hkw4.1 (tlt 169 rfl) tbC_169 rfl (by decide) <| w_f b294 d294_59 rfl rfl rfl <| w_f b294 d294_60 rfl rfl rfl <| w_gr b294 d294_61 rfl rfl hkw4.1 (tlt 169 rfl) tbC_169 rfl (by decide) <| w_f b294 d294_64 rfl rfl rfl <| w_f b294 d294_65 rfl rfl rfl <| w_f b294 d294_66 rfl (pf_isub x3 1) rfl <| w_ial b294 d294_67 rfl hkw4.1 (tlt 176 rfl) tbC_176 (bdix (n := 60) (hkw4.2.2 c6).1 rfl) (hkw4.2.2 c6).1 <| w_ias b294 d294_68 rfl hkw4.1 (tlt 176 rfl) tbC_176 (bdix (n := 60) (hkw4.2.2 c6).2.1 rfl) (hkw4.2.2 c6).2.1 <| w_f b294 d294_69 rfl (pf_iinc rfl rfl) rfl <| w_j b294 d294_72 rfl (p294 _ _) <| ((hkw4.2.2 c6).2.2 _ rfl))) (h.2 c1).2)
/-! 295: PinBarrelModel.toothFor(II)I -/
theorem b295 : mB 295 = cX9_toothFor := rfl
theorem r295 : mR 295 = (some .int) := rfl
theorem p295 (a b : Nat) : phi 295 a ≤ phi 295 b := Nat.le_refl 0
theorem d295_0 : decode cX9_toothFor 0 = .ok (.aload_n 0, 1) := by decide +kernel
theorem d295_1 : decode cX9_toothFor 1 = .ok (.getfield 37, 3) := by decide +kernel
theorem d295_4 : decode cX9_toothFor 4 = .ok (.iload_n 1, 1) := by decide +kernel
theorem d295_5 : decode cX9_toothFor 5 = .ok (.iaload, 1) := by decide +kernel
theorem d295_6 : decode cX9_toothFor 6 = .ok (.iconst 1, 1) := by decide +kernel
theorem d295_7 : decode cX9_toothFor 7 = .ok (.iadd, 1) := by decide +kernel
theorem d295_8 : decode cX9_toothFor 8 = .ok (.istore_n 3, 1) := by decide +kernel
theorem d295_9 : decode cX9_toothFor 9 = .ok (.iload_n 3, 1) := by decide +kernel
theorem d295_10 : decode cX9_toothFor 10 = .ok (.aload_n 0, 1) := by decide +kernel
theorem d295_11 : decode cX9_toothFor 11 = .ok (.getfield 9, 3) := by decide +kernel
theorem d295_14 : decode cX9_toothFor 14 = .ok (.iconst 4, 1) := by decide +kernel
theorem d295_15 : decode cX9_toothFor 15 = .ok (.iaload, 1) := by decide +kernel
theorem d295_16 : decode cX9_toothFor 16 = .ok (.if_icmp .ge 36, 3) := by decide +kernel
theorem d295_19 : decode cX9_toothFor 19 = .ok (.iload_n 3, 1) := by decide +kernel
theorem d295_20 : decode cX9_toothFor 20 = .ok (.iload_n 2, 1) := by decide +kernel
theorem d295_21 : decode cX9_toothFor 21 = .ok (.if_icmp .eq 25, 3) := by decide +kernel
theorem d295_24 : decode cX9_toothFor 24 = .ok (.aload_n 0, 1) := by decide +kernel
theorem d295_25 : decode cX9_toothFor 25 = .ok (.iload_n 3, 1) := by decide +kernel
theorem d295_26 : decode cX9_toothFor 26 = .ok (.iconst 0, 1) := by decide +kernel
theorem d295_27 : decode cX9_toothFor 27 = .ok (.invokevirtual 219, 3) := by decide +kernel
theorem d295_30 : decode cX9_toothFor 30 = .ok (.aload_n 0, 1) := by decide +kernel
theorem d295_31 : decode cX9_toothFor 31 = .ok (.aload_n 0, 1) := by decide +kernel
theorem d295_32 : decode cX9_toothFor 32 = .ok (.getfield 34, 3) := by decide +kernel
theorem d295_35 : decode cX9_toothFor 35 = .ok (.iload_n 1, 1) := by decide +kernel
theorem d295_36 : decode cX9_toothFor 36 = .ok (.iaload, 1) := by decide +kernel
theorem d295_37 : decode cX9_toothFor 37 = .ok (.iconst 2, 1) := by decide +kernel
theorem d295_38 : decode cX9_toothFor 38 = .ok (.invokevirtual 283, 3) := by decide +kernel
theorem d295_41 : decode cX9_toothFor 41 = .ok (.if_icmp .ne 5, 3) := by decide +kernel
theorem d295_44 : decode cX9_toothFor 44 = .ok (.iload_n 3, 1) := by decide +kernel
theorem d295_45 : decode cX9_toothFor 45 = .ok (.ireturn, 1) := by decide +kernel
theorem d295_46 : decode cX9_toothFor 46 = .ok (.iinc 3 1, 3) := by decide +kernel
theorem d295_49 : decode cX9_toothFor 49 = .ok (.goto (-40), 3) := by decide +kernel
theorem d295_52 : decode cX9_toothFor 52 = .ok (.iconst (-1), 1) := by decide +kernel
theorem d295_53 : decode cX9_toothFor 53 = .ok (.ireturn, 1) := by decide +kernel
theorem v295_0 {w : PW} {Q : PO → PW → Prop} {x1 : Int} {x2 : Int} (hs : Sh w) (hx1 : bd x1) (hx2 : bd x2) (h : (0 ≤ x1 ∧ x1 < 61) ∧ pX 295 9 [some (.ref 169), some (iv x1), some (iv x2), some (iv ((gI w 177 x1.toNat) + 1))] [] w Q) : pX 295 0 [some (.ref 169), some (iv x1), some (iv x2), none] [] w Q :=
  w_f b295 d295_0 rfl rfl rfl <| w_gr b295 d295_1 rfl rfl hs (tlt 169 rfl) tbC_169 rfl (by decide) <| w_f b295 d295_4 rfl rfl rfl <| w_ial b295 d295_5 rfl hs (tlt 177 rfl) tbC_177 (bdix (n := 61) h.1 rfl) h.1 <| w_f b295 d295_6 rfl rfl rfl <| w_f b295 d295_7 rfl (pf_iadd (gI w 177 x1.toNat) 1) rfl <| w_f b295 d295_8 rfl rfl rfl <| h.2
theorem e295 {w : PW} {Q : PO → PW → Prop} {x1 : Int} {x2 : Int} (hs : Sh w) (hx1 : bd x1) (hx2 : bd x2) (h : (0 ≤ x1 ∧ x1 < 61) ∧ pX 295 9 [some (.ref 169), some (iv x1), some (iv x2), some (iv ((gI w 177 x1.toNat) + 1))] [] w Q) : pC 295 [.ref 169, iv x1, iv x2] w Q :=
  (pC_in (Nat.le_of_ble_eq_true rfl) rfl Q).mpr (v295_0 hs hx1 hx2 h)
theorem v295_9 {w : PW} {Q : PO → PW → Prop} {x1 : Int} {x2 : Int} {x3 : Int} (hs : Sh w) (hx1 : bd x1) (hx2 : bd x2) (hx3 : bd x3) (h : ((gI w 170 4) ≤ x3 → Q (.inl (some (iv ((-1))))) w) ∧ (x3 < (gI w 170 4) → (x3 = x2 → pX 295 9 [some (.ref 169), some (iv x1), some (iv x2), some (iv (x3 + 1))] [] w Q) ∧ (x3 ≠ x2 → (0 ≤ (11 + 5 * x3) + 0 ∧ (11 + 5 * x3) + 0 < 843) ∧ (0 ≤ x1 ∧ x1 < 60) ∧ (0 ≤ (71 + 3 * (gI w 176 x1.toNat)) + 2 ∧ (71 + 3 * (gI w 176 x1.toNat)) + 2 < 843) ∧ ((gI w 170 ((11 + 5 * x3) + 0).toNat) ≠ (gI w 170 ((71 + 3 * (gI w 176 x1.toNat)) + 2).toNat) → pX 295 9 [some (.ref 169), some (iv x1), some (iv x2), some (iv (x3 + 1))] [] w Q) ∧ ((gI w 170 ((11 + 5 * x3) + 0).toNat) = (gI w 170 ((71 + 3 * (gI w 176 x1.toNat)) + 2).toNat) → Q (.inl (some (iv x3))) w)))) : pX 295 9 [some (.ref 169), some (iv x1), some (iv x2), some (iv x3)] [] w Q :=
  w_f b295 d295_9 rfl rfl rfl <| w_f b295 d295_10 rfl rfl rfl <| w_gr b295 d295_11 rfl rfl hs (tlt 169 rfl) tbC_169 rfl (by decide) <| w_f b295 d295_14 rfl rfl rfl <| w_ial b295 d295_15 rfl hs (tlt 170 rfl) tbC_170 (bdix (n := 843) ⟨by decide, by decide⟩ rfl) ⟨by decide, by decide⟩ <| w_icge b295 d295_16 rfl rfl (p295 _ _) hx3 (bd_gI _ _ _) (fun c1 => w_f b295 d295_52 rfl rfl rfl <| w_ri b295 d295_53 r295 (h.1 c1)) (fun c1 => w_f b295 d295_19 rfl rfl rfl <| w_f b295 d295_20 rfl rfl rfl <| w_iceq b295 d295_21 rfl rfl (p295 _ _) hx3 hx2 (fun c2 => w_f b295 d295_46 rfl (pf_iinc rfl rfl) rfl <| w_j b295 d295_49 rfl (p295 _ _) <| ((h.2 c1).1 c2)) (fun c2 => w_f b295 d295_24 rfl rfl rfl <| w_f b295 d295_25 rfl rfl rfl <| w_f b295 d295_26 rfl rfl rfl <| w_cc b295 d295_27 rfl (pcl_v (n := 2) rfl rfl rfl (by decide +kernel) (sh_isOb hs (tlt 169 rfl) tbC_169) rfl rfl) rfl <| c261 hs hx3 ⟨by decide, by decide⟩ ((h.2 c1).2 c2).1 <| w_f b295 d295_30 rfl rfl rfl <| w_f b295 d295_31 rfl rfl rfl <| w_gr b295 d295_32 rfl rfl hs (tlt 169 rfl) tbC_169 rfl (by decide) <| w_f b295 d295_35 rfl rfl rfl <| w_ial b295 d295_36 rfl hs (tlt 176 rfl) tbC_176 (bdix (n := 60) ((h.2 c1).2 c2).2.1 rfl) ((h.2 c1).2 c2).2.1 <| w_f b295 d295_37 rfl rfl rfl <| w_cc b295 d295_38 rfl (pcl_v (n := 2) rfl rfl rfl (by decide +kernel) (sh_isOb hs (tlt 169 rfl) tbC_169) rfl rfl) rfl <| c267 hs (bd_gI _ _ _) ⟨by decide, by decide⟩ ((h.2 c1).2 c2).2.2.1 <| w_icne b295 d295_41 rfl rfl (p295 _ _) (bd_gI _ _ _) (bd_gI _ _ _) (fun c3 => w_f b295 d295_46 rfl (pf_iinc rfl rfl) rfl <| w_j b295 d295_49 rfl (p295 _ _) <| (((h.2 c1).2 c2).2.2.2.1 c3)) (fun c3 => w_f b295 d295_44 rfl rfl rfl <| w_ri b295 d295_45 r295 (((h.2 c1).2 c2).2.2.2.2 c3))))
/-! 296: PinBarrelModel.strikesOther(III)Z -/
theorem b296 : mB 296 = cX9_strikesOther := rfl
theorem r296 : mR 296 = (some .boolean) := rfl
theorem p296 (a b : Nat) : phi 296 a ≤ phi 296 b := Nat.le_refl 0
theorem d296_0 : decode cX9_strikesOther 0 = .ok (.iload_n 2, 1) := by decide +kernel
theorem d296_1 : decode cX9_strikesOther 1 = .ok (.iconst 1, 1) := by decide +kernel
theorem d296_2 : decode cX9_strikesOther 2 = .ok (.isub, 1) := by decide +kernel
theorem d296_3 : decode cX9_strikesOther 3 = .ok (.istore 4, 2) := by decide +kernel
theorem d296_5 : decode cX9_strikesOther 5 = .ok (.iload 4, 2) := by decide +kernel
theorem d296_7 : decode cX9_strikesOther 7 = .ok (.iload_n 2, 1) := by decide +kernel
theorem d296_8 : decode cX9_strikesOther 8 = .ok (.iconst 1, 1) := by decide +kernel
theorem d296_9 : decode cX9_strikesOther 9 = .ok (.iadd, 1) := by decide +kernel
theorem d296_10 : decode cX9_strikesOther 10 = .ok (.if_icmp .gt 91, 3) := by decide +kernel
theorem d296_13 : decode cX9_strikesOther 13 = .ok (.iload 4, 2) := by decide +kernel
theorem d296_15 : decode cX9_strikesOther 15 = .ok (.i2l, 1) := by decide +kernel
theorem d296_16 : decode cX9_strikesOther 16 = .ok (.lconst 0, 1) := by decide +kernel
theorem d296_17 : decode cX9_strikesOther 17 = .ok (.aload_n 0, 1) := by decide +kernel
theorem d296_18 : decode cX9_strikesOther 18 = .ok (.invokevirtual 259, 3) := by decide +kernel
theorem d296_21 : decode cX9_strikesOther 21 = .ok (.iconst 1, 1) := by decide +kernel
theorem d296_22 : decode cX9_strikesOther 22 = .ok (.isub, 1) := by decide +kernel
theorem d296_23 : decode cX9_strikesOther 23 = .ok (.i2l, 1) := by decide +kernel
theorem d296_24 : decode cX9_strikesOther 24 = .ok (.invokestatic 81, 3) := by decide +kernel
theorem d296_27 : decode cX9_strikesOther 27 = .ok (.ifCond .eq 68, 3) := by decide +kernel
theorem d296_30 : decode cX9_strikesOther 30 = .ok (.iload 4, 2) := by decide +kernel
theorem d296_32 : decode cX9_strikesOther 32 = .ok (.aload_n 0, 1) := by decide +kernel
theorem d296_33 : decode cX9_strikesOther 33 = .ok (.getfield 9, 3) := by decide +kernel
theorem d296_36 : decode cX9_strikesOther 36 = .ok (.iconst 1, 1) := by decide +kernel
theorem d296_37 : decode cX9_strikesOther 37 = .ok (.iaload, 1) := by decide +kernel
theorem d296_38 : decode cX9_strikesOther 38 = .ok (.irem, 1) := by decide +kernel
theorem d296_39 : decode cX9_strikesOther 39 = .ok (.iload_n 1, 1) := by decide +kernel
theorem d296_40 : decode cX9_strikesOther 40 = .ok (.if_icmp .ne 6, 3) := by decide +kernel
theorem d296_43 : decode cX9_strikesOther 43 = .ok (.goto 52, 3) := by decide +kernel
theorem d296_46 : decode cX9_strikesOther 46 = .ok (.iconst 0, 1) := by decide +kernel
theorem d296_47 : decode cX9_strikesOther 47 = .ok (.istore 5, 2) := by decide +kernel
theorem d296_49 : decode cX9_strikesOther 49 = .ok (.iload 5, 2) := by decide +kernel
theorem d296_51 : decode cX9_strikesOther 51 = .ok (.aload_n 0, 1) := by decide +kernel
theorem d296_52 : decode cX9_strikesOther 52 = .ok (.getfield 9, 3) := by decide +kernel
theorem d296_55 : decode cX9_strikesOther 55 = .ok (.iconst 0, 1) := by decide +kernel
theorem d296_56 : decode cX9_strikesOther 56 = .ok (.iaload, 1) := by decide +kernel
theorem d296_57 : decode cX9_strikesOther 57 = .ok (.if_icmp .ge 38, 3) := by decide +kernel
theorem d296_60 : decode cX9_strikesOther 60 = .ok (.aload_n 0, 1) := by decide +kernel
theorem d296_61 : decode cX9_strikesOther 61 = .ok (.iload 4, 2) := by decide +kernel
theorem d296_63 : decode cX9_strikesOther 63 = .ok (.iload 5, 2) := by decide +kernel
theorem d296_65 : decode cX9_strikesOther 65 = .ok (.invokevirtual 262, 3) := by decide +kernel
theorem d296_68 : decode cX9_strikesOther 68 = .ok (.ifCond .eq 21, 3) := by decide +kernel
theorem d296_71 : decode cX9_strikesOther 71 = .ok (.aload_n 0, 1) := by decide +kernel
theorem d296_72 : decode cX9_strikesOther 72 = .ok (.iload_n 3, 1) := by decide +kernel
theorem d296_73 : decode cX9_strikesOther 73 = .ok (.iload 5, 2) := by decide +kernel
theorem d296_75 : decode cX9_strikesOther 75 = .ok (.aload_n 0, 1) := by decide +kernel
theorem d296_76 : decode cX9_strikesOther 76 = .ok (.getfield 9, 3) := by decide +kernel
theorem d296_79 : decode cX9_strikesOther 79 = .ok (.iconst 2, 1) := by decide +kernel
theorem d296_80 : decode cX9_strikesOther 80 = .ok (.iaload, 1) := by decide +kernel
theorem d296_81 : decode cX9_strikesOther 81 = .ok (.invokevirtual 265, 3) := by decide +kernel
theorem d296_84 : decode cX9_strikesOther 84 = .ok (.ifCond .eq 5, 3) := by decide +kernel
theorem d296_87 : decode cX9_strikesOther 87 = .ok (.iconst 1, 1) := by decide +kernel
theorem d296_88 : decode cX9_strikesOther 88 = .ok (.ireturn, 1) := by decide +kernel
theorem d296_89 : decode cX9_strikesOther 89 = .ok (.iinc 5 1, 3) := by decide +kernel
theorem d296_92 : decode cX9_strikesOther 92 = .ok (.goto (-43), 3) := by decide +kernel
theorem d296_95 : decode cX9_strikesOther 95 = .ok (.iinc 4 2, 3) := by decide +kernel
theorem d296_98 : decode cX9_strikesOther 98 = .ok (.goto (-93), 3) := by decide +kernel
theorem d296_101 : decode cX9_strikesOther 101 = .ok (.iconst 0, 1) := by decide +kernel
theorem d296_102 : decode cX9_strikesOther 102 = .ok (.ireturn, 1) := by decide +kernel
theorem v296_0 {w : PW} {Q : PO → PW → Prop} {x1 : Int} {x2 : Int} {x3 : Int} (hs : Sh w) (hx1 : bd x1) (hx2 : bd x2) (hx3 : bd x3) (h : pX 296 5 [some (.ref 169), some (iv x1), some (iv x2), some (iv x3), some (iv (x2 - 1)), none] [] w Q) : pX 296 0 [some (.ref 169), some (iv x1), some (iv x2), some (iv x3), none, none] [] w Q :=
  w_f b296 d296_0 rfl rfl rfl <| w_f b296 d296_1 rfl rfl rfl <| w_f b296 d296_2 rfl (pf_isub x2 1) rfl <| w_f b296 d296_3 rfl rfl rfl <| h
theorem e296 {w : PW} {Q : PO → PW → Prop} {x1 : Int} {x2 : Int} {x3 : Int} (hs : Sh w) (hx1 : bd x1) (hx2 : bd x2) (hx3 : bd x3) (h : pX 296 5 [some (.ref 169), some (iv x1), some (iv x2), some (iv x3), some (iv (x2 - 1)), none] [] w Q) : pC 296 [.ref 169, iv x1, iv x2, iv x3] w Q :=
  (pC_in (Nat.le_of_ble_eq_true rfl) rfl Q).mpr (v296_0 hs hx1 hx2 hx3 h)
theorem v296_5 {w : PW} {Q : PO → PW → Prop} {x1 : Int} {x2 : Int} {x3 : Int} {x4 : Int} {o5 : Option Value} (hs : Sh w) (hx1 : bd x1) (hx2 : bd x2) (hx3 : bd x3) (hx4 : bd x4) (ho5 : pc2 o5 = false) (h : (bd (x2 + 1)) ∧ ((x2 + 1) < x4 → Q (.inl (some (iv 0))) w) ∧ (x4 ≤ (x2 + 1) → ((¬ (((0 : Int64)).toInt ≤ (i2L x4).toInt ∧ (i2L x4).toInt ≤ (i2L (((gI w 170 1) * (gI w 170 4)) - 1)).toInt)) → pX 296 5 [some (.ref 169), some (iv x1), some (iv x2), some (iv x3), some (iv (x4 + 2)), o5] [] w Q) ∧ ((((0 : Int64)).toInt ≤ (i2L x4).toInt ∧ (i2L x4).toInt ≤ (i2L (((gI w 170 1) * (gI w 170 4)) - 1)).toInt) → (0 < (gI w 170 1) ∧ (gI w 170 1) < 2147483648) ∧ (bd (x4.tmod (gI w 170 1))) ∧ ((x4.tmod (gI w 170 1)) ≠ x1 → pX 296 49 [some (.ref 169), some (iv x1), some (iv x2), some (iv x3), some (iv x4), some (iv 0)] [] w Q) ∧ ((x4.tmod (gI w 170 1)) = x1 → pX 296 5 [some (.ref 169), some (iv x1), some (iv x2), some (iv x3), some (iv (x4 + 2)), o5] [] w Q)))) : pX 296 5 [some (.ref 169), some (iv x1), some (iv x2), some (iv x3), some (iv x4), o5] [] w Q :=
  w_f b296 d296_5 rfl rfl rfl <| w_f b296 d296_7 rfl rfl rfl <| w_f b296 d296_8 rfl rfl rfl <| w_f b296 d296_9 rfl (pf_iadd x2 1) rfl <| w_icgt b296 d296_10 rfl rfl (p296 _ _) hx4 h.1 (fun c1 => w_f b296 d296_101 rfl rfl rfl <| w_rz b296 d296_102 r296 (by decide) (h.2.1 c1)) (fun c1 => w_f b296 d296_13 rfl rfl rfl <| w_f b296 d296_15 rfl rfl rfl <| w_f b296 d296_16 rfl rfl rfl <| w_f b296 d296_17 rfl rfl rfl <| w_cc b296 d296_18 rfl (pcl_v (n := 0) rfl rfl rfl (by decide +kernel) (sh_isOb hs (tlt 169 rfl) tbC_169) rfl rfl) rfl <| c249 hs <| w_f b296 d296_21 rfl rfl rfl <| w_f b296 d296_22 rfl (pf_isub ((gI w 170 1) * (gI w 170 4)) 1) rfl <| w_f b296 d296_23 rfl rfl rfl <| w_cc b296 d296_24 rfl (pcl_s1 (n := 3) rfl rfl rfl (by decide +kernel) rfl rfl) rfl <| c221 hs <| w_ifeqZ b296 d296_27 rfl rfl (p296 _ _) (fun c2 => w_f b296 d296_95 rfl (pf_iinc rfl rfl) rfl <| w_j b296 d296_98 rfl (p296 _ _) <| ((h.2.2 c1).1 c2)) (fun c2 => w_f b296 d296_30 rfl rfl rfl <| w_f b296 d296_32 rfl rfl rfl <| w_gr b296 d296_33 rfl rfl hs (tlt 169 rfl) tbC_169 rfl (by decide) <| w_f b296 d296_36 rfl rfl rfl <| w_ial b296 d296_37 rfl hs (tlt 170 rfl) tbC_170 (bdix (n := 843) ⟨by decide, by decide⟩ rfl) ⟨by decide, by decide⟩ <| w_f b296 d296_38 rfl (pf_irem hx4 ((h.2.2 c1).2 c2).1) rfl <| w_f b296 d296_39 rfl rfl rfl <| w_icne b296 d296_40 rfl rfl (p296 _ _) ((h.2.2 c1).2 c2).2.1 hx1 (fun c3 => w_f b296 d296_46 rfl rfl rfl <| w_f b296 d296_47 rfl rfl rfl <| (((h.2.2 c1).2 c2).2.2.1 c3)) (fun c3 => w_j b296 d296_43 rfl (p296 _ _) <| w_f b296 d296_95 rfl (pf_iinc rfl rfl) rfl <| w_j b296 d296_98 rfl (p296 _ _) <| (((h.2.2 c1).2 c2).2.2.2 c3))))
theorem v296_49 {w : PW} {Q : PO → PW → Prop} {x1 : Int} {x2 : Int} {x3 : Int} {x4 : Int} {x5 : Int} (hs : Sh w) (hx1 : bd x1) (hx2 : bd x2) (hx3 : bd x3) (hx4 : bd x4) (hx5 : bd x5) (h : ((gI w 170 0) ≤ x5 → pX 296 5 [some (.ref 169), some (iv x1), some (iv x2), some (iv x3), some (iv (x4 + 2)), some (iv x5)] [] w Q) ∧ (x5 < (gI w 170 0) → (1 ≤ gI w 170 1 ∧ gI w 170 1 ≤ 3) ∧ (0 ≤ x4 ∧ x4 < 12 * gI w 170 1) ∧ (0 ≤ x5 ∧ x5 < 64) ∧ ((¬ (mOn w x4 x5 = true)) → pX 296 49 [some (.ref 169), some (iv x1), some (iv x2), some (iv x3), some (iv x4), some (iv (x5 + 1))] [] w Q) ∧ ((mOn w x4 x5 = true) → (0 < gI w 170 0 ∧ gI w 170 0 ≤ 64) ∧ (0 ≤ x3 ∧ x3 < gI w 170 0) ∧ (0 ≤ x5 ∧ x5 < gI w 170 0) ∧ ((¬ (nearI (gI w 170 0) x3 x5 (gI w 170 2) = true)) → pX 296 49 [some (.ref 169), some (iv x1), some (iv x2), some (iv x3), some (iv x4), some (iv (x5 + 1))] [] w Q) ∧ ((nearI (gI w 170 0) x3 x5 (gI w 170 2) = true) → Q (.inl (some (iv 1))) w)))) : pX 296 49 [some (.ref 169), some (iv x1), some (iv x2), some (iv x3), some (iv x4), some (iv x5)] [] w Q :=
  w_f b296 d296_49 rfl rfl rfl <| w_f b296 d296_51 rfl rfl rfl <| w_gr b296 d296_52 rfl rfl hs (tlt 169 rfl) tbC_169 rfl (by decide) <| w_f b296 d296_55 rfl rfl rfl <| w_ial b296 d296_56 rfl hs (tlt 170 rfl) tbC_170 (bdix (n := 843) ⟨by decide, by decide⟩ rfl) ⟨by decide, by decide⟩ <| w_icge b296 d296_57 rfl rfl (p296 _ _) hx5 (bd_gI _ _ _) (fun c1 => w_f b296 d296_95 rfl (pf_iinc rfl rfl) rfl <| w_j b296 d296_98 rfl (p296 _ _) <| (h.1 c1)) (fun c1 => w_f b296 d296_60 rfl rfl rfl <| w_f b296 d296_61 rfl rfl rfl <| w_f b296 d296_63 rfl rfl rfl <| w_cc b296 d296_65 rfl (pcl_v (n := 2) rfl rfl rfl (by decide +kernel) (sh_isOb hs (tlt 169 rfl) tbC_169) rfl rfl) rfl <| c252 hs hx4 hx5 (h.2 c1).1 (h.2 c1).2.1 (h.2 c1).2.2.1 <| w_ifeqZ b296 d296_68 rfl rfl (p296 _ _) (fun c2 => w_f b296 d296_89 rfl (pf_iinc rfl rfl) rfl <| w_j b296 d296_92 rfl (p296 _ _) <| ((h.2 c1).2.2.2.1 c2)) (fun c2 => w_f b296 d296_71 rfl rfl rfl <| w_f b296 d296_72 rfl rfl rfl <| w_f b296 d296_73 rfl rfl rfl <| w_f b296 d296_75 rfl rfl rfl <| w_gr b296 d296_76 rfl rfl hs (tlt 169 rfl) tbC_169 rfl (by decide) <| w_f b296 d296_79 rfl rfl rfl <| w_ial b296 d296_80 rfl hs (tlt 170 rfl) tbC_170 (bdix (n := 843) ⟨by decide, by decide⟩ rfl) ⟨by decide, by decide⟩ <| w_cc b296 d296_81 rfl (pcl_v (n := 3) rfl rfl rfl (by decide +kernel) (sh_isOb hs (tlt 169 rfl) tbC_169) rfl rfl) rfl <| c254 hs hx3 hx5 (bd_gI _ _ _) ((h.2 c1).2.2.2.2 c2).1 ((h.2 c1).2.2.2.2 c2).2.1 ((h.2 c1).2.2.2.2 c2).2.2.1 <| w_ifeqZ b296 d296_84 rfl rfl (p296 _ _) (fun c3 => w_f b296 d296_89 rfl (pf_iinc rfl rfl) rfl <| w_j b296 d296_92 rfl (p296 _ _) <| (((h.2 c1).2.2.2.2 c2).2.2.2.1 c3)) (fun c3 => w_f b296 d296_87 rfl rfl rfl <| w_rz b296 d296_88 r296 (by decide) (((h.2 c1).2.2.2.2 c2).2.2.2.2 c3))))
section MSK
variable {w : PW} {Q : PO → PW → Prop} {m : Row} {u : Nat}
/-- a number in one of the model's own rows for work -/
theorem MF.oth {w2 : PW} {a k : Nat} {z : Int} (hs : Sh w) (e : w2 = sI w a k z) (hl : slt (tb a) k) (hz : bd z) (ha : a = 176 ∨ a = 177 ∨ a = 178) : MF w w2 ∧ (∀ c, c ≠ a → w2.2.2 c = w.2.2 c) ∧ ∀ b j, gI w2 b j = if b = a ∧ j = k then z else gI w b j := by
  obtain ⟨s1, g1, -, k1⟩ := stI e hs (by omega) hl hz
  have h9 : ∀ j, gI w2 169 j = gI w 169 j := fun j => by rw [g1, if_neg (by omega)]
  exact ⟨⟨s1, ⟨s1, fun c h1 h2 => k1 c (by omega), fun j _ => by rw [g1, if_neg (by omega)], h9 6, h9 8, h9 12, h9 15, h9 30⟩, h9 0, k1 171 (by omega)⟩, k1, g1⟩
theorem mul36 {a b : Int} (ha : 1 ≤ a ∧ a ≤ 3) (hb : 0 ≤ b ∧ b < 12) : 0 ≤ a * b ∧ a * b ≤ 33 :=
  ⟨Int.mul_nonneg (by omega) hb.1, Int.le_trans (Int.mul_le_mul_of_nonneg_right ha.2 hb.1) (by omega)⟩
theorem c293 {x y : Nat} (hs : Sh w) (hM : MR w m) (hx : (x : Int) < m 5) (hy : (y : Int) < m 5) (h : Q (.inl (some (iv (if rRank m x < rRank m y ∨ (rRank m x = rRank m y ∧ x < y) then 1 else 0)))) w) : pC 293 [.ref 169, iv (x : Nat), iv (y : Nat)] w Q := by
  have h5 := hM.ok.n
  have a := hM.ok.N hx
  have b := hM.ok.N hy
  have h1 : (rRank m x < rRank m y ∨ (rRank m x = rRank m y ∧ x < y)) → Q (.inl (some (iv 1))) w := fun q => by rw [if_pos q] at h; exact h
  have h0 : ¬ (rRank m x < rRank m y ∨ (rRank m x = rRank m y ∧ x < y)) → Q (.inl (some (iv 0))) w := fun q => by rw [if_neg q] at h; exact h
  unfold rRank at h0 h1
  refine e293 hs (bdk (by omega)) (bdk (by omega)) ?_
  rw [hM.N1 (by omega), hM.N1 (by omega), hM.N2 (by omega), hM.N2 (by omega)]
  refine ⟨⟨by omega, by omega⟩, ⟨by omega, by omega⟩, fun q => ⟨⟨by omega, by omega⟩, ⟨by omega, by omega⟩, fun q2 => ⟨fun q3 => h0 (by omega), fun q3 => h1 (by omega)⟩, fun q2 => ⟨⟨by omega, by omega⟩, ⟨by omega, by omega⟩, fun q3 => h0 (by omega), fun q3 => h1 (by omega)⟩⟩, fun q => ⟨⟨by omega, by omega⟩, ⟨by omega, by omega⟩, fun q3 => h0 (by omega), fun q3 => h1 (by omega)⟩⟩
theorem l294_35 {k cN : Nat} {ord : Nat → Nat} {x1 : Int} (hx1 : bd x1) (hM : MR w m) (hcN : cN < 60) (hk : (k : Int) < m 5) (ho : ∀ i, i < cN → ord i < k) (h : ∀ w2, MF w w2 → gI w2 169 26 = ((cN + 1 : Nat) : Int) → (∀ i, i < cN + 1 → gI w2 176 i = (insO m ord cN k i : Nat)) → ∀ o3 : Option Value, pc2 o3 = false → pX 294 7 [some (.ref 169), some (iv x1), some (iv ((k : Int) + 1)), o3] [] w2 Q) : ∀ p : Nat, p ≤ cN → insP m ord k p = insP m ord k cN → ∀ w1, MF w w1 → gI w1 169 26 = (cN : Int) → (∀ i, i < cN + 1 → i ≠ p → gI w1 176 i = if p < i then ((ord (i - 1) : Nat) : Int) else (ord i : Nat)) → pX 294 35 [some (.ref 169), some (iv x1), some (iv (k : Nat)), some (iv (p : Nat))] [] w1 Q := by
  have h5 := hM.ok.n
  have hfin : ∀ p w1, p ≤ cN → insP m ord k cN = p → MF w w1 → gI w1 169 26 = (cN : Int) → (∀ i, i < cN + 1 → i ≠ p → gI w1 176 i = if p < i then ((ord (i - 1) : Nat) : Int) else (ord i : Nat)) → ∀ w2 : PW, w2 = sI w1 176 (p : Int).toNat (k : Nat) → ∀ w3 : PW, w3 = sI w2 169 26 ((gI w2 169 26) + 1) → pX 294 7 [some (.ref 169), some (iv x1), some (iv ((k : Int) + 1)), some (iv (p : Nat))] [] w3 Q := by
    intro p w1 hp hpe F1 n1 hV w2 e2 w3 e3
    rw [Int.toNat_natCast] at e2
    obtain ⟨F2, k2, g2⟩ := MF.oth F1.1 e2 (slt_a tbC_176) (bdk (by omega)) (by omega)
    rw [g2, if_neg (by omega), n1] at e3
    obtain ⟨F3, g3, k3⟩ := MF.set F2.1 e3 (slt_o tbC_169 rfl) ⟨by omega, by omega⟩ (by omega)
    obtain ⟨-, g4, -, -⟩ := stI e3 F2.1 (by omega) (slt_o tbC_169 rfl) ⟨by omega, by omega⟩
    refine h w3 (F1.tr (F2.tr F3)) (g3.trans (by omega)) (fun i hi => ?_) (some (iv (p : Nat))) rfl
    rw [g4, if_neg (by omega), g2]
    unfold insO
    rw [hpe]
    by_cases q : i = p
    · rw [if_pos ⟨rfl, q⟩, if_neg (by omega), if_pos q]
    · rw [if_neg (fun z => q z.2), hV i hi q]
      by_cases q2 : p < i
      · rw [if_pos q2, if_neg (by omega), if_neg q]
      · rw [if_neg q2, if_pos (by omega)]
  intro p
  induction p with
  | zero =>
    intro hp hpe w1 F1 n1 hV
    refine v294_35 F1.1 hx1 (bdk (by omega)) (bdk (by omega)) ⟨fun _ => ⟨⟨by omega, by omega⟩, ?_⟩, fun q => by omega⟩
    exact hfin 0 w1 hp hpe.symm F1 n1 hV
  | succ p ih =>
    intro hp hpe w1 F1 n1 hV
    have hop := ho p (by omega)
    have hV1 := hV p (by omega) (by omega)
    rw [if_neg (by omega)] at hV1
    refine v294_35 F1.1 hx1 (bdk (by omega)) (bdk (by omega)) ?_
    rw [show (((p + 1 : Nat) : Int) - 1).toNat = p from by omega, hV1, Int.toNat_natCast]
    refine ⟨fun q => by omega, fun _ => ⟨⟨by omega, by omega⟩, c293 F1.1 (F1.mr hM) hk (by omega) ?_⟩⟩
    by_cases q : rRank m k < rRank m (ord p)
    · rw [if_pos (Or.inl q)]
      refine kI_iv (by decide) ⟨F1.1, fun z => absurd z (by decide), fun _ => ⟨⟨by omega, by omega⟩, ⟨by omega, by omega⟩, fun w7 e7 => ?_⟩⟩
      rw [hV1] at e7
      obtain ⟨F7, k7, g7⟩ := MF.oth F1.1 e7 (slt_a tbC_176) (bdk (by omega)) (by omega)
      have := ih (by omega) (by rw [← hpe]; exact (if_pos q).symm) w7 (F1.tr F7) (by rw [g7, if_neg (by omega), n1]) (fun i hi hip => ?_)
      · rw [show (((p + 1 : Nat) : Int) + (-1)) = (p : Int) from by omega]
        exact this
      · rw [g7]
        by_cases q2 : i = p + 1
        · rw [if_pos ⟨rfl, q2⟩, if_pos (by omega), q2]
          rfl
        · rw [if_neg (fun z => q2 z.2), hV i hi q2]
          by_cases q3 : p + 1 < i
          · rw [if_pos q3, if_pos (by omega)]
          · rw [if_neg q3, if_neg (by omega)]
    · rw [if_neg (by omega)]
      refine kI_iv bd0 ⟨F1.1, fun _ => ⟨⟨by omega, by omega⟩, ?_⟩, fun z => absurd rfl z⟩
      refine hfin (p + 1) w1 hp ?_ F1 n1 hV
      rw [← hpe]
      exact if_neg q
theorem l294_7 {w : PW} {Q : PO → PW → Prop} {x1 : Int} {m : Row} (hs : Sh w) (hx1 : bd x1) (hM : MR w m) (h : ∀ w2, MF w w2 → gI w2 169 26 = (ordR m x1 : Nat) → (∀ j, j < ordR m x1 → gI w2 176 j = (ordN m x1 j : Nat)) → Q (.inl none) w2) : ∀ k i : Nat, i + k = (m 5).toNat → ∀ w1, MF w w1 → gI w1 169 26 = ((sOrd m x1 i).2 : Nat) → (∀ j, j < (sOrd m x1 i).2 → gI w1 176 j = ((sOrd m x1 i).1 j : Nat)) → ∀ o3 : Option Value, pc2 o3 = false → pX 294 7 [some (.ref 169), some (iv x1), some (iv (i : Nat)), o3] [] w1 Q := by
  have h5 := hM.ok.n
  intro k
  induction k with
  | zero =>
    intro i hi w1 F1 n1 hV o3 ho
    refine v294_7 F1.1 hx1 (bdk (by omega)) ho ?_
    rw [(F1.mr hM).g (k := 5) rfl]
    refine ⟨fun _ => ?_, fun q => by omega⟩
    rw [show i = (m 5).toNat from by omega] at n1 hV
    exact h w1 F1 n1 hV
  | succ k ih =>
    intro i hi w1 F1 n1 hV o3 ho
    have hok := sOrd_ok m x1 i
    refine v294_7 F1.1 hx1 (bdk (by omega)) ho ?_
    rw [(F1.mr hM).g (k := 5) rfl, (F1.mr hM).N0 (by omega), n1]
    refine ⟨fun q => by omega, fun _ => ⟨⟨by omega, by omega⟩, fun q => ?_, fun q => ?_⟩⟩
    · have e : sOrd m x1 (i + 1) = (insO m (sOrd m x1 i).1 (sOrd m x1 i).2 i, (sOrd m x1 i).2 + 1) := if_pos q
      exact l294_35 (w := w) (cN := (sOrd m x1 i).2) (ord := (sOrd m x1 i).1) hx1 hM (by omega) (by omega) (fun j hj => (hok.2 j hj).1) (fun w2 F2 n2 hV2 p3 hp3 => ih (i + 1) (by omega) w2 F2 (by rw [e]; exact n2) (by rw [e]; exact hV2) p3 hp3) (sOrd m x1 i).2 (Nat.le_refl _) rfl w1 F1 n1 (fun j hj hj2 => by rw [if_neg (by omega)]; exact hV j (by omega))
    · have e : sOrd m x1 (i + 1) = sOrd m x1 i := if_neg q
      exact ih (i + 1) (by omega) w1 F1 (by rw [e]; exact n1) (by rw [e]; exact hV) o3 ho
theorem c294 {x1 : Int} (hs : Sh w) (hM : MR w m) (hx1 : bd x1) (h : ∀ w2, MF w w2 → gI w2 169 26 = (ordR m x1 : Nat) → (∀ j, j < ordR m x1 → gI w2 176 j = (ordN m x1 j : Nat)) → Q (.inl none) w2) : pC 294 [.ref 169, iv x1] w Q := by
  refine e294 hs hx1 (fun w1 e1 => ?_)
  obtain ⟨F1, g1, k1⟩ := MF.set hs e1 (slt_o tbC_169 rfl) bd0 (by omega)
  exact l294_7 (w := w1) F1.1 hx1 (F1.mr hM) (fun w2 F2 n2 hV => h w2 (F1.tr F2) n2 hV) _ 0 (Nat.zero_add _) w1 (MF.rf F1.1) g1 (fun j hj => absurd hj (Nat.not_lt_zero _)) none rfl
theorem l295_9 {w : PW} {Q : PO → PW → Prop} {d o : Nat} {m : Row} {x0 but : Int} (hs : Sh w) (hM : MR w m) (hd : d < 60) (hbut : bd but) (ho : gI w 176 d = (o : Nat)) (ho5 : (o : Int) < m 5) (h : Q (.inl (some (iv (if fnd (sNext m (rN m o 2) but x0) (m 4).toNat < (m 4).toNat then (fnd (sNext m (rN m o 2) but x0) (m 4).toNat : Int) else -1)))) w) : ∀ k i : Nat, i + k = (m 4).toNat → x0 < (i : Int) → (∀ j : Nat, j < i → sNext m (rN m o 2) but x0 j = false) → pX 295 9 [some (.ref 169), some (iv (d : Nat)), some (iv but), some (iv (i : Nat))] [] w Q := by
  have h4 := hM.ok.t
  have h5 := hM.ok.n
  intro k
  induction k with
  | zero =>
    intro i hi hx hI
    refine v295_9 hs (bdk (by omega)) hbut (bdk (by omega)) ?_
    rw [hM.g (k := 4) rfl]
    refine ⟨fun _ => ?_, fun q => by omega⟩
    have e : fnd (sNext m (rN m o 2) but x0) (m 4).toNat = i := fnd_eq hI (fun q => absurd q (by omega)) (by omega)
    rw [e, if_neg (by omega)] at h
    exact h
  | succ k ih =>
    intro i hi hx hI
    refine v295_9 hs (bdk (by omega)) hbut (bdk (by omega)) ?_
    rw [hM.g (k := 4) rfl, Int.toNat_natCast, ho, hM.T0 (by omega), hM.N2 (by omega)]
    have hn : sNext m (rN m o 2) but x0 i = false → _ := fun q => ih (i + 1) (by omega) (by omega) (fun j hj => by
      by_cases e : j = i
      · subst e; exact q
      · exact hI j (by omega))
    refine ⟨fun q => by omega, fun _ => ⟨fun q => hn ?_, fun q => ⟨⟨by omega, by omega⟩, ⟨by omega, by omega⟩, ⟨by omega, by omega⟩, fun q2 => hn ?_, fun q2 => ?_⟩⟩⟩
    · unfold sNext
      rw [decide_eq_false (p := (i : Int) ≠ but) (fun z => z q), Bool.and_false, Bool.and_false]
    · unfold sNext
      rw [decide_eq_false (p := rT m i 0 = rN m o 2) q2, Bool.false_and, Bool.and_false]
    · have e : fnd (sNext m (rN m o 2) but x0) (m 4).toNat = i := fnd_eq hI (fun _ => by
        unfold sNext
        rw [decide_eq_true q, decide_eq_true q2, decide_eq_true hx]; rfl) (by omega)
      rw [e, if_pos (by omega)] at h
      exact h
theorem c295 {d o : Nat} {x0 but : Int} (hs : Sh w) (hM : MR w m) (hd : d < 60) (hbut : bd but) (ho : gI w 176 d = (o : Nat)) (ho5 : (o : Int) < m 5) (hc : gI w 177 d = x0) (hx0 : -1 ≤ x0 ∧ x0 < m 4) (h : Q (.inl (some (iv (if fnd (sNext m (rN m o 2) but x0) (m 4).toNat < (m 4).toNat then (fnd (sNext m (rN m o 2) but x0) (m 4).toNat : Int) else -1)))) w) : pC 295 [.ref 169, iv (d : Nat), iv but] w Q := by
  have h4 := hM.ok.t
  refine e295 hs (bdk (by omega)) hbut ⟨⟨by omega, by omega⟩, ?_⟩
  rw [Int.toNat_natCast, hc]
  have := l295_9 hs hM hd hbut ho ho5 h ((m 4).toNat - (x0 + 1).toNat) (x0 + 1).toNat (by omega) (by omega) (fun j hj => by
    unfold sNext
    rw [decide_eq_false (by omega), Bool.false_and])
  rw [show (((x0 + 1).toNat : Nat) : Int) = x0 + 1 from by omega] at this
  exact this
theorem l296_49 {w : PW} {Q : PO → PW → Prop} {u x s y : Nat} {m : Row} (hs : Sh w) (hM : MR w m) (hu : (u : Int) < m 1) (hx : x < 40) (hy : y < (m 1).toNat * (m 4).toNat) (hS : (s : Int) < m 0) (h1 : 0 < cnt (fun r => rTr m y r && nearI (m 0) s r (m 2)) (m 0).toNat → Q (.inl (some (iv 1))) w) (h : cnt (fun r => rTr m y r && nearI (m 0) s r (m 2)) (m 0).toNat = 0 → pX 296 5 [some (.ref 169), some (iv (u : Nat)), some (iv (x : Nat)), some (iv (s : Nat)), some (iv ((y : Int) + 2)), some (iv (m 0))] [] w Q) : ∀ k i : Nat, i + k = (m 0).toNat → cnt (fun r => rTr m y r && nearI (m 0) s r (m 2)) i = 0 → pX 296 49 [some (.ref 169), some (iv (u : Nat)), some (iv (x : Nat)), some (iv (s : Nat)), some (iv (y : Nat)), some (iv (i : Nat))] [] w Q := by
  have g0 := hM.ok.s
  have g1 := hM.ok.u
  have g4 := hM.ok.t
  have hut := UT_le hM.ok
  have h12 : (m 1).toNat * (m 4).toNat ≤ (m 1).toNat * 12 := Nat.mul_le_mul_left _ (by omega)
  intro k
  induction k with
  | zero =>
    intro i hi hinv
    refine v296_49 hs (bdk (by omega)) (bdk (by omega)) (bdk (by omega)) (bdk (by omega)) (bdk (by omega)) ?_
    rw [hM.g (k := 0) rfl]
    refine ⟨fun _ => ?_, fun q => by omega⟩
    rw [show (m 0).toNat = i from by omega, show m 0 = (i : Nat) from by omega] at h
    rw [show m 0 = (i : Nat) from by omega] at hinv
    exact h hinv
  | succ k ih =>
    intro i hi hinv
    have hno : (rTr m y i && nearI (m 0) s i (m 2)) = false → pX 296 49 [some (.ref 169), some (iv (u : Nat)), some (iv (x : Nat)), some (iv (s : Nat)), some (iv (y : Nat)), some (iv ((i : Int) + 1))] [] w Q := fun q => ih (i + 1) (by omega) (by
      rw [cnt_f (P := fun r => rTr m y r && nearI (m 0) s r (m 2)) q]
      exact hinv)
    refine v296_49 hs (bdk (by omega)) (bdk (by omega)) (bdk (by omega)) (bdk (by omega)) (bdk (by omega)) ?_
    rw [hM.g (k := 0) rfl, hM.g (k := 1) rfl, hM.g (k := 2) rfl, mOn_tr hM hy (by omega)]
    refine ⟨fun q => by omega, fun _ => ⟨by omega, ⟨by omega, by omega⟩, ⟨by omega, by omega⟩, fun q => hno ?_, fun q => ⟨⟨by omega, by omega⟩, ⟨by omega, hS⟩, ⟨by omega, by omega⟩, fun q2 => hno ?_, fun q2 => h1 (cnt_pos (i := i) (by omega) ?_)⟩⟩⟩
    · rw [Bool.eq_false_iff.mpr q, Bool.false_and]
    · rw [Bool.eq_false_iff.mpr q2, Bool.and_false]
    · show (rTr m y i && nearI (m 0) s i (m 2)) = true
      rw [q, q2]; rfl
theorem l296_5 {x s : Nat} {y : Int} (hs : Sh w) (hM : MR w m) (hu : (u : Int) < m 1) (hx : x < (m 1).toNat * (m 4).toNat) (hS : (s : Int) < m 0) (hy : -1 ≤ y ∧ y ≤ (x : Int) + 1) (h1 : sStr m u y s = true → Q (.inl (some (iv 1))) w) (h : sStr m u y s = false → ∀ o : Option Value, pc2 o = false → pX 296 5 [some (.ref 169), some (iv (u : Nat)), some (iv (x : Nat)), some (iv (s : Nat)), some (iv (y + 2)), o] [] w Q) (o5 : Option Value) (ho : pc2 o5 = false) : pX 296 5 [some (.ref 169), some (iv (u : Nat)), some (iv (x : Nat)), some (iv (s : Nat)), some (iv y), o5] [] w Q := by
  have g0 := hM.ok.s
  have g1 := hM.ok.u
  have g4 := hM.ok.t
  have hut := UT_le hM.ok
  refine v296_5 hs (bdk (by omega)) (bdk (by omega)) (bdk (by omega)) ⟨by omega, by omega⟩ ho ?_
  rw [hM.g (k := 1) rfl, hM.g (k := 4) rfl, hut.2, i2L_toInt ⟨by omega, by omega⟩, i2L_toInt ⟨by omega, by omega⟩, show (0 : Int64).toInt = 0 from by decide]
  refine ⟨⟨by omega, by omega⟩, fun q => by omega, fun _ => ⟨fun q => h ?_ o5 ho, fun q => ⟨⟨by omega, by omega⟩, ?_⟩⟩⟩
  · unfold sStr
    by_cases q2 : 0 ≤ y
    · rw [show cnt (fun r => rTr m y.toNat r && nearI (m 0) s r (m 2)) (m 0).toNat = 0 from cnt_zero (fun r _ => by rw [rTr_no (Or.inl (by omega)), Bool.false_and]), decide_eq_false (p := 0 < 0) (by decide), Bool.and_false, Bool.and_false]
    · rw [decide_eq_false q2, Bool.false_and]
  · obtain ⟨z, rfl⟩ := nat_of q.1
    have hm : (z : Int) % m 1 = (z : Int).tmod (m 1) := (Int.tmod_eq_emod_of_nonneg (by omega)).symm
    have hlt : (z : Int) % m 1 < m 1 := Int.emod_lt_of_pos _ (by omega)
    have hge : 0 ≤ (z : Int) % m 1 := Int.emod_nonneg _ (by omega)
    have e : sStr m u (z : Nat) s = (decide (0 ≤ (z : Int)) && (decide ((z : Int) % m 1 ≠ u) && decide (0 < cnt (fun r => rTr m z r && nearI (m 0) s r (m 2)) (m 0).toNat))) := rfl
    rw [decide_eq_true q.1, Bool.true_and] at e
    rw [← hm]
    refine ⟨⟨by omega, by omega⟩, fun q2 => ?_, fun q2 => h ?_ o5 ho⟩
    · rw [decide_eq_true (p := (z : Int) % m 1 ≠ u) q2, Bool.true_and] at e
      exact l296_49 hs hM hu (by omega) (by omega) hS (fun c => h1 (by rw [e, decide_eq_true c])) (fun c => h (by rw [e, c]; rfl) (some (iv (m 0))) rfl) (m 0).toNat 0 (Nat.zero_add _) rfl
    · rw [e, decide_eq_false (p := (z : Int) % m 1 ≠ u) (fun z => z q2), Bool.false_and]
theorem c296 {x s : Nat} (hs : Sh w) (hM : MR w m) (hu : (u : Int) < m 1) (hx : x < (m 1).toNat * (m 4).toNat) (hS : (s : Int) < m 0) (h : Q (.inl (some (iv (if sStr m u ((x : Int) - 1) s = false ∧ sStr m u ((x : Int) + 1) s = false then 0 else 1)))) w) : pC 296 [.ref 169, iv (u : Nat), iv (x : Nat), iv (s : Nat)] w Q := by
  have g0 := hM.ok.s
  have g1 := hM.ok.u
  have hut := UT_le hM.ok
  refine e296 hs (bdk (by omega)) (bdk (by omega)) (bdk (by omega)) (l296_5 hs hM hu hx hS ⟨by omega, by omega⟩ (fun q => ?_) (fun q p hp => ?_) none rfl)
  · rw [if_neg (fun z => by rw [q] at z; exact absurd z.1 (by decide))] at h
    exact h
  · rw [show (x : Int) - 1 + 2 = (x : Int) + 1 from by omega]
    refine l296_5 hs hM hu hx hS ⟨by omega, by omega⟩ (fun q2 => ?_) (fun q2 p2 hp2 => ?_) p hp
    · rw [if_neg (fun z => by rw [q2] at z; exact absurd z.2 (by decide))] at h
      exact h
    · refine v296_5 hs (bdk (by omega)) (bdk (by omega)) (bdk (by omega)) ⟨by omega, by omega⟩ hp2 ⟨⟨by omega, by omega⟩, fun _ => ?_, fun z => by omega⟩
      rw [if_pos ⟨q, q2⟩] at h
      exact h
end MSK
