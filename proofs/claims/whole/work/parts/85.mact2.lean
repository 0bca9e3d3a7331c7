/-! THE MODEL's ACTIONS: lay, transpose, turn, reverse -/
/-! 337: PinBarrelModel.lay(I)I -/
theorem b337 : mB 337 = cX9_lay := rfl
theorem r337 : mR 337 = (some .int) := rfl
theorem p337 (a b : Nat) : phi 337 a ≤ phi 337 b := Nat.le_refl 0
theorem d337_0 : decode cX9_lay 0 = .ok (.aload_n 0, 1) := by decide +kernel
theorem d337_1 : decode cX9_lay 1 = .ok (.iload_n 1, 1) := by decide +kernel
theorem d337_2 : decode cX9_lay 2 = .ok (.invokevirtual 377, 3) := by decide +kernel
theorem d337_5 : decode cX9_lay 5 = .ok (.ifCond .eq 5, 3) := by decide +kernel
theorem d337_8 : decode cX9_lay 8 = .ok (.iconst 0, 1) := by decide +kernel
theorem d337_9 : decode cX9_lay 9 = .ok (.ireturn, 1) := by decide +kernel
theorem d337_10 : decode cX9_lay 10 = .ok (.aload_n 0, 1) := by decide +kernel
theorem d337_11 : decode cX9_lay 11 = .ok (.iload_n 1, 1) := by decide +kernel
theorem d337_12 : decode cX9_lay 12 = .ok (.invokevirtual 391, 3) := by decide +kernel
theorem d337_15 : decode cX9_lay 15 = .ok (.istore_n 2, 1) := by decide +kernel
theorem d337_16 : decode cX9_lay 16 = .ok (.iload_n 2, 1) := by decide +kernel
theorem d337_17 : decode cX9_lay 17 = .ok (.iconst 1, 1) := by decide +kernel
theorem d337_18 : decode cX9_lay 18 = .ok (.if_icmp .eq 15, 3) := by decide +kernel
theorem d337_21 : decode cX9_lay 21 = .ok (.iload_n 2, 1) := by decide +kernel
theorem d337_22 : decode cX9_lay 22 = .ok (.ifCond .ne 8, 3) := by decide +kernel
theorem d337_25 : decode cX9_lay 25 = .ok (.bipush (-3), 2) := by decide +kernel
theorem d337_27 : decode cX9_lay 27 = .ok (.goto 5, 3) := by decide +kernel
theorem d337_30 : decode cX9_lay 30 = .ok (.bipush (-2), 2) := by decide +kernel
theorem d337_32 : decode cX9_lay 32 = .ok (.ireturn, 1) := by decide +kernel
theorem d337_33 : decode cX9_lay 33 = .ok (.aload_n 0, 1) := by decide +kernel
theorem d337_34 : decode cX9_lay 34 = .ok (.invokevirtual 419, 3) := by decide +kernel
theorem d337_37 : decode cX9_lay 37 = .ok (.aload_n 0, 1) := by decide +kernel
theorem d337_38 : decode cX9_lay 38 = .ok (.iload_n 1, 1) := by decide +kernel
theorem d337_39 : decode cX9_lay 39 = .ok (.invokevirtual 430, 3) := by decide +kernel
theorem d337_42 : decode cX9_lay 42 = .ok (.iconst 0, 1) := by decide +kernel
theorem d337_43 : decode cX9_lay 43 = .ok (.istore_n 3, 1) := by decide +kernel
theorem d337_44 : decode cX9_lay 44 = .ok (.iload_n 3, 1) := by decide +kernel
theorem d337_45 : decode cX9_lay 45 = .ok (.aload_n 0, 1) := by decide +kernel
theorem d337_46 : decode cX9_lay 46 = .ok (.getfield 298, 3) := by decide +kernel
theorem d337_49 : decode cX9_lay 49 = .ok (.if_icmp .ge 32, 3) := by decide +kernel
theorem d337_52 : decode cX9_lay 52 = .ok (.aload_n 0, 1) := by decide +kernel
theorem d337_53 : decode cX9_lay 53 = .ok (.iload_n 1, 1) := by decide +kernel
theorem d337_54 : decode cX9_lay 54 = .ok (.aload_n 0, 1) := by decide +kernel
theorem d337_55 : decode cX9_lay 55 = .ok (.aload_n 0, 1) := by decide +kernel
theorem d337_56 : decode cX9_lay 56 = .ok (.getfield 34, 3) := by decide +kernel
theorem d337_59 : decode cX9_lay 59 = .ok (.iload_n 3, 1) := by decide +kernel
theorem d337_60 : decode cX9_lay 60 = .ok (.iaload, 1) := by decide +kernel
theorem d337_61 : decode cX9_lay 61 = .ok (.iconst 1, 1) := by decide +kernel
theorem d337_62 : decode cX9_lay 62 = .ok (.invokevirtual 283, 3) := by decide +kernel
theorem d337_65 : decode cX9_lay 65 = .ok (.aload_n 0, 1) := by decide +kernel
theorem d337_66 : decode cX9_lay 66 = .ok (.getfield 37, 3) := by decide +kernel
theorem d337_69 : decode cX9_lay 69 = .ok (.iload_n 3, 1) := by decide +kernel
theorem d337_70 : decode cX9_lay 70 = .ok (.iaload, 1) := by decide +kernel
theorem d337_71 : decode cX9_lay 71 = .ok (.iconst 1, 1) := by decide +kernel
theorem d337_72 : decode cX9_lay 72 = .ok (.invokevirtual 160, 3) := by decide +kernel
theorem d337_75 : decode cX9_lay 75 = .ok (.iinc 3 1, 3) := by decide +kernel
theorem d337_78 : decode cX9_lay 78 = .ok (.goto (-34), 3) := by decide +kernel
theorem d337_81 : decode cX9_lay 81 = .ok (.aload_n 0, 1) := by decide +kernel
theorem d337_82 : decode cX9_lay 82 = .ok (.iload_n 1, 1) := by decide +kernel
theorem d337_83 : decode cX9_lay 83 = .ok (.invokevirtual 225, 3) := by decide +kernel
theorem d337_86 : decode cX9_lay 86 = .ok (.ireturn, 1) := by decide +kernel
theorem v337_0 {w : PW} {Q : PO → PW → Prop} {x1 : Int} (hs : Sh w) (hx1 : bd x1) (h : (bd ((gI w 170 1) - 1)) ∧ ((0 ≤ x1 ∧ x1 < gI w 170 1) → ∀ w2 : PW, w2 = sI w 169 0 0 → pC 299 [.ref 169, iv x1] w2 (kI fun u4 w3 => Sh w3 ∧ (u4 = 1 → pC 326 [.ref 169] w3 (kV fun w6 => Sh w6 ∧ pC 335 [.ref 169, iv x1] w6 (kV fun w8 => Sh w8 ∧ pX 337 44 [some (.ref 169), some (iv x1), some (iv u4), some (iv 0)] [] w8 Q))) ∧ (u4 ≠ 1 → (u4 ≠ 0 → Q (.inl (some (iv ((-2))))) w3) ∧ (u4 = 0 → Q (.inl (some (iv ((-3))))) w3)))) ∧ ((¬ (0 ≤ x1 ∧ x1 < gI w 170 1)) → ∀ w12 : PW, w12 = sI w 169 0 1 → Q (.inl (some (iv 0))) w12)) : pX 337 0 [some (.ref 169), some (iv x1), none, none] [] w Q :=
  w_f b337 d337_0 rfl rfl rfl <| w_f b337 d337_1 rfl rfl rfl <| w_cc b337 d337_2 rfl (pcl_v (n := 1) rfl rfl rfl (by decide +kernel) (sh_isOb hs (tlt 169 rfl) tbC_169) rfl rfl) rfl <| c275 hs hx1 h.1 (fun c1 => w_ifeq b337 d337_5 rfl rfl (p337 _ _) ⟨by decide, by decide⟩ (fun _ => w_f b337 d337_10 rfl rfl rfl <| w_f b337 d337_11 rfl rfl rfl <| w_c b337 d337_12 rfl (pcl_v (n := 1) rfl rfl rfl (by decide +kernel) (sh_isOb (Sh_sI hs (slt_o tbC_169 rfl)) (tlt 169 rfl) tbC_169) rfl rfl) rfl _ (hK_I fun u4 w3 hbu4 hkw3 => w_f b337 d337_15 rfl rfl rfl <| w_f b337 d337_16 rfl rfl rfl <| w_f b337 d337_17 rfl rfl rfl <| w_iceq b337 d337_18 rfl rfl (p337 _ _) hbu4 ⟨by decide, by decide⟩ (fun c5 => w_f b337 d337_33 rfl rfl rfl <| w_c b337 d337_34 rfl (pcl_v (n := 0) rfl rfl rfl (by decide +kernel) (sh_isOb hkw3.1 (tlt 169 rfl) tbC_169) rfl rfl) rfl _ (hK_V fun w6 hkw6 => w_f b337 d337_37 rfl rfl rfl <| w_f b337 d337_38 rfl rfl rfl <| w_c b337 d337_39 rfl (pcl_v (n := 1) rfl rfl rfl (by decide +kernel) (sh_isOb hkw6.1 (tlt 169 rfl) tbC_169) rfl rfl) rfl _ (hK_V fun w8 hkw8 => w_f b337 d337_42 rfl rfl rfl <| w_f b337 d337_43 rfl rfl rfl <| hkw8.2) hkw6.2) (hkw3.2.1 c5)) (fun c5 => w_f b337 d337_21 rfl rfl rfl <| w_ifne b337 d337_22 rfl rfl (p337 _ _) hbu4 (fun c10 => w_f b337 d337_30 rfl rfl rfl <| w_ri b337 d337_32 r337 ((hkw3.2.2 c5).1 c10)) (fun c10 => w_f b337 d337_25 rfl rfl rfl <| w_j b337 d337_27 rfl (p337 _ _) <| w_ri b337 d337_32 r337 ((hkw3.2.2 c5).2 c10)))) (h.2.1 c1 _ rfl)) (fun c => absurd c (by decide))) (fun c11 => w_ifeq b337 d337_5 rfl rfl (p337 _ _) ⟨by decide, by decide⟩ (fun c => absurd c (by decide)) (fun _ => w_f b337 d337_8 rfl rfl rfl <| w_ri b337 d337_9 r337 (h.2.2 c11 _ rfl)))
theorem e337 {w : PW} {Q : PO → PW → Prop} {x1 : Int} (hs : Sh w) (hx1 : bd x1) (h : (bd ((gI w 170 1) - 1)) ∧ ((0 ≤ x1 ∧ x1 < gI w 170 1) → ∀ w2 : PW, w2 = sI w 169 0 0 → pC 299 [.ref 169, iv x1] w2 (kI fun u4 w3 => Sh w3 ∧ (u4 = 1 → pC 326 [.ref 169] w3 (kV fun w6 => Sh w6 ∧ pC 335 [.ref 169, iv x1] w6 (kV fun w8 => Sh w8 ∧ pX 337 44 [some (.ref 169), some (iv x1), some (iv u4), some (iv 0)] [] w8 Q))) ∧ (u4 ≠ 1 → (u4 ≠ 0 → Q (.inl (some (iv ((-2))))) w3) ∧ (u4 = 0 → Q (.inl (some (iv ((-3))))) w3)))) ∧ ((¬ (0 ≤ x1 ∧ x1 < gI w 170 1)) → ∀ w12 : PW, w12 = sI w 169 0 1 → Q (.inl (some (iv 0))) w12)) : pC 337 [.ref 169, iv x1] w Q :=
  (pC_in (Nat.le_of_ble_eq_true rfl) rfl Q).mpr (v337_0 hs hx1 h)
theorem v337_44 {w : PW} {Q : PO → PW → Prop} {x1 : Int} {x2 : Int} {x3 : Int} (hs : Sh w) (hx1 : bd x1) (hx2 : bd x2) (hx3 : bd x3) (h : ((gI w 169 26) ≤ x3 → pC 247 [.ref 169, iv x1] w (kI fun u3 w2 => Sh w2 ∧ Q (.inl (some (iv u3))) w2)) ∧ (x3 < (gI w 169 26) → (0 ≤ x3 ∧ x3 < 60) ∧ (0 ≤ (71 + 3 * (gI w 176 x3.toNat)) + 1 ∧ (71 + 3 * (gI w 176 x3.toNat)) + 1 < 843) ∧ (0 ≤ x3 ∧ x3 < 61) ∧ pC 237 [.ref 169, iv x1, iv (gI w 170 ((71 + 3 * (gI w 176 x3.toNat)) + 1).toNat), iv (gI w 177 x3.toNat), iv 1] w (kV fun w4 => Sh w4 ∧ pX 337 44 [some (.ref 169), some (iv x1), some (iv x2), some (iv (x3 + 1))] [] w4 Q))) : pX 337 44 [some (.ref 169), some (iv x1), some (iv x2), some (iv x3)] [] w Q :=
  w_f b337 d337_44 rfl rfl rfl <| w_f b337 d337_45 rfl rfl rfl <| w_gi b337 d337_46 rfl rfl hs (tlt 169 rfl) tbC_169 rfl <| w_icge b337 d337_49 rfl rfl (p337 _ _) hx3 (bd_gI _ _ _) (fun c1 => w_f b337 d337_81 rfl rfl rfl <| w_f b337 d337_82 rfl rfl rfl <| w_c b337 d337_83 rfl (pcl_v (n := 1) rfl rfl rfl (by decide +kernel) (sh_isOb hs (tlt 169 rfl) tbC_169) rfl rfl) rfl _ (hK_I fun u3 w2 hbu3 hkw2 => w_ri b337 d337_86 r337 hkw2.2) (h.1 c1)) (fun c1 => w_f b337 d337_52 rfl rfl rfl <| w_f b337 d337_53 rfl rfl rfl <| w_f b337 d337_54 rfl rfl rfl <| w_f b337 d337_55 rfl rfl rfl <| w_gr b337 d337_56 rfl rfl hs (tlt 169 rfl) tbC_169 rfl (by decide) <| w_f b337 d337_59 rfl rfl rfl <| w_ial b337 d337_60 rfl hs (tlt 176 rfl) tbC_176 (bdix (n := 60) (h.2 c1).1 rfl) (h.2 c1).1 <| w_f b337 d337_61 rfl rfl rfl <| w_cc b337 d337_62 rfl (pcl_v (n := 2) rfl rfl rfl (by decide +kernel) (sh_isOb hs (tlt 169 rfl) tbC_169) rfl rfl) rfl <| c267 hs (bd_gI _ _ _) ⟨by decide, by decide⟩ (h.2 c1).2.1 <| w_f b337 d337_65 rfl rfl rfl <| w_gr b337 d337_66 rfl rfl hs (tlt 169 rfl) tbC_169 rfl (by decide) <| w_f b337 d337_69 rfl rfl rfl <| w_ial b337 d337_70 rfl hs (tlt 177 rfl) tbC_177 (bdix (n := 61) (h.2 c1).2.2.1 rfl) (h.2 c1).2.2.1 <| w_f b337 d337_71 rfl rfl rfl <| w_c b337 d337_72 rfl (pcl_v (n := 4) rfl rfl rfl (by decide +kernel) (sh_isOb hs (tlt 169 rfl) tbC_169) rfl rfl) rfl _ (hK_V fun w4 hkw4 => w_f b337 d337_75 rfl (pf_iinc rfl rfl) rfl <| w_j b337 d337_78 rfl (p337 _ _) <| hkw4.2) (h.2 c1).2.2.2)
/-! 338: PinBarrelModel.transpose(II)I -/
theorem b338 : mB 338 = cX9_transpose := rfl
theorem r338 : mR 338 = (some .int) := rfl
theorem p338 (a b : Nat) : phi 338 a ≤ phi 338 b := Nat.le_refl 0
theorem d338_0 : decode cX9_transpose 0 = .ok (.aload_n 0, 1) := by decide +kernel
theorem d338_1 : decode cX9_transpose 1 = .ok (.aload_n 0, 1) := by decide +kernel
theorem d338_2 : decode cX9_transpose 2 = .ok (.iload_n 1, 1) := by decide +kernel
theorem d338_3 : decode cX9_transpose 3 = .ok (.invokevirtual 340, 3) := by decide +kernel
theorem d338_6 : decode cX9_transpose 6 = .ok (.ifCond .eq 17, 3) := by decide +kernel
theorem d338_9 : decode cX9_transpose 9 = .ok (.iload_n 2, 1) := by decide +kernel
theorem d338_10 : decode cX9_transpose 10 = .ok (.i2l, 1) := by decide +kernel
theorem d338_11 : decode cX9_transpose 11 = .ok (.ldc2_w 433, 3) := by decide +kernel
theorem d338_14 : decode cX9_transpose 14 = .ok (.ldc2_w 338, 3) := by decide +kernel
theorem d338_17 : decode cX9_transpose 17 = .ok (.invokestatic 81, 3) := by decide +kernel
theorem d338_20 : decode cX9_transpose 20 = .ok (.ifCond .ne 7, 3) := by decide +kernel
theorem d338_23 : decode cX9_transpose 23 = .ok (.iconst 1, 1) := by decide +kernel
theorem d338_24 : decode cX9_transpose 24 = .ok (.goto 4, 3) := by decide +kernel
theorem d338_27 : decode cX9_transpose 27 = .ok (.iconst 0, 1) := by decide +kernel
theorem d338_28 : decode cX9_transpose 28 = .ok (.invokevirtual 328, 3) := by decide +kernel
theorem d338_31 : decode cX9_transpose 31 = .ok (.ifCond .eq 5, 3) := by decide +kernel
theorem d338_34 : decode cX9_transpose 34 = .ok (.iconst 0, 1) := by decide +kernel
theorem d338_35 : decode cX9_transpose 35 = .ok (.ireturn, 1) := by decide +kernel
theorem d338_36 : decode cX9_transpose 36 = .ok (.iconst 0, 1) := by decide +kernel
theorem d338_37 : decode cX9_transpose 37 = .ok (.istore_n 3, 1) := by decide +kernel
theorem d338_38 : decode cX9_transpose 38 = .ok (.iload_n 3, 1) := by decide +kernel
theorem d338_39 : decode cX9_transpose 39 = .ok (.aload_n 0, 1) := by decide +kernel
theorem d338_40 : decode cX9_transpose 40 = .ok (.getfield 9, 3) := by decide +kernel
theorem d338_43 : decode cX9_transpose 43 = .ok (.iconst 5, 1) := by decide +kernel
theorem d338_44 : decode cX9_transpose 44 = .ok (.iaload, 1) := by decide +kernel
theorem d338_45 : decode cX9_transpose 45 = .ok (.if_icmp .ge 36, 3) := by decide +kernel
theorem d338_48 : decode cX9_transpose 48 = .ok (.aload_n 0, 1) := by decide +kernel
theorem d338_49 : decode cX9_transpose 49 = .ok (.iload_n 3, 1) := by decide +kernel
theorem d338_50 : decode cX9_transpose 50 = .ok (.iconst 0, 1) := by decide +kernel
theorem d338_51 : decode cX9_transpose 51 = .ok (.invokevirtual 283, 3) := by decide +kernel
theorem d338_54 : decode cX9_transpose 54 = .ok (.iload_n 1, 1) := by decide +kernel
theorem d338_55 : decode cX9_transpose 55 = .ok (.if_icmp .ne 20, 3) := by decide +kernel
theorem d338_58 : decode cX9_transpose 58 = .ok (.aload_n 0, 1) := by decide +kernel
theorem d338_59 : decode cX9_transpose 59 = .ok (.iload_n 3, 1) := by decide +kernel
theorem d338_60 : decode cX9_transpose 60 = .ok (.iconst 2, 1) := by decide +kernel
theorem d338_61 : decode cX9_transpose 61 = .ok (.invokevirtual 283, 3) := by decide +kernel
theorem d338_64 : decode cX9_transpose 64 = .ok (.iload_n 2, 1) := by decide +kernel
theorem d338_65 : decode cX9_transpose 65 = .ok (.iadd, 1) := by decide +kernel
theorem d338_66 : decode cX9_transpose 66 = .ok (.invokestatic 396, 3) := by decide +kernel
theorem d338_69 : decode cX9_transpose 69 = .ok (.ifCond .ne 6, 3) := by decide +kernel
theorem d338_72 : decode cX9_transpose 72 = .ok (.bipush (-3), 2) := by decide +kernel
theorem d338_74 : decode cX9_transpose 74 = .ok (.ireturn, 1) := by decide +kernel
theorem d338_75 : decode cX9_transpose 75 = .ok (.iinc 3 1, 3) := by decide +kernel
theorem d338_78 : decode cX9_transpose 78 = .ok (.goto (-40), 3) := by decide +kernel
theorem d338_81 : decode cX9_transpose 81 = .ok (.aload_n 0, 1) := by decide +kernel
theorem d338_82 : decode cX9_transpose 82 = .ok (.invokevirtual 419, 3) := by decide +kernel
theorem d338_85 : decode cX9_transpose 85 = .ok (.iconst 0, 1) := by decide +kernel
theorem d338_86 : decode cX9_transpose 86 = .ok (.istore_n 3, 1) := by decide +kernel
theorem d338_87 : decode cX9_transpose 87 = .ok (.iload_n 3, 1) := by decide +kernel
theorem d338_88 : decode cX9_transpose 88 = .ok (.aload_n 0, 1) := by decide +kernel
theorem d338_89 : decode cX9_transpose 89 = .ok (.getfield 9, 3) := by decide +kernel
theorem d338_92 : decode cX9_transpose 92 = .ok (.iconst 5, 1) := by decide +kernel
theorem d338_93 : decode cX9_transpose 93 = .ok (.iaload, 1) := by decide +kernel
theorem d338_94 : decode cX9_transpose 94 = .ok (.if_icmp .ge 33, 3) := by decide +kernel
theorem d338_97 : decode cX9_transpose 97 = .ok (.aload_n 0, 1) := by decide +kernel
theorem d338_98 : decode cX9_transpose 98 = .ok (.iload_n 3, 1) := by decide +kernel
theorem d338_99 : decode cX9_transpose 99 = .ok (.iconst 0, 1) := by decide +kernel
theorem d338_100 : decode cX9_transpose 100 = .ok (.invokevirtual 283, 3) := by decide +kernel
theorem d338_103 : decode cX9_transpose 103 = .ok (.iload_n 1, 1) := by decide +kernel
theorem d338_104 : decode cX9_transpose 104 = .ok (.if_icmp .ne 17, 3) := by decide +kernel
theorem d338_107 : decode cX9_transpose 107 = .ok (.aload_n 0, 1) := by decide +kernel
theorem d338_108 : decode cX9_transpose 108 = .ok (.getfield 9, 3) := by decide +kernel
theorem d338_111 : decode cX9_transpose 111 = .ok (.iload_n 3, 1) := by decide +kernel
theorem d338_112 : decode cX9_transpose 112 = .ok (.iconst 2, 1) := by decide +kernel
theorem d338_113 : decode cX9_transpose 113 = .ok (.invokestatic 210, 3) := by decide +kernel
theorem d338_116 : decode cX9_transpose 116 = .ok (.dup2, 1) := by decide +kernel
theorem d338_117 : decode cX9_transpose 117 = .ok (.iaload, 1) := by decide +kernel
theorem d338_118 : decode cX9_transpose 118 = .ok (.iload_n 2, 1) := by decide +kernel
theorem d338_119 : decode cX9_transpose 119 = .ok (.iadd, 1) := by decide +kernel
theorem d338_120 : decode cX9_transpose 120 = .ok (.iastore, 1) := by decide +kernel
theorem d338_121 : decode cX9_transpose 121 = .ok (.iinc 3 1, 3) := by decide +kernel
theorem d338_124 : decode cX9_transpose 124 = .ok (.goto (-37), 3) := by decide +kernel
theorem d338_127 : decode cX9_transpose 127 = .ok (.aload_n 0, 1) := by decide +kernel
theorem d338_128 : decode cX9_transpose 128 = .ok (.iload_n 1, 1) := by decide +kernel
theorem d338_129 : decode cX9_transpose 129 = .ok (.invokevirtual 292, 3) := by decide +kernel
theorem d338_132 : decode cX9_transpose 132 = .ok (.ireturn, 1) := by decide +kernel
theorem v338_0 {w : PW} {Q : PO → PW → Prop} {x1 : Int} {x2 : Int} (hs : Sh w) (hx1 : bd x1) (hx2 : bd x2) (h : (bd ((gI w 170 1) - 1)) ∧ ((¬ (0 ≤ x1 ∧ x1 < gI w 170 1)) → ∀ w2 : PW, w2 = sI w 169 0 1 → Q (.inl (some (iv 0))) w2) ∧ ((0 ≤ x1 ∧ x1 < gI w 170 1) → ((((-23 : Int64)).toInt ≤ (i2L x2).toInt ∧ (i2L x2).toInt ≤ ((23 : Int64)).toInt) → ∀ w4 : PW, w4 = sI w 169 0 0 → pX 338 38 [some (.ref 169), some (iv x1), some (iv x2), some (iv 0)] [] w4 Q) ∧ ((¬ (((-23 : Int64)).toInt ≤ (i2L x2).toInt ∧ (i2L x2).toInt ≤ ((23 : Int64)).toInt)) → ∀ w5 : PW, w5 = sI w 169 0 1 → Q (.inl (some (iv 0))) w5))) : pX 338 0 [some (.ref 169), some (iv x1), some (iv x2), none] [] w Q :=
  w_f b338 d338_0 rfl rfl rfl <| w_f b338 d338_1 rfl rfl rfl <| w_f b338 d338_2 rfl rfl rfl <| w_cc b338 d338_3 rfl (pcl_v (n := 1) rfl rfl rfl (by decide +kernel) (sh_isOb hs (tlt 169 rfl) tbC_169) rfl rfl) rfl <| c271 hs hx1 h.1 <| w_ifeqZ b338 d338_6 rfl rfl (p338 _ _) (fun c1 => w_f b338 d338_23 rfl rfl rfl <| w_j b338 d338_24 rfl (p338 _ _) <| w_cc b338 d338_28 rfl (pcl_v (n := 1) rfl rfl rfl (by decide +kernel) (sh_isOb hs (tlt 169 rfl) tbC_169) rfl rfl) rfl <| c245 hs ⟨by decide, by decide⟩ (by decide) <| w_ifeq b338 d338_31 rfl rfl (p338 _ _) ⟨by decide, by decide⟩ (fun c => absurd c (by decide)) (fun _ => w_f b338 d338_34 rfl rfl rfl <| w_ri b338 d338_35 r338 ((h.2.1 c1) _ rfl))) (fun c1 => w_f b338 d338_9 rfl rfl rfl <| w_f b338 d338_10 rfl rfl rfl <| w_ldcL b338 d338_11 rfl rfl <| w_ldcL b338 d338_14 rfl rfl <| w_cc b338 d338_17 rfl (pcl_s1 (n := 3) rfl rfl rfl (by decide +kernel) rfl rfl) rfl <| c221 hs <| w_ifneZ b338 d338_20 rfl rfl (p338 _ _) (fun c3 => w_f b338 d338_27 rfl rfl rfl <| w_cc b338 d338_28 rfl (pcl_v (n := 1) rfl rfl rfl (by decide +kernel) (sh_isOb hs (tlt 169 rfl) tbC_169) rfl rfl) rfl <| c245 hs ⟨by decide, by decide⟩ (by decide) <| w_ifeq b338 d338_31 rfl rfl (p338 _ _) ⟨by decide, by decide⟩ (fun _ => w_f b338 d338_36 rfl rfl rfl <| w_f b338 d338_37 rfl rfl rfl <| (((h.2.2 c1).1 c3) _ rfl)) (fun c => absurd c (by decide))) (fun c3 => w_f b338 d338_23 rfl rfl rfl <| w_j b338 d338_24 rfl (p338 _ _) <| w_cc b338 d338_28 rfl (pcl_v (n := 1) rfl rfl rfl (by decide +kernel) (sh_isOb hs (tlt 169 rfl) tbC_169) rfl rfl) rfl <| c245 hs ⟨by decide, by decide⟩ (by decide) <| w_ifeq b338 d338_31 rfl rfl (p338 _ _) ⟨by decide, by decide⟩ (fun c => absurd c (by decide)) (fun _ => w_f b338 d338_34 rfl rfl rfl <| w_ri b338 d338_35 r338 (((h.2.2 c1).2 c3) _ rfl))))
theorem e338 {w : PW} {Q : PO → PW → Prop} {x1 : Int} {x2 : Int} (hs : Sh w) (hx1 : bd x1) (hx2 : bd x2) (h : (bd ((gI w 170 1) - 1)) ∧ ((¬ (0 ≤ x1 ∧ x1 < gI w 170 1)) → ∀ w2 : PW, w2 = sI w 169 0 1 → Q (.inl (some (iv 0))) w2) ∧ ((0 ≤ x1 ∧ x1 < gI w 170 1) → ((((-23 : Int64)).toInt ≤ (i2L x2).toInt ∧ (i2L x2).toInt ≤ ((23 : Int64)).toInt) → ∀ w4 : PW, w4 = sI w 169 0 0 → pX 338 38 [some (.ref 169), some (iv x1), some (iv x2), some (iv 0)] [] w4 Q) ∧ ((¬ (((-23 : Int64)).toInt ≤ (i2L x2).toInt ∧ (i2L x2).toInt ≤ ((23 : Int64)).toInt)) → ∀ w5 : PW, w5 = sI w 169 0 1 → Q (.inl (some (iv 0))) w5))) : pC 338 [.ref 169, iv x1, iv x2] w Q :=
  (pC_in (Nat.le_of_ble_eq_true rfl) rfl Q).mpr (v338_0 hs hx1 hx2 h)
theorem v338_38 {w : PW} {Q : PO → PW → Prop} {x1 : Int} {x2 : Int} {x3 : Int} (hs : Sh w) (hx1 : bd x1) (hx2 : bd x2) (hx3 : bd x3) (h : ((gI w 170 5) ≤ x3 → pC 326 [.ref 169] w (kV fun w2 => Sh w2 ∧ pX 338 87 [some (.ref 169), some (iv x1), some (iv x2), some (iv 0)] [] w2 Q)) ∧ (x3 < (gI w 170 5) → (0 ≤ (71 + 3 * x3) + 0 ∧ (71 + 3 * x3) + 0 < 843) ∧ ((gI w 170 ((71 + 3 * x3) + 0).toNat) ≠ x1 → pX 338 38 [some (.ref 169), some (iv x1), some (iv x2), some (iv (x3 + 1))] [] w Q) ∧ ((gI w 170 ((71 + 3 * x3) + 0).toNat) = x1 → (0 ≤ (71 + 3 * x3) + 2 ∧ (71 + 3 * x3) + 2 < 843) ∧ (bd ((gI w 170 ((71 + 3 * x3) + 2).toNat) + x2)) ∧ ((0 ≤ ((gI w 170 ((71 + 3 * x3) + 2).toNat) + x2) ∧ ((gI w 170 ((71 + 3 * x3) + 2).toNat) + x2) ≤ 23) → pX 338 38 [some (.ref 169), some (iv x1), some (iv x2), some (iv (x3 + 1))] [] w Q) ∧ ((¬ (0 ≤ ((gI w 170 ((71 + 3 * x3) + 2).toNat) + x2) ∧ ((gI w 170 ((71 + 3 * x3) + 2).toNat) + x2) ≤ 23)) → Q (.inl (some (iv ((-3))))) w)))) : pX 338 38 [some (.ref 169), some (iv x1), some (iv x2), some (iv x3)] [] w Q :=
  w_f b338 d338_38 rfl rfl rfl <| w_f b338 d338_39 rfl rfl rfl <| w_gr b338 d338_40 rfl rfl hs (tlt 169 rfl) tbC_169 rfl (by decide) <| w_f b338 d338_43 rfl rfl rfl <| w_ial b338 d338_44 rfl hs (tlt 170 rfl) tbC_170 (bdix (n := 843) ⟨by decide, by decide⟩ rfl) ⟨by decide, by decide⟩ <| w_icge b338 d338_45 rfl rfl (p338 _ _) hx3 (bd_gI _ _ _) (fun c1 => w_f b338 d338_81 rfl rfl rfl <| w_c b338 d338_82 rfl (pcl_v (n := 0) rfl rfl rfl (by decide +kernel) (sh_isOb hs (tlt 169 rfl) tbC_169) rfl rfl) rfl _ (hK_V fun w2 hkw2 => w_f b338 d338_85 rfl rfl rfl <| w_f b338 d338_86 rfl rfl rfl <| hkw2.2) (h.1 c1)) (fun c1 => w_f b338 d338_48 rfl rfl rfl <| w_f b338 d338_49 rfl rfl rfl <| w_f b338 d338_50 rfl rfl rfl <| w_cc b338 d338_51 rfl (pcl_v (n := 2) rfl rfl rfl (by decide +kernel) (sh_isOb hs (tlt 169 rfl) tbC_169) rfl rfl) rfl <| c267 hs hx3 ⟨by decide, by decide⟩ (h.2 c1).1 <| w_f b338 d338_54 rfl rfl rfl <| w_icne b338 d338_55 rfl rfl (p338 _ _) (bd_gI _ _ _) hx1 (fun c4 => w_f b338 d338_75 rfl (pf_iinc rfl rfl) rfl <| w_j b338 d338_78 rfl (p338 _ _) <| ((h.2 c1).2.1 c4)) (fun c4 => w_f b338 d338_58 rfl rfl rfl <| w_f b338 d338_59 rfl rfl rfl <| w_f b338 d338_60 rfl rfl rfl <| w_cc b338 d338_61 rfl (pcl_v (n := 2) rfl rfl rfl (by decide +kernel) (sh_isOb hs (tlt 169 rfl) tbC_169) rfl rfl) rfl <| c267 hs hx3 ⟨by decide, by decide⟩ ((h.2 c1).2.2 c4).1 <| w_f b338 d338_64 rfl rfl rfl <| w_f b338 d338_65 rfl (pf_iadd (gI w 170 ((71 + 3 * x3) + 2).toNat) x2) rfl <| w_cc b338 d338_66 rfl (pcl_s1 (n := 1) rfl rfl rfl (by decide +kernel) rfl rfl) rfl <| c309 hs ((h.2 c1).2.2 c4).2.1 <| w_ifneZ b338 d338_69 rfl rfl (p338 _ _) (fun c5 => w_f b338 d338_75 rfl (pf_iinc rfl rfl) rfl <| w_j b338 d338_78 rfl (p338 _ _) <| (((h.2 c1).2.2 c4).2.2.1 c5)) (fun c5 => w_f b338 d338_72 rfl rfl rfl <| w_ri b338 d338_74 r338 (((h.2 c1).2.2 c4).2.2.2 c5))))
theorem v338_87 {w : PW} {Q : PO → PW → Prop} {x1 : Int} {x2 : Int} {x3 : Int} (hs : Sh w) (hx1 : bd x1) (hx2 : bd x2) (hx3 : bd x3) (h : ((gI w 170 5) ≤ x3 → pC 287 [.ref 169, iv x1] w (kI fun u3 w2 => Sh w2 ∧ Q (.inl (some (iv u3))) w2)) ∧ (x3 < (gI w 170 5) → (0 ≤ (71 + 3 * x3) + 0 ∧ (71 + 3 * x3) + 0 < 843) ∧ ((gI w 170 ((71 + 3 * x3) + 0).toNat) ≠ x1 → pX 338 87 [some (.ref 169), some (iv x1), some (iv x2), some (iv (x3 + 1))] [] w Q) ∧ ((gI w 170 ((71 + 3 * x3) + 0).toNat) = x1 → (0 ≤ ((71 + 3 * x3) + 2) ∧ ((71 + 3 * x3) + 2) < 843) ∧ (0 ≤ ((71 + 3 * x3) + 2) ∧ ((71 + 3 * x3) + 2) < 843) ∧ ∀ w5 : PW, w5 = sI w 170 ((71 + 3 * x3) + 2).toNat ((gI w 170 ((71 + 3 * x3) + 2).toNat) + x2) → pX 338 87 [some (.ref 169), some (iv x1), some (iv x2), some (iv (x3 + 1))] [] w5 Q))) : pX 338 87 [some (.ref 169), some (iv x1), some (iv x2), some (iv x3)] [] w Q :=
  w_f b338 d338_87 rfl rfl rfl <| w_f b338 d338_88 rfl rfl rfl <| w_gr b338 d338_89 rfl rfl hs (tlt 169 rfl) tbC_169 rfl (by decide) <| w_f b338 d338_92 rfl rfl rfl <| w_ial b338 d338_93 rfl hs (tlt 170 rfl) tbC_170 (bdix (n := 843) ⟨by decide, by decide⟩ rfl) ⟨by decide, by decide⟩ <| w_icge b338 d338_94 rfl rfl (p338 _ _) hx3 (bd_gI _ _ _) (fun c1 => w_f b338 d338_127 rfl rfl rfl <| w_f b338 d338_128 rfl rfl rfl <| w_c b338 d338_129 rfl (pcl_v (n := 1) rfl rfl rfl (by decide +kernel) (sh_isOb hs (tlt 169 rfl) tbC_169) rfl rfl) rfl _ (hK_I fun u3 w2 hbu3 hkw2 => w_ri b338 d338_132 r338 hkw2.2) (h.1 c1)) (fun c1 => w_f b338 d338_97 rfl rfl rfl <| w_f b338 d338_98 rfl rfl rfl <| w_f b338 d338_99 rfl rfl rfl <| w_cc b338 d338_100 rfl (pcl_v (n := 2) rfl rfl rfl (by decide +kernel) (sh_isOb hs (tlt 169 rfl) tbC_169) rfl rfl) rfl <| c267 hs hx3 ⟨by decide, by decide⟩ (h.2 c1).1 <| w_f b338 d338_103 rfl rfl rfl <| w_icne b338 d338_104 rfl rfl (p338 _ _) (bd_gI _ _ _) hx1 (fun c4 => w_f b338 d338_121 rfl (pf_iinc rfl rfl) rfl <| w_j b338 d338_124 rfl (p338 _ _) <| ((h.2 c1).2.1 c4)) (fun c4 => w_f b338 d338_107 rfl rfl rfl <| w_gr b338 d338_108 rfl rfl hs (tlt 169 rfl) tbC_169 rfl (by decide) <| w_f b338 d338_111 rfl rfl rfl <| w_f b338 d338_112 rfl rfl rfl <| w_cc b338 d338_113 rfl (pcl_s1 (n := 2) rfl rfl rfl (by decide +kernel) rfl rfl) rfl <| c233 hs hx3 ⟨by decide, by decide⟩ <| w_f b338 d338_116 rfl rfl rfl <| w_ial b338 d338_117 rfl hs (tlt 170 rfl) tbC_170 (bdix (n := 843) ((h.2 c1).2.2 c4).1 rfl) ((h.2 c1).2.2 c4).1 <| w_f b338 d338_118 rfl rfl rfl <| w_f b338 d338_119 rfl (pf_iadd (gI w 170 ((71 + 3 * x3) + 2).toNat) x2) rfl <| w_ias b338 d338_120 rfl hs (tlt 170 rfl) tbC_170 (bdix (n := 843) ((h.2 c1).2.2 c4).2.1 rfl) ((h.2 c1).2.2 c4).2.1 <| w_f b338 d338_121 rfl (pf_iinc rfl rfl) rfl <| w_j b338 d338_124 rfl (p338 _ _) <| (((h.2 c1).2.2 c4).2.2 _ rfl)))
/-! 339: PinBarrelModel.turn(II)I -/
theorem b339 : mB 339 = cX9_turn := rfl
theorem r339 : mR 339 = (some .int) := rfl
theorem p339 (a b : Nat) : phi 339 a ≤ phi 339 b := Nat.le_refl 0
theorem d339_0 : decode cX9_turn 0 = .ok (.aload_n 0, 1) := by decide +kernel
theorem d339_1 : decode cX9_turn 1 = .ok (.aload_n 0, 1) := by decide +kernel
theorem d339_2 : decode cX9_turn 2 = .ok (.iload_n 1, 1) := by decide +kernel
theorem d339_3 : decode cX9_turn 3 = .ok (.invokevirtual 340, 3) := by decide +kernel
theorem d339_6 : decode cX9_turn 6 = .ok (.ifCond .eq 11, 3) := by decide +kernel
theorem d339_9 : decode cX9_turn 9 = .ok (.aload_n 0, 1) := by decide +kernel
theorem d339_10 : decode cX9_turn 10 = .ok (.iload_n 2, 1) := by decide +kernel
theorem d339_11 : decode cX9_turn 11 = .ok (.invokevirtual 371, 3) := by decide +kernel
theorem d339_14 : decode cX9_turn 14 = .ok (.ifCond .ne 7, 3) := by decide +kernel
theorem d339_17 : decode cX9_turn 17 = .ok (.iconst 1, 1) := by decide +kernel
theorem d339_18 : decode cX9_turn 18 = .ok (.goto 4, 3) := by decide +kernel
theorem d339_21 : decode cX9_turn 21 = .ok (.iconst 0, 1) := by decide +kernel
theorem d339_22 : decode cX9_turn 22 = .ok (.invokevirtual 328, 3) := by decide +kernel
theorem d339_25 : decode cX9_turn 25 = .ok (.ifCond .eq 5, 3) := by decide +kernel
theorem d339_28 : decode cX9_turn 28 = .ok (.iconst 0, 1) := by decide +kernel
theorem d339_29 : decode cX9_turn 29 = .ok (.ireturn, 1) := by decide +kernel
theorem d339_30 : decode cX9_turn 30 = .ok (.aload_n 0, 1) := by decide +kernel
theorem d339_31 : decode cX9_turn 31 = .ok (.invokevirtual 419, 3) := by decide +kernel
theorem d339_34 : decode cX9_turn 34 = .ok (.iconst 0, 1) := by decide +kernel
theorem d339_35 : decode cX9_turn 35 = .ok (.istore_n 3, 1) := by decide +kernel
theorem d339_36 : decode cX9_turn 36 = .ok (.iload_n 3, 1) := by decide +kernel
theorem d339_37 : decode cX9_turn 37 = .ok (.aload_n 0, 1) := by decide +kernel
theorem d339_38 : decode cX9_turn 38 = .ok (.getfield 9, 3) := by decide +kernel
theorem d339_41 : decode cX9_turn 41 = .ok (.iconst 5, 1) := by decide +kernel
theorem d339_42 : decode cX9_turn 42 = .ok (.iaload, 1) := by decide +kernel
theorem d339_43 : decode cX9_turn 43 = .ok (.if_icmp .ge 44, 3) := by decide +kernel
theorem d339_46 : decode cX9_turn 46 = .ok (.aload_n 0, 1) := by decide +kernel
theorem d339_47 : decode cX9_turn 47 = .ok (.iload_n 3, 1) := by decide +kernel
theorem d339_48 : decode cX9_turn 48 = .ok (.iconst 0, 1) := by decide +kernel
theorem d339_49 : decode cX9_turn 49 = .ok (.invokevirtual 283, 3) := by decide +kernel
theorem d339_52 : decode cX9_turn 52 = .ok (.iload_n 1, 1) := by decide +kernel
theorem d339_53 : decode cX9_turn 53 = .ok (.if_icmp .ne 28, 3) := by decide +kernel
theorem d339_56 : decode cX9_turn 56 = .ok (.aload_n 0, 1) := by decide +kernel
theorem d339_57 : decode cX9_turn 57 = .ok (.getfield 9, 3) := by decide +kernel
theorem d339_60 : decode cX9_turn 60 = .ok (.iload_n 3, 1) := by decide +kernel
theorem d339_61 : decode cX9_turn 61 = .ok (.iconst 1, 1) := by decide +kernel
theorem d339_62 : decode cX9_turn 62 = .ok (.invokestatic 210, 3) := by decide +kernel
theorem d339_65 : decode cX9_turn 65 = .ok (.aload_n 0, 1) := by decide +kernel
theorem d339_66 : decode cX9_turn 66 = .ok (.iload_n 3, 1) := by decide +kernel
theorem d339_67 : decode cX9_turn 67 = .ok (.iconst 1, 1) := by decide +kernel
theorem d339_68 : decode cX9_turn 68 = .ok (.invokevirtual 283, 3) := by decide +kernel
theorem d339_71 : decode cX9_turn 71 = .ok (.iload_n 2, 1) := by decide +kernel
theorem d339_72 : decode cX9_turn 72 = .ok (.iadd, 1) := by decide +kernel
theorem d339_73 : decode cX9_turn 73 = .ok (.aload_n 0, 1) := by decide +kernel
theorem d339_74 : decode cX9_turn 74 = .ok (.getfield 9, 3) := by decide +kernel
theorem d339_77 : decode cX9_turn 77 = .ok (.iconst 0, 1) := by decide +kernel
theorem d339_78 : decode cX9_turn 78 = .ok (.iaload, 1) := by decide +kernel
theorem d339_79 : decode cX9_turn 79 = .ok (.irem, 1) := by decide +kernel
theorem d339_80 : decode cX9_turn 80 = .ok (.iastore, 1) := by decide +kernel
theorem d339_81 : decode cX9_turn 81 = .ok (.iinc 3 1, 3) := by decide +kernel
theorem d339_84 : decode cX9_turn 84 = .ok (.goto (-48), 3) := by decide +kernel
theorem d339_87 : decode cX9_turn 87 = .ok (.aload_n 0, 1) := by decide +kernel
theorem d339_88 : decode cX9_turn 88 = .ok (.iload_n 1, 1) := by decide +kernel
theorem d339_89 : decode cX9_turn 89 = .ok (.iload_n 2, 1) := by decide +kernel
theorem d339_90 : decode cX9_turn 90 = .ok (.invokevirtual 393, 3) := by decide +kernel
theorem d339_93 : decode cX9_turn 93 = .ok (.aload_n 0, 1) := by decide +kernel
theorem d339_94 : decode cX9_turn 94 = .ok (.iload_n 1, 1) := by decide +kernel
theorem d339_95 : decode cX9_turn 95 = .ok (.invokevirtual 225, 3) := by decide +kernel
theorem d339_98 : decode cX9_turn 98 = .ok (.ireturn, 1) := by decide +kernel
theorem v339_0 {w : PW} {Q : PO → PW → Prop} {x1 : Int} {x2 : Int} (hs : Sh w) (hx1 : bd x1) (hx2 : bd x2) (h : (bd ((gI w 170 1) - 1)) ∧ ((¬ (0 ≤ x1 ∧ x1 < gI w 170 1)) → ∀ w2 : PW, w2 = sI w 169 0 1 → Q (.inl (some (iv 0))) w2) ∧ ((0 ≤ x1 ∧ x1 < gI w 170 1) → (bd ((gI w 170 0) - 1)) ∧ ((0 ≤ x2 ∧ x2 < gI w 170 0) → ∀ w4 : PW, w4 = sI w 169 0 0 → pC 326 [.ref 169] w4 (kV fun w5 => Sh w5 ∧ pX 339 36 [some (.ref 169), some (iv x1), some (iv x2), some (iv 0)] [] w5 Q)) ∧ ((¬ (0 ≤ x2 ∧ x2 < gI w 170 0)) → ∀ w7 : PW, w7 = sI w 169 0 1 → Q (.inl (some (iv 0))) w7))) : pX 339 0 [some (.ref 169), some (iv x1), some (iv x2), none] [] w Q :=
  w_f b339 d339_0 rfl rfl rfl <| w_f b339 d339_1 rfl rfl rfl <| w_f b339 d339_2 rfl rfl rfl <| w_cc b339 d339_3 rfl (pcl_v (n := 1) rfl rfl rfl (by decide +kernel) (sh_isOb hs (tlt 169 rfl) tbC_169) rfl rfl) rfl <| c271 hs hx1 h.1 <| w_ifeqZ b339 d339_6 rfl rfl (p339 _ _) (fun c1 => w_f b339 d339_17 rfl rfl rfl <| w_j b339 d339_18 rfl (p339 _ _) <| w_cc b339 d339_22 rfl (pcl_v (n := 1) rfl rfl rfl (by decide +kernel) (sh_isOb hs (tlt 169 rfl) tbC_169) rfl rfl) rfl <| c245 hs ⟨by decide, by decide⟩ (by decide) <| w_ifeq b339 d339_25 rfl rfl (p339 _ _) ⟨by decide, by decide⟩ (fun c => absurd c (by decide)) (fun _ => w_f b339 d339_28 rfl rfl rfl <| w_ri b339 d339_29 r339 ((h.2.1 c1) _ rfl))) (fun c1 => w_f b339 d339_9 rfl rfl rfl <| w_f b339 d339_10 rfl rfl rfl <| w_cc b339 d339_11 rfl (pcl_v (n := 1) rfl rfl rfl (by decide +kernel) (sh_isOb hs (tlt 169 rfl) tbC_169) rfl rfl) rfl <| c272 hs hx2 (h.2.2 c1).1 <| w_ifneZ b339 d339_14 rfl rfl (p339 _ _) (fun c3 => w_f b339 d339_21 rfl rfl rfl <| w_cc b339 d339_22 rfl (pcl_v (n := 1) rfl rfl rfl (by decide +kernel) (sh_isOb hs (tlt 169 rfl) tbC_169) rfl rfl) rfl <| c245 hs ⟨by decide, by decide⟩ (by decide) <| w_ifeq b339 d339_25 rfl rfl (p339 _ _) ⟨by decide, by decide⟩ (fun _ => w_f b339 d339_30 rfl rfl rfl <| w_c b339 d339_31 rfl (pcl_v (n := 0) rfl rfl rfl (by decide +kernel) (sh_isOb (Sh_sI hs (slt_o tbC_169 rfl)) (tlt 169 rfl) tbC_169) rfl rfl) rfl _ (hK_V fun w5 hkw5 => w_f b339 d339_34 rfl rfl rfl <| w_f b339 d339_35 rfl rfl rfl <| hkw5.2) (((h.2.2 c1).2.1 c3) _ rfl)) (fun c => absurd c (by decide))) (fun c3 => w_f b339 d339_17 rfl rfl rfl <| w_j b339 d339_18 rfl (p339 _ _) <| w_cc b339 d339_22 rfl (pcl_v (n := 1) rfl rfl rfl (by decide +kernel) (sh_isOb hs (tlt 169 rfl) tbC_169) rfl rfl) rfl <| c245 hs ⟨by decide, by decide⟩ (by decide) <| w_ifeq b339 d339_25 rfl rfl (p339 _ _) ⟨by decide, by decide⟩ (fun c => absurd c (by decide)) (fun _ => w_f b339 d339_28 rfl rfl rfl <| w_ri b339 d339_29 r339 (((h.2.2 c1).2.2 c3) _ rfl))))
theorem e339 {w : PW} {Q : PO → PW → Prop} {x1 : Int} {x2 : Int} (hs : Sh w) (hx1 : bd x1) (hx2 : bd x2) (h : (bd ((gI w 170 1) - 1)) ∧ ((¬ (0 ≤ x1 ∧ x1 < gI w 170 1)) → ∀ w2 : PW, w2 = sI w 169 0 1 → Q (.inl (some (iv 0))) w2) ∧ ((0 ≤ x1 ∧ x1 < gI w 170 1) → (bd ((gI w 170 0) - 1)) ∧ ((0 ≤ x2 ∧ x2 < gI w 170 0) → ∀ w4 : PW, w4 = sI w 169 0 0 → pC 326 [.ref 169] w4 (kV fun w5 => Sh w5 ∧ pX 339 36 [some (.ref 169), some (iv x1), some (iv x2), some (iv 0)] [] w5 Q)) ∧ ((¬ (0 ≤ x2 ∧ x2 < gI w 170 0)) → ∀ w7 : PW, w7 = sI w 169 0 1 → Q (.inl (some (iv 0))) w7))) : pC 339 [.ref 169, iv x1, iv x2] w Q :=
  (pC_in (Nat.le_of_ble_eq_true rfl) rfl Q).mpr (v339_0 hs hx1 hx2 h)
theorem v339_36 {w : PW} {Q : PO → PW → Prop} {x1 : Int} {x2 : Int} {x3 : Int} (hs : Sh w) (hx1 : bd x1) (hx2 : bd x2) (hx3 : bd x3) (h : ((gI w 170 5) ≤ x3 → pC 307 [.ref 169, iv x1, iv x2] w (kV fun w2 => Sh w2 ∧ pC 247 [.ref 169, iv x1] w2 (kI fun u5 w4 => Sh w4 ∧ Q (.inl (some (iv u5))) w4))) ∧ (x3 < (gI w 170 5) → (0 ≤ (71 + 3 * x3) + 0 ∧ (71 + 3 * x3) + 0 < 843) ∧ ((gI w 170 ((71 + 3 * x3) + 0).toNat) ≠ x1 → pX 339 36 [some (.ref 169), some (iv x1), some (iv x2), some (iv (x3 + 1))] [] w Q) ∧ ((gI w 170 ((71 + 3 * x3) + 0).toNat) = x1 → (0 ≤ (71 + 3 * x3) + 1 ∧ (71 + 3 * x3) + 1 < 843) ∧ (bd ((gI w 170 ((71 + 3 * x3) + 1).toNat) + x2)) ∧ (0 < (gI w 170 0) ∧ (gI w 170 0) < 2147483648) ∧ (0 ≤ ((71 + 3 * x3) + 1) ∧ ((71 + 3 * x3) + 1) < 843) ∧ ∀ w7 : PW, w7 = sI w 170 ((71 + 3 * x3) + 1).toNat (((gI w 170 ((71 + 3 * x3) + 1).toNat) + x2).tmod (gI w 170 0)) → pX 339 36 [some (.ref 169), some (iv x1), some (iv x2), some (iv (x3 + 1))] [] w7 Q))) : pX 339 36 [some (.ref 169), some (iv x1), some (iv x2), some (iv x3)] [] w Q :=
  w_f b339 d339_36 rfl rfl rfl <| w_f b339 d339_37 rfl rfl rfl <| w_gr b339 d339_38 rfl rfl hs (tlt 169 rfl) tbC_169 rfl (by decide) <| w_f b339 d339_41 rfl rfl rfl <| w_ial b339 d339_42 rfl hs (tlt 170 rfl) tbC_170 (bdix (n := 843) ⟨by decide, by decide⟩ rfl) ⟨by decide, by decide⟩ <| w_icge b339 d339_43 rfl rfl (p339 _ _) hx3 (bd_gI _ _ _) (fun c1 => w_f b339 d339_87 rfl rfl rfl <| w_f b339 d339_88 rfl rfl rfl <| w_f b339 d339_89 rfl rfl rfl <| w_c b339 d339_90 rfl (pcl_v (n := 2) rfl rfl rfl (by decide +kernel) (sh_isOb hs (tlt 169 rfl) tbC_169) rfl rfl) rfl _ (hK_V fun w2 hkw2 => w_f b339 d339_93 rfl rfl rfl <| w_f b339 d339_94 rfl rfl rfl <| w_c b339 d339_95 rfl (pcl_v (n := 1) rfl rfl rfl (by decide +kernel) (sh_isOb hkw2.1 (tlt 169 rfl) tbC_169) rfl rfl) rfl _ (hK_I fun u5 w4 hbu5 hkw4 => w_ri b339 d339_98 r339 hkw4.2) hkw2.2) (h.1 c1)) (fun c1 => w_f b339 d339_46 rfl rfl rfl <| w_f b339 d339_47 rfl rfl rfl <| w_f b339 d339_48 rfl rfl rfl <| w_cc b339 d339_49 rfl (pcl_v (n := 2) rfl rfl rfl (by decide +kernel) (sh_isOb hs (tlt 169 rfl) tbC_169) rfl rfl) rfl <| c267 hs hx3 ⟨by decide, by decide⟩ (h.2 c1).1 <| w_f b339 d339_52 rfl rfl rfl <| w_icne b339 d339_53 rfl rfl (p339 _ _) (bd_gI _ _ _) hx1 (fun c6 => w_f b339 d339_81 rfl (pf_iinc rfl rfl) rfl <| w_j b339 d339_84 rfl (p339 _ _) <| ((h.2 c1).2.1 c6)) (fun c6 => w_f b339 d339_56 rfl rfl rfl <| w_gr b339 d339_57 rfl rfl hs (tlt 169 rfl) tbC_169 rfl (by decide) <| w_f b339 d339_60 rfl rfl rfl <| w_f b339 d339_61 rfl rfl rfl <| w_cc b339 d339_62 rfl (pcl_s1 (n := 2) rfl rfl rfl (by decide +kernel) rfl rfl) rfl <| c233 hs hx3 ⟨by decide, by decide⟩ <| w_f b339 d339_65 rfl rfl rfl <| w_f b339 d339_66 rfl rfl rfl <| w_f b339 d339_67 rfl rfl rfl <| w_cc b339 d339_68 rfl (pcl_v (n := 2) rfl rfl rfl (by decide +kernel) (sh_isOb hs (tlt 169 rfl) tbC_169) rfl rfl) rfl <| c267 hs hx3 ⟨by decide, by decide⟩ ((h.2 c1).2.2 c6).1 <| w_f b339 d339_71 rfl rfl rfl <| w_f b339 d339_72 rfl (pf_iadd (gI w 170 ((71 + 3 * x3) + 1).toNat) x2) rfl <| w_f b339 d339_73 rfl rfl rfl <| w_gr b339 d339_74 rfl rfl hs (tlt 169 rfl) tbC_169 rfl (by decide) <| w_f b339 d339_77 rfl rfl rfl <| w_ial b339 d339_78 rfl hs (tlt 170 rfl) tbC_170 (bdix (n := 843) ⟨by decide, by decide⟩ rfl) ⟨by decide, by decide⟩ <| w_f b339 d339_79 rfl (pf_irem ((h.2 c1).2.2 c6).2.1 ((h.2 c1).2.2 c6).2.2.1) rfl <| w_ias b339 d339_80 rfl hs (tlt 170 rfl) tbC_170 (bdix (n := 843) ((h.2 c1).2.2 c6).2.2.2.1 rfl) ((h.2 c1).2.2 c6).2.2.2.1 <| w_f b339 d339_81 rfl (pf_iinc rfl rfl) rfl <| w_j b339 d339_84 rfl (p339 _ _) <| (((h.2 c1).2.2 c6).2.2.2.2 _ rfl)))
/-! 340: PinBarrelModel.reverse(I)I -/
theorem b340 : mB 340 = cX9_reverse := rfl
theorem r340 : mR 340 = (some .int) := rfl
theorem p340 (a b : Nat) : phi 340 a ≤ phi 340 b := Nat.le_refl 0
theorem d340_0 : decode cX9_reverse 0 = .ok (.aload_n 0, 1) := by decide +kernel
theorem d340_1 : decode cX9_reverse 1 = .ok (.iload_n 1, 1) := by decide +kernel
theorem d340_2 : decode cX9_reverse 2 = .ok (.invokevirtual 377, 3) := by decide +kernel
theorem d340_5 : decode cX9_reverse 5 = .ok (.ifCond .eq 5, 3) := by decide +kernel
theorem d340_8 : decode cX9_reverse 8 = .ok (.iconst 0, 1) := by decide +kernel
theorem d340_9 : decode cX9_reverse 9 = .ok (.ireturn, 1) := by decide +kernel
theorem d340_10 : decode cX9_reverse 10 = .ok (.aload_n 0, 1) := by decide +kernel
theorem d340_11 : decode cX9_reverse 11 = .ok (.invokevirtual 419, 3) := by decide +kernel
theorem d340_14 : decode cX9_reverse 14 = .ok (.iconst 0, 1) := by decide +kernel
theorem d340_15 : decode cX9_reverse 15 = .ok (.istore_n 2, 1) := by decide +kernel
theorem d340_16 : decode cX9_reverse 16 = .ok (.iload_n 2, 1) := by decide +kernel
theorem d340_17 : decode cX9_reverse 17 = .ok (.aload_n 0, 1) := by decide +kernel
theorem d340_18 : decode cX9_reverse 18 = .ok (.getfield 9, 3) := by decide +kernel
theorem d340_21 : decode cX9_reverse 21 = .ok (.iconst 5, 1) := by decide +kernel
theorem d340_22 : decode cX9_reverse 22 = .ok (.iaload, 1) := by decide +kernel
theorem d340_23 : decode cX9_reverse 23 = .ok (.if_icmp .ge 44, 3) := by decide +kernel
theorem d340_26 : decode cX9_reverse 26 = .ok (.aload_n 0, 1) := by decide +kernel
theorem d340_27 : decode cX9_reverse 27 = .ok (.iload_n 2, 1) := by decide +kernel
theorem d340_28 : decode cX9_reverse 28 = .ok (.iconst 0, 1) := by decide +kernel
theorem d340_29 : decode cX9_reverse 29 = .ok (.invokevirtual 283, 3) := by decide +kernel
theorem d340_32 : decode cX9_reverse 32 = .ok (.iload_n 1, 1) := by decide +kernel
theorem d340_33 : decode cX9_reverse 33 = .ok (.if_icmp .ne 28, 3) := by decide +kernel
theorem d340_36 : decode cX9_reverse 36 = .ok (.aload_n 0, 1) := by decide +kernel
theorem d340_37 : decode cX9_reverse 37 = .ok (.getfield 9, 3) := by decide +kernel
theorem d340_40 : decode cX9_reverse 40 = .ok (.iload_n 2, 1) := by decide +kernel
theorem d340_41 : decode cX9_reverse 41 = .ok (.iconst 1, 1) := by decide +kernel
theorem d340_42 : decode cX9_reverse 42 = .ok (.invokestatic 210, 3) := by decide +kernel
theorem d340_45 : decode cX9_reverse 45 = .ok (.aload_n 0, 1) := by decide +kernel
theorem d340_46 : decode cX9_reverse 46 = .ok (.getfield 9, 3) := by decide +kernel
theorem d340_49 : decode cX9_reverse 49 = .ok (.iconst 0, 1) := by decide +kernel
theorem d340_50 : decode cX9_reverse 50 = .ok (.iaload, 1) := by decide +kernel
theorem d340_51 : decode cX9_reverse 51 = .ok (.iconst 1, 1) := by decide +kernel
theorem d340_52 : decode cX9_reverse 52 = .ok (.isub, 1) := by decide +kernel
theorem d340_53 : decode cX9_reverse 53 = .ok (.aload_n 0, 1) := by decide +kernel
theorem d340_54 : decode cX9_reverse 54 = .ok (.iload_n 2, 1) := by decide +kernel
theorem d340_55 : decode cX9_reverse 55 = .ok (.iconst 1, 1) := by decide +kernel
theorem d340_56 : decode cX9_reverse 56 = .ok (.invokevirtual 283, 3) := by decide +kernel
theorem d340_59 : decode cX9_reverse 59 = .ok (.isub, 1) := by decide +kernel
theorem d340_60 : decode cX9_reverse 60 = .ok (.iastore, 1) := by decide +kernel
theorem d340_61 : decode cX9_reverse 61 = .ok (.iinc 2 1, 3) := by decide +kernel
theorem d340_64 : decode cX9_reverse 64 = .ok (.goto (-48), 3) := by decide +kernel
theorem d340_67 : decode cX9_reverse 67 = .ok (.iconst 0, 1) := by decide +kernel
theorem d340_68 : decode cX9_reverse 68 = .ok (.istore_n 2, 1) := by decide +kernel
theorem d340_69 : decode cX9_reverse 69 = .ok (.iload_n 2, 1) := by decide +kernel
theorem d340_70 : decode cX9_reverse 70 = .ok (.aload_n 0, 1) := by decide +kernel
theorem d340_71 : decode cX9_reverse 71 = .ok (.getfield 9, 3) := by decide +kernel
theorem d340_74 : decode cX9_reverse 74 = .ok (.iconst 0, 1) := by decide +kernel
theorem d340_75 : decode cX9_reverse 75 = .ok (.iaload, 1) := by decide +kernel
theorem d340_76 : decode cX9_reverse 76 = .ok (.if_icmp .ge 34, 3) := by decide +kernel
theorem d340_79 : decode cX9_reverse 79 = .ok (.aload_n 0, 1) := by decide +kernel
theorem d340_80 : decode cX9_reverse 80 = .ok (.getfield 40, 3) := by decide +kernel
theorem d340_83 : decode cX9_reverse 83 = .ok (.aload_n 0, 1) := by decide +kernel
theorem d340_84 : decode cX9_reverse 84 = .ok (.getfield 9, 3) := by decide +kernel
theorem d340_87 : decode cX9_reverse 87 = .ok (.iconst 0, 1) := by decide +kernel
theorem d340_88 : decode cX9_reverse 88 = .ok (.iaload, 1) := by decide +kernel
theorem d340_89 : decode cX9_reverse 89 = .ok (.iconst 1, 1) := by decide +kernel
theorem d340_90 : decode cX9_reverse 90 = .ok (.isub, 1) := by decide +kernel
theorem d340_91 : decode cX9_reverse 91 = .ok (.iload_n 2, 1) := by decide +kernel
theorem d340_92 : decode cX9_reverse 92 = .ok (.isub, 1) := by decide +kernel
theorem d340_93 : decode cX9_reverse 93 = .ok (.aload_n 0, 1) := by decide +kernel
theorem d340_94 : decode cX9_reverse 94 = .ok (.getfield 9, 3) := by decide +kernel
theorem d340_97 : decode cX9_reverse 97 = .ok (.iload_n 1, 1) := by decide +kernel
theorem d340_98 : decode cX9_reverse 98 = .ok (.iload_n 2, 1) := by decide +kernel
theorem d340_99 : decode cX9_reverse 99 = .ok (.invokestatic 213, 3) := by decide +kernel
theorem d340_102 : decode cX9_reverse 102 = .ok (.iaload, 1) := by decide +kernel
theorem d340_103 : decode cX9_reverse 103 = .ok (.iastore, 1) := by decide +kernel
theorem d340_104 : decode cX9_reverse 104 = .ok (.iinc 2 1, 3) := by decide +kernel
theorem d340_107 : decode cX9_reverse 107 = .ok (.goto (-38), 3) := by decide +kernel
theorem d340_110 : decode cX9_reverse 110 = .ok (.iconst 0, 1) := by decide +kernel
theorem d340_111 : decode cX9_reverse 111 = .ok (.istore_n 2, 1) := by decide +kernel
theorem d340_112 : decode cX9_reverse 112 = .ok (.iload_n 2, 1) := by decide +kernel
theorem d340_113 : decode cX9_reverse 113 = .ok (.aload_n 0, 1) := by decide +kernel
theorem d340_114 : decode cX9_reverse 114 = .ok (.getfield 9, 3) := by decide +kernel
theorem d340_117 : decode cX9_reverse 117 = .ok (.iconst 0, 1) := by decide +kernel
theorem d340_118 : decode cX9_reverse 118 = .ok (.iaload, 1) := by decide +kernel
theorem d340_119 : decode cX9_reverse 119 = .ok (.if_icmp .ge 25, 3) := by decide +kernel
theorem d340_122 : decode cX9_reverse 122 = .ok (.aload_n 0, 1) := by decide +kernel
theorem d340_123 : decode cX9_reverse 123 = .ok (.getfield 9, 3) := by decide +kernel
theorem d340_126 : decode cX9_reverse 126 = .ok (.iload_n 1, 1) := by decide +kernel
theorem d340_127 : decode cX9_reverse 127 = .ok (.iload_n 2, 1) := by decide +kernel
theorem d340_128 : decode cX9_reverse 128 = .ok (.invokestatic 213, 3) := by decide +kernel
theorem d340_131 : decode cX9_reverse 131 = .ok (.aload_n 0, 1) := by decide +kernel
theorem d340_132 : decode cX9_reverse 132 = .ok (.getfield 40, 3) := by decide +kernel
theorem d340_135 : decode cX9_reverse 135 = .ok (.iload_n 2, 1) := by decide +kernel
theorem d340_136 : decode cX9_reverse 136 = .ok (.iaload, 1) := by decide +kernel
theorem d340_137 : decode cX9_reverse 137 = .ok (.iastore, 1) := by decide +kernel
theorem d340_138 : decode cX9_reverse 138 = .ok (.iinc 2 1, 3) := by decide +kernel
theorem d340_141 : decode cX9_reverse 141 = .ok (.goto (-29), 3) := by decide +kernel
theorem d340_144 : decode cX9_reverse 144 = .ok (.aload_n 0, 1) := by decide +kernel
theorem d340_145 : decode cX9_reverse 145 = .ok (.iload_n 1, 1) := by decide +kernel
theorem d340_146 : decode cX9_reverse 146 = .ok (.invokevirtual 225, 3) := by decide +kernel
theorem d340_149 : decode cX9_reverse 149 = .ok (.ireturn, 1) := by decide +kernel
theorem v340_0 {w : PW} {Q : PO → PW → Prop} {x1 : Int} (hs : Sh w) (hx1 : bd x1) (h : (bd ((gI w 170 1) - 1)) ∧ ((0 ≤ x1 ∧ x1 < gI w 170 1) → ∀ w2 : PW, w2 = sI w 169 0 0 → pC 326 [.ref 169] w2 (kV fun w3 => Sh w3 ∧ pX 340 16 [some (.ref 169), some (iv x1), some (iv 0)] [] w3 Q)) ∧ ((¬ (0 ≤ x1 ∧ x1 < gI w 170 1)) → ∀ w6 : PW, w6 = sI w 169 0 1 → Q (.inl (some (iv 0))) w6)) : pX 340 0 [some (.ref 169), some (iv x1), none] [] w Q :=
  w_f b340 d340_0 rfl rfl rfl <| w_f b340 d340_1 rfl rfl rfl <| w_cc b340 d340_2 rfl (pcl_v (n := 1) rfl rfl rfl (by decide +kernel) (sh_isOb hs (tlt 169 rfl) tbC_169) rfl rfl) rfl <| c275 hs hx1 h.1 (fun c1 => w_ifeq b340 d340_5 rfl rfl (p340 _ _) ⟨by decide, by decide⟩ (fun _ => w_f b340 d340_10 rfl rfl rfl <| w_c b340 d340_11 rfl (pcl_v (n := 0) rfl rfl rfl (by decide +kernel) (sh_isOb (Sh_sI hs (slt_o tbC_169 rfl)) (tlt 169 rfl) tbC_169) rfl rfl) rfl _ (hK_V fun w3 hkw3 => w_f b340 d340_14 rfl rfl rfl <| w_f b340 d340_15 rfl rfl rfl <| hkw3.2) (h.2.1 c1 _ rfl)) (fun c => absurd c (by decide))) (fun c5 => w_ifeq b340 d340_5 rfl rfl (p340 _ _) ⟨by decide, by decide⟩ (fun c => absurd c (by decide)) (fun _ => w_f b340 d340_8 rfl rfl rfl <| w_ri b340 d340_9 r340 (h.2.2 c5 _ rfl)))
theorem e340 {w : PW} {Q : PO → PW → Prop} {x1 : Int} (hs : Sh w) (hx1 : bd x1) (h : (bd ((gI w 170 1) - 1)) ∧ ((0 ≤ x1 ∧ x1 < gI w 170 1) → ∀ w2 : PW, w2 = sI w 169 0 0 → pC 326 [.ref 169] w2 (kV fun w3 => Sh w3 ∧ pX 340 16 [some (.ref 169), some (iv x1), some (iv 0)] [] w3 Q)) ∧ ((¬ (0 ≤ x1 ∧ x1 < gI w 170 1)) → ∀ w6 : PW, w6 = sI w 169 0 1 → Q (.inl (some (iv 0))) w6)) : pC 340 [.ref 169, iv x1] w Q :=
  (pC_in (Nat.le_of_ble_eq_true rfl) rfl Q).mpr (v340_0 hs hx1 h)
theorem v340_16 {w : PW} {Q : PO → PW → Prop} {x1 : Int} {x2 : Int} (hs : Sh w) (hx1 : bd x1) (hx2 : bd x2) (h : ((gI w 170 5) ≤ x2 → pX 340 69 [some (.ref 169), some (iv x1), some (iv 0)] [] w Q) ∧ (x2 < (gI w 170 5) → (0 ≤ (71 + 3 * x2) + 0 ∧ (71 + 3 * x2) + 0 < 843) ∧ ((gI w 170 ((71 + 3 * x2) + 0).toNat) ≠ x1 → pX 340 16 [some (.ref 169), some (iv x1), some (iv (x2 + 1))] [] w Q) ∧ ((gI w 170 ((71 + 3 * x2) + 0).toNat) = x1 → (0 ≤ (71 + 3 * x2) + 1 ∧ (71 + 3 * x2) + 1 < 843) ∧ (0 ≤ ((71 + 3 * x2) + 1) ∧ ((71 + 3 * x2) + 1) < 843) ∧ ∀ w3 : PW, w3 = sI w 170 ((71 + 3 * x2) + 1).toNat (((gI w 170 0) - 1) - (gI w 170 ((71 + 3 * x2) + 1).toNat)) → pX 340 16 [some (.ref 169), some (iv x1), some (iv (x2 + 1))] [] w3 Q))) : pX 340 16 [some (.ref 169), some (iv x1), some (iv x2)] [] w Q :=
  w_f b340 d340_16 rfl rfl rfl <| w_f b340 d340_17 rfl rfl rfl <| w_gr b340 d340_18 rfl rfl hs (tlt 169 rfl) tbC_169 rfl (by decide) <| w_f b340 d340_21 rfl rfl rfl <| w_ial b340 d340_22 rfl hs (tlt 170 rfl) tbC_170 (bdix (n := 843) ⟨by decide, by decide⟩ rfl) ⟨by decide, by decide⟩ <| w_icge b340 d340_23 rfl rfl (p340 _ _) hx2 (bd_gI _ _ _) (fun c1 => w_f b340 d340_67 rfl rfl rfl <| w_f b340 d340_68 rfl rfl rfl <| (h.1 c1)) (fun c1 => w_f b340 d340_26 rfl rfl rfl <| w_f b340 d340_27 rfl rfl rfl <| w_f b340 d340_28 rfl rfl rfl <| w_cc b340 d340_29 rfl (pcl_v (n := 2) rfl rfl rfl (by decide +kernel) (sh_isOb hs (tlt 169 rfl) tbC_169) rfl rfl) rfl <| c267 hs hx2 ⟨by decide, by decide⟩ (h.2 c1).1 <| w_f b340 d340_32 rfl rfl rfl <| w_icne b340 d340_33 rfl rfl (p340 _ _) (bd_gI _ _ _) hx1 (fun c2 => w_f b340 d340_61 rfl (pf_iinc rfl rfl) rfl <| w_j b340 d340_64 rfl (p340 _ _) <| ((h.2 c1).2.1 c2)) (fun c2 => w_f b340 d340_36 rfl rfl rfl <| w_gr b340 d340_37 rfl rfl hs (tlt 169 rfl) tbC_169 rfl (by decide) <| w_f b340 d340_40 rfl rfl rfl <| w_f b340 d340_41 rfl rfl rfl <| w_cc b340 d340_42 rfl (pcl_s1 (n := 2) rfl rfl rfl (by decide +kernel) rfl rfl) rfl <| c233 hs hx2 ⟨by decide, by decide⟩ <| w_f b340 d340_45 rfl rfl rfl <| w_gr b340 d340_46 rfl rfl hs (tlt 169 rfl) tbC_169 rfl (by decide) <| w_f b340 d340_49 rfl rfl rfl <| w_ial b340 d340_50 rfl hs (tlt 170 rfl) tbC_170 (bdix (n := 843) ⟨by decide, by decide⟩ rfl) ⟨by decide, by decide⟩ <| w_f b340 d340_51 rfl rfl rfl <| w_f b340 d340_52 rfl (pf_isub (gI w 170 0) 1) rfl <| w_f b340 d340_53 rfl rfl rfl <| w_f b340 d340_54 rfl rfl rfl <| w_f b340 d340_55 rfl rfl rfl <| w_cc b340 d340_56 rfl (pcl_v (n := 2) rfl rfl rfl (by decide +kernel) (sh_isOb hs (tlt 169 rfl) tbC_169) rfl rfl) rfl <| c267 hs hx2 ⟨by decide, by decide⟩ ((h.2 c1).2.2 c2).1 <| w_f b340 d340_59 rfl (pf_isub ((gI w 170 0) - 1) (gI w 170 ((71 + 3 * x2) + 1).toNat)) rfl <| w_ias b340 d340_60 rfl hs (tlt 170 rfl) tbC_170 (bdix (n := 843) ((h.2 c1).2.2 c2).2.1 rfl) ((h.2 c1).2.2 c2).2.1 <| w_f b340 d340_61 rfl (pf_iinc rfl rfl) rfl <| w_j b340 d340_64 rfl (p340 _ _) <| (((h.2 c1).2.2 c2).2.2 _ rfl)))
theorem v340_69 {w : PW} {Q : PO → PW → Prop} {x1 : Int} {x2 : Int} (hs : Sh w) (hx1 : bd x1) (hx2 : bd x2) (h : ((gI w 170 0) ≤ x2 → pX 340 112 [some (.ref 169), some (iv x1), some (iv 0)] [] w Q) ∧ (x2 < (gI w 170 0) → (0 ≤ ((251 + 64 * x1) + x2) ∧ ((251 + 64 * x1) + x2) < 843) ∧ (0 ≤ (((gI w 170 0) - 1) - x2) ∧ (((gI w 170 0) - 1) - x2) < 64) ∧ ∀ w2 : PW, w2 = sI w 178 (((gI w 170 0) - 1) - x2).toNat (gI w 170 ((251 + 64 * x1) + x2).toNat) → pX 340 69 [some (.ref 169), some (iv x1), some (iv (x2 + 1))] [] w2 Q)) : pX 340 69 [some (.ref 169), some (iv x1), some (iv x2)] [] w Q :=
  w_f b340 d340_69 rfl rfl rfl <| w_f b340 d340_70 rfl rfl rfl <| w_gr b340 d340_71 rfl rfl hs (tlt 169 rfl) tbC_169 rfl (by decide) <| w_f b340 d340_74 rfl rfl rfl <| w_ial b340 d340_75 rfl hs (tlt 170 rfl) tbC_170 (bdix (n := 843) ⟨by decide, by decide⟩ rfl) ⟨by decide, by decide⟩ <| w_icge b340 d340_76 rfl rfl (p340 _ _) hx2 (bd_gI _ _ _) (fun c1 => w_f b340 d340_110 rfl rfl rfl <| w_f b340 d340_111 rfl rfl rfl <| (h.1 c1)) (fun c1 => w_f b340 d340_79 rfl rfl rfl <| w_gr b340 d340_80 rfl rfl hs (tlt 169 rfl) tbC_169 rfl (by decide) <| w_f b340 d340_83 rfl rfl rfl <| w_gr b340 d340_84 rfl rfl hs (tlt 169 rfl) tbC_169 rfl (by decide) <| w_f b340 d340_87 rfl rfl rfl <| w_ial b340 d340_88 rfl hs (tlt 170 rfl) tbC_170 (bdix (n := 843) ⟨by decide, by decide⟩ rfl) ⟨by decide, by decide⟩ <| w_f b340 d340_89 rfl rfl rfl <| w_f b340 d340_90 rfl (pf_isub (gI w 170 0) 1) rfl <| w_f b340 d340_91 rfl rfl rfl <| w_f b340 d340_92 rfl (pf_isub ((gI w 170 0) - 1) x2) rfl <| w_f b340 d340_93 rfl rfl rfl <| w_gr b340 d340_94 rfl rfl hs (tlt 169 rfl) tbC_169 rfl (by decide) <| w_f b340 d340_97 rfl rfl rfl <| w_f b340 d340_98 rfl rfl rfl <| w_cc b340 d340_99 rfl (pcl_s1 (n := 2) rfl rfl rfl (by decide +kernel) rfl rfl) rfl <| c236 hs hx1 hx2 <| w_ial b340 d340_102 rfl hs (tlt 170 rfl) tbC_170 (bdix (n := 843) (h.2 c1).1 rfl) (h.2 c1).1 <| w_ias b340 d340_103 rfl hs (tlt 178 rfl) tbC_178 (bdix (n := 64) (h.2 c1).2.1 rfl) (h.2 c1).2.1 <| w_f b340 d340_104 rfl (pf_iinc rfl rfl) rfl <| w_j b340 d340_107 rfl (p340 _ _) <| ((h.2 c1).2.2 _ rfl))
theorem v340_112 {w : PW} {Q : PO → PW → Prop} {x1 : Int} {x2 : Int} (hs : Sh w) (hx1 : bd x1) (hx2 : bd x2) (h : ((gI w 170 0) ≤ x2 → pC 247 [.ref 169, iv x1] w (kI fun u3 w2 => Sh w2 ∧ Q (.inl (some (iv u3))) w2)) ∧ (x2 < (gI w 170 0) → (0 ≤ x2 ∧ x2 < 64) ∧ (0 ≤ ((251 + 64 * x1) + x2) ∧ ((251 + 64 * x1) + x2) < 843) ∧ ∀ w4 : PW, w4 = sI w 170 ((251 + 64 * x1) + x2).toNat (gI w 178 x2.toNat) → pX 340 112 [some (.ref 169), some (iv x1), some (iv (x2 + 1))] [] w4 Q)) : pX 340 112 [some (.ref 169), some (iv x1), some (iv x2)] [] w Q :=
  w_f b340 d340_112 rfl rfl rfl <| w_f b340 d340_113 rfl rfl rfl <| w_gr b340 d340_114 rfl rfl hs (tlt 169 rfl) tbC_169 rfl (by decide) <| w_f b340 d340_117 rfl rfl rfl <| w_ial b340 d340_118 rfl hs (tlt 170 rfl) tbC_170 (bdix (n := 843) ⟨by decide, by decide⟩ rfl) ⟨by decide, by decide⟩ <| w_icge b340 d340_119 rfl rfl (p340 _ _) hx2 (bd_gI _ _ _) (fun c1 => w_f b340 d340_144 rfl rfl rfl <| w_f b340 d340_145 rfl rfl rfl <| w_c b340 d340_146 rfl (pcl_v (n := 1) rfl rfl rfl (by decide +kernel) (sh_isOb hs (tlt 169 rfl) tbC_169) rfl rfl) rfl _ (hK_I fun u3 w2 hbu3 hkw2 => w_ri b340 d340_149 r340 hkw2.2) (h.1 c1)) (fun c1 => w_f b340 d340_122 rfl rfl rfl <| w_gr b340 d340_123 rfl rfl hs (tlt 169 rfl) tbC_169 rfl (by decide) <| w_f b340 d340_126 rfl rfl rfl <| w_f b340 d340_127 rfl rfl rfl <| w_cc b340 d340_128 rfl (pcl_s1 (n := 2) rfl rfl rfl (by decide +kernel) rfl rfl) rfl <| c236 hs hx1 hx2 <| w_f b340 d340_131 rfl rfl rfl <| w_gr b340 d340_132 rfl rfl hs (tlt 169 rfl) tbC_169 rfl (by decide) <| w_f b340 d340_135 rfl rfl rfl <| w_ial b340 d340_136 rfl hs (tlt 178 rfl) tbC_178 (bdix (n := 64) (h.2 c1).1 rfl) (h.2 c1).1 <| w_ias b340 d340_137 rfl hs (tlt 170 rfl) tbC_170 (bdix (n := 843) (h.2 c1).2.1 rfl) (h.2 c1).2.1 <| w_f b340 d340_138 rfl (pf_iinc rfl rfl) rfl <| w_j b340 d340_141 rfl (p340 _ _) <| ((h.2 c1).2.2 _ rfl))
theorem rSetP_congr {m : Row} {u : Nat} {g g2 : Nat → Int} (h : ∀ s : Nat, (s : Int) < m 0 → g s = g2 s) : rSetP m u g = rSetP m u g2 := by
  funext j
  unfold rSetP
  by_cases q : 251 + 64 * u ≤ j ∧ (j : Int) < 251 + 64 * u + m 0
  · rw [if_pos q, if_pos q]
    exact h _ (by omega)
  · rw [if_neg q, if_neg q]
/-- the sets that pin after pin makes -/
def mLay (m : Row) (u : Int) (ch : Nat → Int) (s : Nat) : Nat → Int
  | 0 => 0
  | k + 1 => if sStp m u k = (s : Int) then iOr (mLay m u ch s k) (iShl 1 (ch k)) else mLay m u ch s k
theorem mLay_bits {m : Row} {u : Int} {ch : Nat → Int} {s : Nat} {n : Nat} (h : ∀ k, k < n → 0 ≤ ch k ∧ ch k < 12) : bd (mLay m u ch s n) ∧ ∀ t, t < 32 → tI (mLay m u ch s n) t = decide (0 < cnt (fun k => decide (sStp m u k = (s : Int) ∧ ch k = (t : Int))) n) := by
  induction n with
  | zero => exact ⟨bd0, fun t _ => by rw [show mLay m u ch s 0 = 0 from rfl, tI_0]; rfl⟩
  | succ n ih =>
    have hn := h n (by omega)
    obtain ⟨i1, i2⟩ := ih (fun k hk => h k (by omega))
    by_cases q : sStp m u n = (s : Int)
    · rw [show mLay m u ch s (n + 1) = iOr (mLay m u ch s n) (iShl 1 (ch n)) from if_pos q]
      refine ⟨bd_toInt _, fun t ht => ?_⟩
      rw [tI_or, i2 t ht, tI_bit ⟨hn.1, by omega⟩ ht, cnt_s]
      by_cases e : ch n = (t : Int)
      · rw [decide_eq_true (p := sStp m u n = (s : Int) ∧ ch n = (t : Int)) ⟨q, e⟩, if_pos rfl, decide_eq_true (p := t = (ch n).toNat) (by omega), Bool.or_true, decide_eq_true (by omega)]
      · rw [decide_eq_false (p := sStp m u n = (s : Int) ∧ ch n = (t : Int)) (fun z => e z.2), if_neg Bool.false_ne_true, decide_eq_false (p := t = (ch n).toNat) (by omega), Bool.or_false, Nat.add_zero]
    · rw [show mLay m u ch s (n + 1) = mLay m u ch s n from if_neg q]
      refine ⟨i1, fun t ht => ?_⟩
      rw [i2 t ht, cnt_f (P := fun k => decide (sStp m u k = (s : Int) ∧ ch k = (t : Int))) (decide_eq_false (fun z => q z.1))]
theorem mLay_eq {m : Row} {u : Nat} {ch : Nat → Int} (hR : RowOK m) (hch : ∀ k, k < ordR m u → 0 ≤ ch k ∧ ch k < m 4) : rSetP m u (fun s => mLay m u ch s (ordR m u)) = rLay m u ch := by
  have h4 := hR.t
  have h1 := hR.u
  refine rSetP_congr (fun s hs => ?_)
  obtain ⟨a1, a2⟩ := mLay_bits (m := m) (u := (u : Int)) (ch := ch) (s := s) (n := ordR m u) (fun k hk => ⟨(hch k hk).1, by have := (hch k hk).2; omega⟩)
  obtain ⟨b1, b2⟩ := gLayS_ok hR u ch s hs
  refine tI_ext a1 b1 (fun t ht => ?_)
  rw [a2 t ht, b2 t ht]
  unfold sLaid
  by_cases q : 0 < cnt (fun k => decide (sStp m u k = (s : Int) ∧ ch k = (t : Int))) (ordR m u)
  · obtain ⟨k, k1, k2⟩ := cnt_ex.mp q
    rw [decide_eq_true_eq] at k2
    have := (hch k k1).2
    rw [decide_eq_true q, decide_eq_true (p := (t : Int) < m 4) (by omega), decide_eq_true (cnt_pos (i := k) k1 (by
      rw [decide_eq_true (p := sStp m u k = (s : Int)) k2.1, k2.2, trk_i hR, decide_eq_true rfl]; rfl))]
    rfl
  · rw [decide_eq_false q]
    by_cases q2 : 0 < cnt (fun k => decide (m 1 * ch k + (u : Int) = (((m 1).toNat * t + u : Nat) : Int)) && decide (sStp m u k = (s : Int))) (ordR m u)
    · obtain ⟨k, k1, k2⟩ := cnt_ex.mp q2
      rw [Bool.and_eq_true, decide_eq_true_eq, decide_eq_true_eq] at k2
      refine absurd (cnt_pos (i := k) k1 (decide_eq_true ⟨k2.2, ?_⟩)) q
      have := k2.1
      rw [← trk_i hR] at this
      exact mulU hR (by omega)
    · rw [decide_eq_false q2, Bool.and_false]
theorem rPut_set {m : Row} {u s t : Nat} {g : Nat → Int} (hS : (s : Int) < m 0) : rPut (rSetP m u g) u s (rOn (rSetP m u g) u s t 1) = rSetP m u (fun r => if r = s then iOr (g s) (iShl 1 t) else g r) := by
  have e0 : rSetP m u g 0 = m 0 := rSetP_lo (by decide)
  have es : rSetP m u g (251 + 64 * u + s) = g s := rSetP_same hS
  have eo : rOn (rSetP m u g) u s t 1 = iOr (g s) (iShl 1 t) := by
    unfold rOn
    rw [if_neg (by decide), es]
  rw [eo]
  funext j
  unfold rPut
  by_cases q : 251 + 64 * u ≤ j ∧ (j : Int) < 251 + 64 * u + m 0
  · show (if 251 + 64 * u ≤ j ∧ (j : Int) < 251 + 64 * u + rSetP m u g 0 then (if j - (251 + 64 * u) = s then iOr (g s) (iShl 1 t) else rSetP m u g (251 + 64 * u + (j - (251 + 64 * u)))) else rSetP m u g j) = (if 251 + 64 * u ≤ j ∧ (j : Int) < 251 + 64 * u + m 0 then (if j - (251 + 64 * u) = s then iOr (g s) (iShl 1 t) else g (j - (251 + 64 * u))) else m j)
    rw [e0, if_pos q, if_pos q]
    by_cases q2 : j - (251 + 64 * u) = s
    · rw [if_pos q2, if_pos q2]
    · rw [if_neg q2, if_neg q2]
      exact rSetP_same (by omega)
  · show (if 251 + 64 * u ≤ j ∧ (j : Int) < 251 + 64 * u + rSetP m u g 0 then (if j - (251 + 64 * u) = s then iOr (g s) (iShl 1 t) else rSetP m u g (251 + 64 * u + (j - (251 + 64 * u)))) else rSetP m u g j) = (if 251 + 64 * u ≤ j ∧ (j : Int) < 251 + 64 * u + m 0 then (if j - (251 + 64 * u) = s then iOr (g s) (iShl 1 t) else g (j - (251 + 64 * u))) else m j)
    rw [e0, if_neg q, if_neg q]
    exact if_neg q
section MA2
variable {w w1 w2 : PW} {Q : PO → PW → Prop} {m : Row} {H : Nat → Row} {n : Nat} {x1 x2 : Int} {u : Nat}
theorem l337_44 {w : PW} {Q : PO → PW → Prop} {u : Nat} {m : Row} {ch : Nat → Int} (hs : Sh w) (hR : RowOK m) (hu : (u : Int) < m 1) (hn : gI w 169 26 = (ordR m u : Nat)) (hrow : ∀ j, j < ordR m u → gI w 176 j = (ordN m u j : Nat)) (hch : ∀ j, j < ordR m u → gI w 177 j = ch j ∧ 0 ≤ ch j ∧ ch j < m 4) (h : ∀ w2, MW w w2 → MR w2 (rLay m u ch) → Q (.inl (some (iv (sPins (rLay m u ch) u)))) w2) : ∀ k i : Nat, i + k = ordR m u → ∀ w1, MW w w1 → MR w1 (rSetP m u (fun s => mLay m u ch s i)) → pX 337 44 [some (.ref 169), some (iv (u : Nat)), some (iv 1), some (iv (i : Nat))] [] w1 Q := by
  have h0 := hR.s
  have h1 := hR.u
  have h4 := hR.t
  have h5 := hR.n
  have hRl := ordR_le hR (u : Int)
  intro k
  induction k with
  | zero =>
    intro i hi w1 G1 M1
    refine v337_44 G1.1 (bdk (by omega)) (by decide) (bdk (by omega)) ?_
    rw [G1.g (a := 169) (by decide), hn]
    refine ⟨fun _ => ?_, fun q => by omega⟩
    rw [show i = ordR m u from by omega, mLay_eq hR (fun k hk => (hch k hk).2)] at M1
    have hb := sPins_bd M1.ok u
    exact c247 G1.1 M1 (by rw [show rLay m u ch 1 = m 1 from rSetP_lo (by decide)]; exact hu) (kI_iv ⟨by omega, by omega⟩ ⟨G1.1, h w1 G1 M1⟩)
  | succ k ih =>
    intro i hi w1 G1 M1
    obtain ⟨o1, o2⟩ := ordN_ok hR (u := (u : Int)) (i := i) (by omega)
    have hst := sStp_bd hR (u := (u : Int)) (k := i) (by omega)
    obtain ⟨c1, c2, c3⟩ := hch i (by omega)
    obtain ⟨s, hs9⟩ := nat_of hst.1
    obtain ⟨t, ht9⟩ := nat_of c2
    have g176 := hrow i (by omega)
    have l : ∀ j, j < 251 → rSetP m u (fun s => mLay m u ch s i) j = m j := fun j hj => rSetP_lo hj
    have eN : gI w1 170 ((71 + 3 * ((ordN m u i : Nat) : Int)) + 1).toNat = sStp m u i := by
      rw [M1.N1 (by omega)]
      exact l _ (by omega)
    refine v337_44 G1.1 (bdk (by omega)) (by decide) (bdk (by omega)) ?_
    rw [G1.g (a := 169) (by decide), hn, Int.toNat_natCast, G1.g (a := 176) (by decide), g176, G1.g (a := 177) (by decide), c1, eN, hs9, ht9]
    refine ⟨fun q => by omega, fun _ => ⟨⟨by omega, by omega⟩, ⟨by omega, by omega⟩, ⟨by omega, by omega⟩, c237 G1.1 M1 (by rw [l 1 (by decide)]; exact hu) (by rw [l 0 (by decide)]; omega) (by rw [l 4 (by decide)]; omega) (by decide) (fun w4 G4 M4 => ⟨G4.1, ih (i + 1) (by omega) w4 (G1.tr G4) ?_⟩)⟩⟩
    rw [rPut_set (by omega)] at M4
    have e : (fun r => if r = s then iOr (mLay m u ch s i) (iShl 1 (t : Nat)) else mLay m u ch r i) = fun r => mLay m u ch r (i + 1) := by
      funext r
      show _ = (if sStp m u i = (r : Int) then iOr (mLay m u ch r i) (iShl 1 (ch i)) else mLay m u ch r i)
      rw [hs9, ht9]
      by_cases q : r = s
      · rw [if_pos q, if_pos (by omega), q]
      · rw [if_neg q, if_neg (by omega)]
    rw [← e]
    exact M4
theorem c337 (hs : Sh w) (hM : MR w m) (hH : HM w H n) (hx1 : bd x1) (h : mA w H n m Q (sa181 m x1)) : pC 337 [.ref 169, iv x1] w Q := by
  have h1 := hM.ok.u
  refine e337 hs hx1 ?_
  rw [hM.g (k := 1) rfl]
  refine ⟨⟨by omega, by omega⟩, fun q w2 e2 => ?_, (mA_go hs hM hH (by decide) h).2⟩
  obtain ⟨F2, g2, h2⟩ := (mA_go hs hM hH (by decide) h).1 q w2 e2
  have hM2 := F2.mr hM
  obtain ⟨u, rfl⟩ := nat_of q.1
  rw [Int.toNat_natCast] at h2
  refine c299 F2.1 hM2 q.2 (fun w3 F3 hK => kI_iv (sSeek_b m u (-1)) ⟨F3.1, fun q4 => ?_, fun q4 => ⟨fun q5 => ?_, fun q5 => ?_⟩⟩)
  · have hM3 := F3.mr hM2
    have hH3 := (hH.mq F2).mq F3.2.1
    rw [q4]
    refine c326 F3.1 hM3 hH3 (fun w6 F6 H6 => ⟨F6.1, c335 F6.1 (F6.mr hM3) q.2 (fun w8 G8 M8 => ⟨G8.1, ?_⟩)⟩)
    have kk : ∀ a j, a = 176 ∨ a = 177 → gI w8 a j = gI w3 a j := fun a j ha => (G8.g (by omega) j).trans (gI_cell (F6.2.1 a (by omega) (by omega)) j)
    have hn : gI w8 169 26 = (ordR m u : Nat) := ((G8.g (by decide) 26).trans (F6.2.2 26 (by decide))).trans hK.1
    refine l337_44 (ch := (sSeek m u (-1)).2.2.2) G8.1 hM.ok q.2 hn (fun j hj => by rw [kk _ _ (Or.inl rfl)]; exact hK.2.1 j hj) (fun j hj => by rw [kk _ _ (Or.inr rfl)]; exact hK.2.2.2 q4 j hj) (fun w9 G9 M9 => ?_) _ 0 (Nat.zero_add _) w8 (MW.rf G8.1) M8
    have h3 := mA_fr h2 F3.2.1.ma
    exact mA_yes (mAq_t (mAq_t h3 (by omega)) q4) (F6.ma.tr (G8.tr G9).mg.ma) (((((G8.tr G9).g (by decide) 0).trans (F6.2.2 0 (by decide))).trans F3.2.2.1).trans g2) M9 (H6.mg (G8.tr G9).mg)
  · have hb := sSeek_bd m u (-1)
    exact mA_no (mAq_f h2 (by omega)) F3.2.1 (F3.2.2.1.trans g2) hM2 (hH.mq F2)
  · exact mA_no (mAq_f (mAq_t h2 (by omega)) q4) F3.2.1 (F3.2.2.1.trans g2) hM2 (hH.mq F2)
/-- some of a tune's notes have changed, the others not yet -/
def NS (w : PW) (m : Row) (x : Int) (c : Nat) (f : Int → Int) (i : Nat) : Prop := ∀ j, j < 843 → gI w 170 j = if (71 ≤ j ∧ j < 71 + 3 * i) ∧ (j - 71) % 3 = c ∧ m (71 + 3 * ((j - 71) / 3)) = x then f (m j) else m j
theorem NS.zero {c : Nat} {f : Int → Int} (hM : MR w m) : NS w m x1 c f 0 := fun j hj => by rw [if_neg (by omega)]; exact hM.2 j hj
theorem NS.skip {c i : Nat} {f : Int → Int} (h : NS w m x1 c f i) (hi : rN m i 0 ≠ x1) : NS w m x1 c f (i + 1) := by
  intro j hj
  rw [h j hj]
  by_cases q : (71 ≤ j ∧ j < 71 + 3 * i) ∧ (j - 71) % 3 = c ∧ m (71 + 3 * ((j - 71) / 3)) = x1
  · rw [if_pos q, if_pos ⟨⟨q.1.1, by omega⟩, q.2⟩]
  · rw [if_neg q, if_neg (fun z => ?_)]
    by_cases q2 : j < 71 + 3 * i
    · exact q ⟨⟨z.1.1, q2⟩, z.2⟩
    · have e : (j - 71) / 3 = i := by omega
      have z2 := z.2.2
      rw [e] at z2
      exact hi z2
theorem NS.step {c i : Nat} {f : Int → Int} {v : Int} (hs : Sh w) (h : NS w m x1 c f i) (hc : c < 3) (hi : rN m i 0 = x1) (e : w2 = sI w 170 (71 + 3 * i + c) v) (hv : v = f (rN m i c)) (hb : bd v) : MW w w2 ∧ NS w2 m x1 c f (i + 1) := by
  obtain ⟨G, g⟩ := MW.put hs e hb
  refine ⟨G, fun j hj => ?_⟩
  rw [g]
  by_cases q0 : j = 71 + 3 * i + c
  · have e1 : (j - 71) % 3 = c := by omega
    have e2 : (j - 71) / 3 = i := by omega
    rw [if_pos q0, if_pos ⟨⟨by omega, by omega⟩, e1, by rw [e2]; exact hi⟩, hv, q0]
    rfl
  · rw [if_neg q0, h j hj]
    by_cases q : (71 ≤ j ∧ j < 71 + 3 * i) ∧ (j - 71) % 3 = c ∧ m (71 + 3 * ((j - 71) / 3)) = x1
    · rw [if_pos q, if_pos ⟨⟨q.1.1, by omega⟩, q.2⟩]
    · rw [if_neg q, if_neg (fun z => ?_)]
      by_cases q2 : j < 71 + 3 * i
      · exact q ⟨⟨z.1.1, q2⟩, z.2⟩
      · exact q0 (by have := z.2.1; omega)
theorem NS.done {c i : Nat} {f : Int → Int} (h : NS w m x1 c f i) (hi : (i : Int) = m 5) (hok : RowOK (rSetN m x1 c f)) : MR w (rSetN m x1 c f) := by
  refine ⟨hok, fun j hj => ?_⟩
  rw [h j hj]
  unfold rSetN
  by_cases q : (71 ≤ j ∧ j < 71 + 3 * i) ∧ (j - 71) % 3 = c ∧ m (71 + 3 * ((j - 71) / 3)) = x1
  · rw [if_pos q, if_pos ⟨⟨q.1.1, by omega⟩, q.2⟩]
  · rw [if_neg q, if_neg (fun z => q ⟨⟨z.1.1, by omega⟩, z.2⟩)]
theorem NS.lo {c i j : Nat} {f : Int → Int} (h : NS w m x1 c f i) (hj : j < 71) : gI w 170 j = m j := by rw [h j (by omega), if_neg (by omega)]
theorem NS.n0 {c i k : Nat} {f : Int → Int} (h : NS w m x1 c f i) (hc : c = 1 ∨ c = 2) (hk : k < 60) : gI w 170 ((71 + 3 * (k : Int)) + 0).toNat = rN m k 0 := by
  rw [show ((71 + 3 * (k : Int)) + 0).toNat = 71 + 3 * k + 0 from by omega, h _ (by omega), if_neg (by omega)]
  rfl
theorem NS.nc {c i : Nat} {f : Int → Int} (h : NS w m x1 c f i) (hi : i < 60) (hc : c < 3) : gI w 170 ((71 + 3 * (i : Int)) + (c : Nat)).toNat = rN m i c := by
  rw [show ((71 + 3 * (i : Int)) + (c : Nat)).toNat = 71 + 3 * i + c from by omega, h _ (by omega), if_neg (by omega)]
  rfl
theorem l338_87 {w : PW} {Q : PO → PW → Prop} {m : Row} {x1 x2 : Int} (hs : Sh w) (hR : RowOK m) (hx1 : bd x1) (hx2 : -23 ≤ x2 ∧ x2 ≤ 23) (hok : RowOK (rSetN m x1 2 (fun z => z + x2))) (h : ∀ w2, MW w w2 → MR w2 (rSetN m x1 2 (fun z => z + x2)) → Q (.inl (some (iv (sNotes (rSetN m x1 2 (fun z => z + x2)) x1 : Nat)))) w2) : ∀ k i : Nat, i + k = (m 5).toNat → ∀ w1, MW w w1 → NS w1 m x1 2 (fun z => z + x2) i → pX 338 87 [some (.ref 169), some (iv x1), some (iv x2), some (iv (i : Nat))] [] w1 Q := by
  have h5 := hR.n
  intro k
  induction k with
  | zero =>
    intro i hi w1 G1 hN
    refine v338_87 G1.1 hx1 ⟨by omega, by omega⟩ (bdk (by omega)) ?_
    rw [hN.lo (by decide)]
    refine ⟨fun _ => ?_, fun q => by omega⟩
    have M1 := hN.done (by omega) hok
    have h5b := hok.n
    have := cnt_le (fun k => decide (rN (rSetN m x1 2 (fun z => z + x2)) k 0 = x1)) (rSetN m x1 2 (fun z => z + x2) 5).toNat
    exact c287 G1.1 M1 hx1 (kI_iv (bdk (by unfold sNotes; omega)) ⟨G1.1, h w1 G1 M1⟩)
  | succ k ih =>
    intro i hi w1 G1 hN
    have hNb := (hR.N (i := i) (by omega)).2.2
    have e2 : gI w1 170 ((71 + 3 * (i : Int)) + 2).toNat = rN m i 2 := hN.nc (by omega) (by decide)
    refine v338_87 G1.1 hx1 ⟨by omega, by omega⟩ (bdk (by omega)) ?_
    rw [hN.lo (j := 5) (by decide), hN.n0 (k := i) (Or.inr rfl) (by omega), e2]
    refine ⟨fun q => by omega, fun _ => ⟨⟨by omega, by omega⟩, fun q => ih (i + 1) (by omega) w1 G1 (hN.skip q), fun q => ⟨⟨by omega, by omega⟩, ⟨by omega, by omega⟩, fun w5 e5 => ?_⟩⟩⟩
    rw [show ((71 + 3 * (i : Int)) + 2).toNat = 71 + 3 * i + 2 from by omega] at e5
    obtain ⟨G5, N5⟩ := hN.step G1.1 (by decide) q e5 rfl ⟨by omega, by omega⟩
    exact ih (i + 1) (by omega) w5 (G1.tr G5) N5
theorem l338_38 {w : PW} {Q : PO → PW → Prop} {m : Row} {x1 x2 : Int} (hs : Sh w) (hM : MR w m) (hx1 : bd x1) (hx2 : -23 ≤ x2 ∧ x2 ≤ 23) (hN : 0 < cnt (sTrB m x1 x2) (m 5).toNat → Q (.inl (some (iv (-3)))) w) (h : cnt (sTrB m x1 x2) (m 5).toNat = 0 → pC 326 [.ref 169] w (kV fun w2 => Sh w2 ∧ pX 338 87 [some (.ref 169), some (iv x1), some (iv x2), some (iv 0)] [] w2 Q)) : ∀ k i : Nat, i + k = (m 5).toNat → cnt (sTrB m x1 x2) i = 0 → pX 338 38 [some (.ref 169), some (iv x1), some (iv x2), some (iv (i : Nat))] [] w Q := by
  have h5 := hM.ok.n
  intro k
  induction k with
  | zero =>
    intro i hi hinv
    refine v338_38 hs hx1 ⟨by omega, by omega⟩ (bdk (by omega)) ?_
    rw [hM.g (k := 5) rfl]
    refine ⟨fun _ => h ?_, fun q => by omega⟩
    rw [show (m 5).toNat = i from by omega]
    exact hinv
  | succ k ih =>
    intro i hi hinv
    have hNb := (hM.ok.N (i := i) (by omega)).2.2
    refine v338_38 hs hx1 ⟨by omega, by omega⟩ (bdk (by omega)) ?_
    rw [hM.g (k := 5) rfl, hM.N0 (by omega), hM.N2 (by omega)]
    have e : sTrB m x1 x2 i = (decide (rN m i 0 = x1) && !decide (0 ≤ rN m i 2 + x2 ∧ rN m i 2 + x2 < 24)) := rfl
    refine ⟨fun q => by omega, fun _ => ⟨⟨by omega, by omega⟩, fun q => ih (i + 1) (by omega) ?_, fun q => ⟨⟨by omega, by omega⟩, ⟨by omega, by omega⟩, fun q2 => ih (i + 1) (by omega) ?_, fun q2 => hN (cnt_pos (i := i) (by omega) ?_)⟩⟩⟩
    · rw [cnt_f (by rw [e, decide_eq_false q, Bool.false_and])]
      exact hinv
    · rw [cnt_f (by rw [e, decide_eq_true (p := 0 ≤ rN m i 2 + x2 ∧ rN m i 2 + x2 < 24) (by omega)]; exact Bool.and_false _)]
      exact hinv
    · rw [e, decide_eq_true q, decide_eq_false (p := 0 ≤ rN m i 2 + x2 ∧ rN m i 2 + x2 < 24) (by omega)]; rfl
theorem c338 (hs : Sh w) (hM : MR w m) (hH : HM w H n) (hx1 : bd x1) (hx2 : bd x2) (h : mA w H n m Q (sa185 m x1 x2)) : pC 338 [.ref 169, iv x1, iv x2] w Q := by
  have h1 := hM.ok.u
  have h5 := hM.ok.n
  refine e338 hs hx1 hx2 ?_
  rw [hM.g (k := 1) rfl, i2L_toInt hx2, show (-23 : Int64).toInt = -23 from by decide, show (23 : Int64).toInt = 23 from by decide]
  refine ⟨⟨by omega, by omega⟩, (mA_go hs hM hH (by decide) h).2, fun q => ⟨fun q2 w4 e4 => ?_, (mA_go hs hM hH (by decide) (mA_t h q)).2⟩⟩
  obtain ⟨F4, g4, h4⟩ := (mA_go hs hM hH (by decide) (mA_t h q)).1 q2 w4 e4
  have hM4 := F4.mr hM
  refine l338_38 F4.1 hM4 hx1 q2 (fun z => mA_no (mAq_f h4 (by omega)) (MqF.rf F4.1) g4 hM4 (hH.mq F4)) (fun z => ?_) _ 0 (Nat.zero_add _) rfl
  have hok : RowOK (rSetN m x1 2 (fun z => z + x2)) := rSetN_ok hM.ok (Or.inr rfl) (fun i hi e => by
    rw [if_neg (by decide)]
    show 0 ≤ rN m i 2 + x2 ∧ rN m i 2 + x2 < 24
    by_cases q3 : 0 ≤ rN m i 2 + x2 ∧ rN m i 2 + x2 < 24
    · exact q3
    · have : sTrB m x1 x2 i = true := by
        show (decide (rN m i 0 = x1) && !decide (0 ≤ rN m i 2 + x2 ∧ rN m i 2 + x2 < 24)) = true
        rw [decide_eq_true e, decide_eq_false q3]; rfl
      have := cnt_pos (P := sTrB m x1 x2) (n := (m 5).toNat) (i := i) (by omega) this
      omega)
  exact c326 F4.1 hM4 (hH.mq F4) (fun w5 F5 H5 => ⟨F5.1, l338_87 F5.1 hM.ok hx1 q2 hok (fun w9 G9 M9 => mA_yes (mAq_t h4 z) (F5.ma.tr G9.mg.ma) (((G9.g (by decide) 0).trans (F5.2.2 0 (by decide))).trans g4) M9 (H5.mg G9.mg)) _ 0 (Nat.zero_add _) w5 (MW.rf F5.1) (NS.zero (F5.mr hM4))⟩)
theorem setPN {x : Int} {c : Nat} {f : Int → Int} {g : Nat → Int} (hR : RowOK m) : rSetP (rSetN m x c f) u g = rSetN (rSetP m u g) x c f := by
  have h5 := hR.n
  have l : ∀ j, j < 251 → rSetP m u g j = m j := fun j hj => rSetP_lo hj
  have e0 : rSetN m x c f 0 = m 0 := rSetN_lo (by decide)
  funext j
  unfold rSetP
  show (if 251 + 64 * u ≤ j ∧ (j : Int) < 251 + 64 * u + rSetN m x c f 0 then g (j - (251 + 64 * u)) else rSetN m x c f j) = (if (71 ≤ j ∧ (j : Int) < 71 + 3 * rSetP m u g 5) ∧ (j - 71) % 3 = c ∧ rSetP m u g (71 + 3 * ((j - 71) / 3)) = x then f (rSetP m u g j) else rSetP m u g j)
  rw [e0, l 5 (by decide)]
  by_cases q : 251 + 64 * u ≤ j ∧ (j : Int) < 251 + 64 * u + m 0
  · rw [if_pos q, if_neg (by omega)]
    exact (if_pos q).symm
  · rw [if_neg q]
    by_cases q2 : j < 251
    · rw [l j q2]
      by_cases q3 : 71 ≤ j
      · rw [l (71 + 3 * ((j - 71) / 3)) (by omega)]
        rfl
      · rw [rSetN_lo (by omega), if_neg (by omega)]
    · rw [rSetN_hi hR (by omega), if_neg (by omega)]
      exact (if_neg q).symm
theorem turn_eq {y : Nat} (hR : RowOK m) (hu : (u : Int) < m 1) (hy : (y : Int) < m 0) : rMoveP (rSetN m (u : Nat) 1 (fun z => wrp (z + (y : Nat)) (m 0))) u y = sTurnR m (u : Nat) (y : Nat) := by
  have h0 := hR.s
  have e0 : rSetN m (u : Nat) 1 (fun z => wrp (z + (y : Nat)) (m 0)) 0 = m 0 := rSetN_lo (by decide)
  unfold sTurnR
  rw [Int.toNat_natCast, Int.toNat_natCast, show rMoveP m u y 0 = m 0 from rSetP_lo (by decide)]
  unfold rMoveP
  rw [setPN hR, e0]
  have e : (fun s => rSetN m (u : Nat) 1 (fun z => wrp (z + (y : Nat)) (m 0)) (251 + 64 * u + wS (m 0).toNat s y)) = fun s => m (251 + 64 * u + wS (m 0).toNat s y) := by
    funext s
    exact rSetN_hi hR (by omega)
  rw [e]
theorem l339_36 {w : PW} {Q : PO → PW → Prop} {m : Row} {u y : Nat} (hs : Sh w) (hR : RowOK m) (hu : (u : Int) < m 1) (hy : (y : Int) < m 0) (h : ∀ w2, MG w w2 → MR w2 (sTurnR m (u : Nat) (y : Nat)) → Q (.inl (some (iv (sPins (sTurnR m (u : Nat) (y : Nat)) u)))) w2) : ∀ k i : Nat, i + k = (m 5).toNat → ∀ w1, MW w w1 → NS w1 m (u : Nat) 1 (fun z => wrp (z + (y : Nat)) (m 0)) i → pX 339 36 [some (.ref 169), some (iv (u : Nat)), some (iv (y : Nat)), some (iv (i : Nat))] [] w1 Q := by
  have h5 := hR.n
  have h0 := hR.s
  have h1 := hR.u
  intro k
  induction k with
  | zero =>
    intro i hi w1 G1 hN
    refine v339_36 G1.1 (bdk (by omega)) (bdk (by omega)) (bdk (by omega)) ?_
    rw [hN.lo (by decide)]
    refine ⟨fun _ => ?_, fun q => by omega⟩
    have hok : RowOK (rSetN m (u : Nat) 1 (fun z => wrp (z + (y : Nat)) (m 0))) := rSetN_ok hR (Or.inl rfl) (fun i hi e => by
      rw [if_pos rfl]
      exact wrp_bd (hR.N hi).2.1 ⟨by omega, hy⟩)
    have M1 := hN.done (by omega) hok
    refine c307 G1.1 M1 (by rw [rSetN_lo (by decide)]; exact hu) (by rw [rSetN_lo (by decide)]; exact hy) (fun w2 G2 M2 => ⟨G2.1, ?_⟩)
    rw [turn_eq hR hu hy] at M2
    have hb := sPins_bd M2.ok u
    have e1 : sTurnR m (u : Nat) (y : Nat) 1 = m 1 := by
      unfold sTurnR
      rw [rSetN_lo (by decide)]
      exact rSetP_lo (by decide)
    exact c247 G2.1 M2 (by rw [e1]; exact hu) (kI_iv ⟨by omega, by omega⟩ ⟨G2.1, h w2 (G1.mg.tr G2) M2⟩)
  | succ k ih =>
    intro i hi w1 G1 hN
    have hNb := (hR.N (i := i) (by omega)).2.1
    have e1 : gI w1 170 ((71 + 3 * (i : Int)) + 1).toNat = rN m i 1 := hN.nc (by omega) (by decide)
    refine v339_36 G1.1 (bdk (by omega)) (bdk (by omega)) (bdk (by omega)) ?_
    rw [hN.lo (j := 5) (by decide), hN.lo (j := 0) (by decide), hN.n0 (k := i) (Or.inl rfl) (by omega), e1]
    refine ⟨fun q => by omega, fun _ => ⟨⟨by omega, by omega⟩, fun q => ih (i + 1) (by omega) w1 G1 (hN.skip q), fun q => ⟨⟨by omega, by omega⟩, ⟨by omega, by omega⟩, ⟨by omega, by omega⟩, ⟨by omega, by omega⟩, fun w5 e5 => ?_⟩⟩⟩
    rw [show ((71 + 3 * (i : Int)) + 1).toNat = 71 + 3 * i + 1 from by omega] at e5
    have hw := wrp_bd hNb ⟨(show 0 ≤ (y : Int) by omega), hy⟩
    have ev : (rN m i 1 + (y : Nat)).tmod (m 0) = wrp (rN m i 1 + (y : Nat)) (m 0) := by
      rw [Int.tmod_eq_emod_of_nonneg (by omega)]
      unfold wrp
      split
      · exact Int.emod_eq_of_lt (by omega) (by omega)
      · rw [show rN m i 1 + (y : Nat) = rN m i 1 + (y : Nat) - m 0 + m 0 from by omega, Int.add_emod_right, Int.emod_eq_of_lt (by omega) (by omega)]
        omega
    obtain ⟨G5, N5⟩ := hN.step G1.1 (by decide) q e5 ev (by rw [ev]; exact ⟨by omega, by omega⟩)
    exact ih (i + 1) (by omega) w5 (G1.tr G5) N5
theorem c339 (hs : Sh w) (hM : MR w m) (hH : HM w H n) (hx1 : bd x1) (hx2 : bd x2) (h : mA w H n m Q (sa188 m x1 x2)) : pC 339 [.ref 169, iv x1, iv x2] w Q := by
  have h1 := hM.ok.u
  have h0 := hM.ok.s
  refine e339 hs hx1 hx2 ?_
  rw [hM.g (k := 1) rfl, hM.g (k := 0) rfl]
  refine ⟨⟨by omega, by omega⟩, (mA_go hs hM hH (by decide) h).2, fun q => ⟨⟨by omega, by omega⟩, fun q2 w4 e4 => ?_, (mA_go hs hM hH (by decide) (mA_t h q)).2⟩⟩
  obtain ⟨F4, g4, h4⟩ := (mA_go hs hM hH (by decide) (mA_t h q)).1 q2 w4 e4
  have hM4 := F4.mr hM
  obtain ⟨u, rfl⟩ := nat_of q.1
  obtain ⟨y, rfl⟩ := nat_of q2.1
  rw [Int.toNat_natCast] at h4
  exact c326 F4.1 hM4 (hH.mq F4) (fun w5 F5 H5 => ⟨F5.1, l339_36 F5.1 hM.ok q.2 q2.2 (fun w9 G9 M9 => mA_yes h4 (F5.ma.tr G9.ma) ((G9.2.2.1.2.2.2.2.2.trans (F5.2.2 0 (by decide))).trans g4) M9 (H5.mg G9)) _ 0 (Nat.zero_add _) w5 (MW.rf F5.1) (NS.zero (F5.mr hM4))⟩)
theorem rev_eq (hR : RowOK m) : rMirP (rSetN m (u : Nat) 1 (fun z => m 0 - 1 - z)) u = sRevR m (u : Nat) := by
  have h0 := hR.s
  have e0 : rSetN m (u : Nat) 1 (fun z => m 0 - 1 - z) 0 = m 0 := rSetN_lo (by decide)
  unfold sRevR
  rw [Int.toNat_natCast, show rMirP m u 0 = m 0 from rSetP_lo (by decide)]
  unfold rMirP
  rw [setPN hR, e0]
  have e : (fun s => rSetN m (u : Nat) 1 (fun z => m 0 - 1 - z) (251 + 64 * u + ((m 0).toNat - 1 - s))) = fun s => m (251 + 64 * u + ((m 0).toNat - 1 - s)) := by
    funext s
    exact rSetN_hi hR (by omega)
  rw [e]
theorem l340_112 {w : PW} {Q : PO → PW → Prop} {u : Nat} {m : Row} {g : Nat → Int} (hs : Sh w) (hR : RowOK m) (hu : (u : Int) < m 1) (hg : ∀ s : Nat, (s : Int) < m 0 → gI w 178 s = g s) (hok : RowOK (rSetP m u g)) (h : ∀ w2, MG w w2 → MR w2 (rSetP m u g) → Q (.inl (some (iv (sPins (rSetP m u g) u)))) w2) : ∀ k i : Nat, i + k = (m 0).toNat → ∀ w1, MG w w1 → PS w1 m u g i → (∀ s : Nat, s < 64 → gI w1 178 s = gI w 178 s) → pX 340 112 [some (.ref 169), some (iv (u : Nat)), some (iv (i : Nat))] [] w1 Q := by
  have h0 := hR.s
  have h1 := hR.u
  intro k
  induction k with
  | zero =>
    intro i hi w1 G1 hP hc
    refine v340_112 G1.1 (bdk (by omega)) (bdk (by omega)) ?_
    rw [hP.lo (j := 0) (by decide)]
    refine ⟨fun _ => ?_, fun q => by omega⟩
    have M1 := hP.done (by omega) hok
    have hb := sPins_bd hok u
    exact c247 G1.1 M1 (by rw [rSetP_lo (by decide)]; exact hu) (kI_iv ⟨by omega, by omega⟩ ⟨G1.1, h w1 G1 M1⟩)
  | succ k ih =>
    intro i hi w1 G1 hP hc
    refine v340_112 G1.1 (bdk (by omega)) (bdk (by omega)) ?_
    rw [hP.lo (j := 0) (by decide)]
    refine ⟨fun q => by omega, fun _ => ⟨⟨by omega, by omega⟩, ⟨by omega, by omega⟩, fun w2 e2 => ?_⟩⟩
    rw [Int.toNat_natCast, show ((251 + 64 * (u : Int)) + (i : Int)).toNat = 251 + 64 * u + i from by omega] at e2
    obtain ⟨G2, P2⟩ := hP.step G1.1 e2 (bd_gI _ _ _) ((hg i (by omega)).symm.trans (hc i (by omega)).symm)
    exact ih (i + 1) (by omega) w2 (G1.tr G2) P2 (fun s hs => by rw [← hc s hs, e2, gI_sI_ne (Or.inl (by decide))])
theorem l340_69 {w : PW} {Q : PO → PW → Prop} {u : Nat} {m : Row} (hs : Sh w) (hM : MR w m) (hu : (u : Int) < m 1) (h : ∀ w2, MF w w2 → (∀ s : Nat, (s : Int) < m 0 → gI w2 178 s = m (251 + 64 * u + ((m 0).toNat - 1 - s))) → pX 340 112 [some (.ref 169), some (iv (u : Nat)), some (iv 0)] [] w2 Q) : ∀ k i : Nat, i + k = (m 0).toNat → ∀ w1, MF w w1 → (∀ s : Nat, s < (m 0).toNat → (m 0).toNat - 1 - s < i → gI w1 178 s = m (251 + 64 * u + ((m 0).toNat - 1 - s))) → pX 340 69 [some (.ref 169), some (iv (u : Nat)), some (iv (i : Nat))] [] w1 Q := by
  have h0 := hM.ok.s
  have h1 := hM.ok.u
  intro k
  induction k with
  | zero =>
    intro i hi w1 F1 hI
    refine v340_69 F1.1 (bdk (by omega)) (bdk (by omega)) ?_
    rw [(F1.mr hM).g (k := 0) rfl]
    exact ⟨fun _ => h w1 F1 (fun s hs => hI s (by omega) (by omega)), fun q => by omega⟩
  | succ k ih =>
    intro i hi w1 F1 hI
    have hM1 := F1.mr hM
    refine v340_69 F1.1 (bdk (by omega)) (bdk (by omega)) ?_
    rw [hM1.g (k := 0) rfl, hM1.pin (by omega) (by omega)]
    refine ⟨fun q => by omega, fun _ => ⟨⟨by omega, by omega⟩, ⟨by omega, by omega⟩, fun w2 e2 => ?_⟩⟩
    rw [show (m 0 - 1 - (i : Int)).toNat = (m 0).toNat - 1 - i from by omega] at e2
    obtain ⟨F2, k2, g2⟩ := MF.oth F1.1 e2 (slt_a tbC_178) (hM.ok.P hu (s := i) (by omega)).1 (by omega)
    refine ih (i + 1) (by omega) w2 (F1.tr F2) (fun s hs hq => ?_)
    rw [g2]
    by_cases q : s = (m 0).toNat - 1 - i
    · rw [if_pos ⟨rfl, q⟩, show (m 0).toNat - 1 - s = i from by omega]
    · rw [if_neg (fun z => q z.2)]
      exact hI s hs (by omega)
theorem l340_16 {w : PW} {Q : PO → PW → Prop} {m : Row} {u : Nat} (hs : Sh w) (hR : RowOK m) (hu : (u : Int) < m 1) (h : ∀ w2, MG w w2 → MR w2 (sRevR m (u : Nat)) → Q (.inl (some (iv (sPins (sRevR m (u : Nat)) u)))) w2) : ∀ k i : Nat, i + k = (m 5).toNat → ∀ w1, MW w w1 → NS w1 m (u : Nat) 1 (fun z => m 0 - 1 - z) i → pX 340 16 [some (.ref 169), some (iv (u : Nat)), some (iv (i : Nat))] [] w1 Q := by
  have h5 := hR.n
  have h0 := hR.s
  have h1 := hR.u
  intro k
  induction k with
  | zero =>
    intro i hi w1 G1 hN
    refine v340_16 G1.1 (bdk (by omega)) (bdk (by omega)) ?_
    rw [hN.lo (by decide)]
    refine ⟨fun _ => ?_, fun q => by omega⟩
    have hok : RowOK (rSetN m (u : Nat) 1 (fun z => m 0 - 1 - z)) := rSetN_ok hR (Or.inl rfl) (fun i hi e => by
      rw [if_pos rfl]
      have := (hR.N hi).2.1
      show 0 ≤ m 0 - 1 - rN m i 1 ∧ m 0 - 1 - rN m i 1 < m 0
      omega)
    have M1 := hN.done (by omega) hok
    have hu2 : (u : Int) < rSetN m (u : Nat) 1 (fun z => m 0 - 1 - z) 1 := by rw [rSetN_lo (by decide)]; exact hu
    refine l340_69 G1.1 M1 hu2 (fun w2 F2 hI => ?_) _ 0 (Nat.zero_add _) w1 (MF.rf G1.1) (fun s _ hq => absurd hq (Nat.not_lt_zero _))
    refine l340_112 (w := w2) (g := fun s => rSetN m (u : Nat) 1 (fun z => m 0 - 1 - z) (251 + 64 * u + ((rSetN m (u : Nat) 1 (fun z => m 0 - 1 - z) 0).toNat - 1 - s))) F2.1 hok hu2 hI (rMirP_ok hok hu2) (fun w3 G3 M3 => ?_) _ 0 (Nat.zero_add _) w2 (MG.rf F2.1) (PS.zero (F2.mr M1)) (fun _ _ => rfl)
    have er := rev_eq (u := u) hR
    unfold rMirP at er
    rw [er] at M3 ⊢
    exact h w3 (G1.mg.tr (F2.mg.tr G3)) M3
  | succ k ih =>
    intro i hi w1 G1 hN
    have hNb := (hR.N (i := i) (by omega)).2.1
    have e1 : gI w1 170 ((71 + 3 * (i : Int)) + 1).toNat = rN m i 1 := hN.nc (by omega) (by decide)
    refine v340_16 G1.1 (bdk (by omega)) (bdk (by omega)) ?_
    rw [hN.lo (j := 5) (by decide), hN.lo (j := 0) (by decide), hN.n0 (k := i) (Or.inl rfl) (by omega), e1]
    refine ⟨fun q => by omega, fun _ => ⟨⟨by omega, by omega⟩, fun q => ih (i + 1) (by omega) w1 G1 (hN.skip q), fun q => ⟨⟨by omega, by omega⟩, ⟨by omega, by omega⟩, fun w5 e5 => ?_⟩⟩⟩
    rw [show ((71 + 3 * (i : Int)) + 1).toNat = 71 + 3 * i + 1 from by omega] at e5
    obtain ⟨G5, N5⟩ := hN.step G1.1 (by decide) q e5 rfl ⟨by omega, by omega⟩
    exact ih (i + 1) (by omega) w5 (G1.tr G5) N5
theorem c340 (hs : Sh w) (hM : MR w m) (hH : HM w H n) (hx1 : bd x1) (h : mA w H n m Q (sa193 m x1)) : pC 340 [.ref 169, iv x1] w Q := by
  have h1 := hM.ok.u
  refine e340 hs hx1 ?_
  rw [hM.g (k := 1) rfl]
  refine ⟨⟨by omega, by omega⟩, fun q w2 e2 => ?_, (mA_go hs hM hH (by decide) h).2⟩
  obtain ⟨F2, g2, h2⟩ := (mA_go hs hM hH (by decide) h).1 q w2 e2
  have hM2 := F2.mr hM
  obtain ⟨u, rfl⟩ := nat_of q.1
  rw [Int.toNat_natCast] at h2
  exact c326 F2.1 hM2 (hH.mq F2) (fun w3 F3 H3 => ⟨F3.1, l340_16 F3.1 hM.ok q.2 (fun w9 G9 M9 => mA_yes h2 (F3.ma.tr G9.ma) ((G9.2.2.1.2.2.2.2.2.trans (F3.2.2 0 (by decide))).trans g2) M9 (H3.mg G9)) _ 0 (Nat.zero_add _) w3 (MW.rf F3.1) (NS.zero (F3.mr hM2))⟩)
end MA2
