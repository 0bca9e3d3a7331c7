/-! THE CLASS's FACE: lay; what was kept -/
/-! 181: PinBarrel.lay(I)I -/
theorem b181 : mB 181 = cX8_lay := rfl
theorem r181 : mR 181 = (some .int) := rfl
theorem d181_0 : decode cX8_lay 0 = .ok (.aload_n 0, 1) := by decide +kernel
theorem d181_1 : decode cX8_lay 1 = .ok (.iload_n 1, 1) := by decide +kernel
theorem d181_2 : decode cX8_lay 2 = .ok (.invokevirtual 189, 3) := by decide +kernel
theorem d181_5 : decode cX8_lay 5 = .ok (.aload_n 0, 1) := by decide +kernel
theorem d181_6 : decode cX8_lay 6 = .ok (.getfield 51, 3) := by decide +kernel
theorem d181_9 : decode cX8_lay 9 = .ok (.aload_n 0, 1) := by decide +kernel
theorem d181_10 : decode cX8_lay 10 = .ok (.getfield 12, 3) := by decide +kernel
theorem d181_13 : decode cX8_lay 13 = .ok (.iload_n 1, 1) := by decide +kernel
theorem d181_14 : decode cX8_lay 14 = .ok (.iconst (-1), 1) := by decide +kernel
theorem d181_15 : decode cX8_lay 15 = .ok (.invokevirtual 259, 3) := by decide +kernel
theorem d181_18 : decode cX8_lay 18 = .ok (.aload_n 0, 1) := by decide +kernel
theorem d181_19 : decode cX8_lay 19 = .ok (.getfield 51, 3) := by decide +kernel
theorem d181_22 : decode cX8_lay 22 = .ok (.getfield 263, 3) := by decide +kernel
theorem d181_25 : decode cX8_lay 25 = .ok (.bipush (-2), 2) := by decide +kernel
theorem d181_27 : decode cX8_lay 27 = .ok (.if_icmp .ne 6, 3) := by decide +kernel
theorem d181_30 : decode cX8_lay 30 = .ok (.bipush (-2), 2) := by decide +kernel
theorem d181_32 : decode cX8_lay 32 = .ok (.ireturn, 1) := by decide +kernel
theorem d181_33 : decode cX8_lay 33 = .ok (.aload_n 0, 1) := by decide +kernel
theorem d181_34 : decode cX8_lay 34 = .ok (.getfield 51, 3) := by decide +kernel
theorem d181_37 : decode cX8_lay 37 = .ok (.invokevirtual 269, 3) := by decide +kernel
theorem d181_40 : decode cX8_lay 40 = .ok (.ifCond .ne 6, 3) := by decide +kernel
theorem d181_43 : decode cX8_lay 43 = .ok (.bipush (-3), 2) := by decide +kernel
theorem d181_45 : decode cX8_lay 45 = .ok (.ireturn, 1) := by decide +kernel
theorem d181_46 : decode cX8_lay 46 = .ok (.aload_n 0, 1) := by decide +kernel
theorem d181_47 : decode cX8_lay 47 = .ok (.getfield 22, 3) := by decide +kernel
theorem d181_50 : decode cX8_lay 50 = .ok (.aload_n 0, 1) := by decide +kernel
theorem d181_51 : decode cX8_lay 51 = .ok (.getfield 12, 3) := by decide +kernel
theorem d181_54 : decode cX8_lay 54 = .ok (.invokevirtual 326, 3) := by decide +kernel
theorem d181_57 : decode cX8_lay 57 = .ok (.aload_n 0, 1) := by decide +kernel
theorem d181_58 : decode cX8_lay 58 = .ok (.getfield 51, 3) := by decide +kernel
theorem d181_61 : decode cX8_lay 61 = .ok (.aload_n 0, 1) := by decide +kernel
theorem d181_62 : decode cX8_lay 62 = .ok (.getfield 12, 3) := by decide +kernel
theorem d181_65 : decode cX8_lay 65 = .ok (.invokevirtual 343, 3) := by decide +kernel
theorem d181_68 : decode cX8_lay 68 = .ok (.aload_n 0, 1) := by decide +kernel
theorem d181_69 : decode cX8_lay 69 = .ok (.getfield 12, 3) := by decide +kernel
theorem d181_72 : decode cX8_lay 72 = .ok (.iload_n 1, 1) := by decide +kernel
theorem d181_73 : decode cX8_lay 73 = .ok (.invokevirtual 252, 3) := by decide +kernel
theorem d181_76 : decode cX8_lay 76 = .ok (.ireturn, 1) := by decide +kernel
theorem v181_0 {w : PW} {Q : PO → PW → Prop} {x1 : Int} (hs : Sh w) (hx1 : bd x1) (h : (bd ((gI w 1 1) - 1)) ∧ ((0 ≤ x1 ∧ x1 < gI w 1 1) → pC 124 [.ref 139, .ref 1, iv x1, iv ((-1))] w (kV fun w2 => Sh w2 ∧ ((gI w2 139 0) ≠ ((-2)) → ((gI w2 139 0 = 1) → pC 164 [.ref 27, .ref 1] w2 (kV fun w6 => Sh w6 ∧ pC 180 [.ref 139, .ref 1] w6 (kV fun w8 => Sh w8 ∧ pC 58 [.ref 1, iv x1] w8 (kI fun u11 w10 => Sh w10 ∧ Q (.inl (some (iv u11))) w10)))) ∧ ((¬ (gI w2 139 0 = 1)) → Q (.inl (some (iv ((-3))))) w2)) ∧ ((gI w2 139 0) = ((-2)) → Q (.inl (some (iv ((-2))))) w2))) ∧ (¬ (0 ≤ x1 ∧ x1 < gI w 1 1) → Q (.inr 1) w)) : pX 181 0 [some (.ref 0), some (iv x1)] [] w Q :=
  w_f b181 d181_0 rfl rfl rfl <| w_f b181 d181_1 rfl rfl rfl <| w_cc b181 d181_2 rfl (pcl_v (n := 1) rfl rfl rfl (by decide +kernel) (sh_isOb hs (tlt 0 rfl) tbC_0) rfl rfl) rfl <| c77 hs hx1 h.1 (fun c1 => w_f b181 d181_5 rfl rfl rfl <| w_gr b181 d181_6 rfl rfl hs (tlt 0 rfl) tbC_0 rfl (by decide) <| w_f b181 d181_9 rfl rfl rfl <| w_gr b181 d181_10 rfl rfl hs (tlt 0 rfl) tbC_0 rfl (bxr0 (bxc 1 rfl)) <| w_f b181 d181_13 rfl rfl rfl <| w_f b181 d181_14 rfl rfl rfl <| w_c b181 d181_15 rfl (pcl_v (n := 3) rfl rfl rfl (by decide +kernel) (sh_isOb hs (tlt 139 rfl) tbC_139) rfl rfl) rfl _ (hK_V fun w2 hkw2 => w_f b181 d181_18 rfl rfl rfl <| w_gr b181 d181_19 rfl rfl hkw2.1 (tlt 0 rfl) tbC_0 rfl (by decide) <| w_gi b181 d181_22 rfl rfl hkw2.1 (tlt 139 rfl) tbC_139 rfl <| w_f b181 d181_25 rfl rfl rfl <| w_icne b181 d181_27 rfl rfl (by decide +kernel) (bd_gI _ _ _) ⟨by decide, by decide⟩ (fun c4 => w_f b181 d181_33 rfl rfl rfl <| w_gr b181 d181_34 rfl rfl hkw2.1 (tlt 0 rfl) tbC_0 rfl (by decide) <| w_cc b181 d181_37 rfl (pcl_v (n := 0) rfl rfl rfl (by decide +kernel) (sh_isOb hkw2.1 (tlt 139 rfl) tbC_139) rfl rfl) rfl <| c129 hkw2.1 <| w_ifneZ b181 d181_40 rfl rfl (by decide +kernel) (fun c5 => w_f b181 d181_46 rfl rfl rfl <| w_gr b181 d181_47 rfl rfl hkw2.1 (tlt 0 rfl) tbC_0 rfl (by decide) <| w_f b181 d181_50 rfl rfl rfl <| w_gr b181 d181_51 rfl rfl hkw2.1 (tlt 0 rfl) tbC_0 rfl (bxr0 (bxc 1 rfl)) <| w_c b181 d181_54 rfl (pcl_v (n := 1) rfl rfl rfl (by decide +kernel) (sh_isOb hkw2.1 (tlt 27 rfl) tbC_27) rfl rfl) rfl _ (hK_V fun w6 hkw6 => w_f b181 d181_57 rfl rfl rfl <| w_gr b181 d181_58 rfl rfl hkw6.1 (tlt 0 rfl) tbC_0 rfl (by decide) <| w_f b181 d181_61 rfl rfl rfl <| w_gr b181 d181_62 rfl rfl hkw6.1 (tlt 0 rfl) tbC_0 rfl (bxr0 (bxc 1 rfl)) <| w_c b181 d181_65 rfl (pcl_v (n := 1) rfl rfl rfl (by decide +kernel) (sh_isOb hkw6.1 (tlt 139 rfl) tbC_139) rfl rfl) rfl _ (hK_V fun w8 hkw8 => w_f b181 d181_68 rfl rfl rfl <| w_gr b181 d181_69 rfl rfl hkw8.1 (tlt 0 rfl) tbC_0 rfl (bxr0 (bxc 1 rfl)) <| w_f b181 d181_72 rfl rfl rfl <| w_c b181 d181_73 rfl (pcl_v (n := 1) rfl rfl rfl (by decide +kernel) (sh_isOb hkw8.1 (bx00 (bxc 1 rfl)) (tb0 (bxc 1 rfl))) rfl rfl) rfl _ (hK_I fun u11 w10 hbu11 hkw10 => w_ri b181 d181_76 r181 hkw10.2) hkw8.2) hkw6.2) ((hkw2.2.1 c4).1 c5)) (fun c5 => w_f b181 d181_43 rfl rfl rfl <| w_ri b181 d181_45 r181 ((hkw2.2.1 c4).2 c5))) (fun c4 => w_f b181 d181_30 rfl rfl rfl <| w_ri b181 d181_32 r181 (hkw2.2.2 c4))) (h.2.1 c1)) (fun c1 => h.2.2 c1)
theorem e181 {w : PW} {Q : PO → PW → Prop} {x1 : Int} (hs : Sh w) (hx1 : bd x1) (h : (bd ((gI w 1 1) - 1)) ∧ ((0 ≤ x1 ∧ x1 < gI w 1 1) → pC 124 [.ref 139, .ref 1, iv x1, iv ((-1))] w (kV fun w2 => Sh w2 ∧ ((gI w2 139 0) ≠ ((-2)) → ((gI w2 139 0 = 1) → pC 164 [.ref 27, .ref 1] w2 (kV fun w6 => Sh w6 ∧ pC 180 [.ref 139, .ref 1] w6 (kV fun w8 => Sh w8 ∧ pC 58 [.ref 1, iv x1] w8 (kI fun u11 w10 => Sh w10 ∧ Q (.inl (some (iv u11))) w10)))) ∧ ((¬ (gI w2 139 0 = 1)) → Q (.inl (some (iv ((-3))))) w2)) ∧ ((gI w2 139 0) = ((-2)) → Q (.inl (some (iv ((-2))))) w2))) ∧ (¬ (0 ≤ x1 ∧ x1 < gI w 1 1) → Q (.inr 1) w)) : pC 181 [.ref 0, iv x1] w Q :=
  (pC_in (Nat.le_of_ble_eq_true rfl) rfl Q).mpr (v181_0 hs hx1 h)
/-! 56: PinBarrel.undo()I -/
theorem b56 : mB 56 = cX8_undo := rfl
theorem r56 : mR 56 = (some .int) := rfl
theorem p56 (a b : Nat) : phi 56 a ≤ phi 56 b := Nat.le_refl 0
theorem d56_0 : decode cX8_undo 0 = .ok (.aload_n 0, 1) := by decide +kernel
theorem d56_1 : decode cX8_undo 1 = .ok (.getfield 22, 3) := by decide +kernel
theorem d56_4 : decode cX8_undo 4 = .ok (.getfield 139, 3) := by decide +kernel
theorem d56_7 : decode cX8_undo 7 = .ok (.ifCond .ne 5, 3) := by decide +kernel
theorem d56_10 : decode cX8_undo 10 = .ok (.iconst (-1), 1) := by decide +kernel
theorem d56_11 : decode cX8_undo 11 = .ok (.ireturn, 1) := by decide +kernel
theorem d56_12 : decode cX8_undo 12 = .ok (.aload_n 0, 1) := by decide +kernel
theorem d56_13 : decode cX8_undo 13 = .ok (.getfield 22, 3) := by decide +kernel
theorem d56_16 : decode cX8_undo 16 = .ok (.aload_n 0, 1) := by decide +kernel
theorem d56_17 : decode cX8_undo 17 = .ok (.getfield 12, 3) := by decide +kernel
theorem d56_20 : decode cX8_undo 20 = .ok (.invokevirtual 374, 3) := by decide +kernel
theorem d56_23 : decode cX8_undo 23 = .ok (.aload_n 0, 1) := by decide +kernel
theorem d56_24 : decode cX8_undo 24 = .ok (.getfield 22, 3) := by decide +kernel
theorem d56_27 : decode cX8_undo 27 = .ok (.getfield 139, 3) := by decide +kernel
theorem d56_30 : decode cX8_undo 30 = .ok (.ireturn, 1) := by decide +kernel
theorem v56_0 {w : PW} {Q : PO → PW → Prop}  (hs : Sh w)  (h : ((gI w 27 2) ≠ 0 → pC 55 [.ref 27, .ref 1] w (kV fun w2 => Sh w2 ∧ Q (.inl (some (iv (gI w2 27 2)))) w2)) ∧ ((gI w 27 2) = 0 → Q (.inl (some (iv ((-1))))) w)) : pX 56 0 [some (.ref 0)] [] w Q :=
  w_f b56 d56_0 rfl rfl rfl <| w_gr b56 d56_1 rfl rfl hs (tlt 0 rfl) tbC_0 rfl (by decide) <| w_gi b56 d56_4 rfl rfl hs (tlt 27 rfl) tbC_27 rfl <| w_ifne b56 d56_7 rfl rfl (p56 _ _) (bd_gI _ _ _) (fun c1 => w_f b56 d56_12 rfl rfl rfl <| w_gr b56 d56_13 rfl rfl hs (tlt 0 rfl) tbC_0 rfl (by decide) <| w_f b56 d56_16 rfl rfl rfl <| w_gr b56 d56_17 rfl rfl hs (tlt 0 rfl) tbC_0 rfl (bxr0 (bxc 1 rfl)) <| w_c b56 d56_20 rfl (pcl_v (n := 1) rfl rfl rfl (by decide +kernel) (sh_isOb hs (tlt 27 rfl) tbC_27) rfl rfl) rfl _ (hK_V fun w2 hkw2 => w_f b56 d56_23 rfl rfl rfl <| w_gr b56 d56_24 rfl rfl hkw2.1 (tlt 0 rfl) tbC_0 rfl (by decide) <| w_gi b56 d56_27 rfl rfl hkw2.1 (tlt 27 rfl) tbC_27 rfl <| w_ri b56 d56_30 r56 hkw2.2) (h.1 c1)) (fun c1 => w_f b56 d56_10 rfl rfl rfl <| w_ri b56 d56_11 r56 (h.2 c1))
theorem e56 {w : PW} {Q : PO → PW → Prop}  (hs : Sh w)  (h : ((gI w 27 2) ≠ 0 → pC 55 [.ref 27, .ref 1] w (kV fun w2 => Sh w2 ∧ Q (.inl (some (iv (gI w2 27 2)))) w2)) ∧ ((gI w 27 2) = 0 → Q (.inl (some (iv ((-1))))) w)) : pC 56 [.ref 0] w Q :=
  (pC_in (Nat.le_of_ble_eq_true rfl) rfl Q).mpr (v56_0 hs  h)
/-! 211: PinBarrel.saveSnapshot(I)I -/
theorem b211 : mB 211 = cX8_saveSnapshot := rfl
theorem r211 : mR 211 = (some .int) := rfl
theorem d211_0 : decode cX8_saveSnapshot 0 = .ok (.aload_n 0, 1) := by decide +kernel
theorem d211_1 : decode cX8_saveSnapshot 1 = .ok (.iload_n 1, 1) := by decide +kernel
theorem d211_2 : decode cX8_saveSnapshot 2 = .ok (.iconst 0, 1) := by decide +kernel
theorem d211_3 : decode cX8_saveSnapshot 3 = .ok (.iconst 1, 1) := by decide +kernel
theorem d211_4 : decode cX8_saveSnapshot 4 = .ok (.invokevirtual 223, 3) := by decide +kernel
theorem d211_7 : decode cX8_saveSnapshot 7 = .ok (.aload_n 0, 1) := by decide +kernel
theorem d211_8 : decode cX8_saveSnapshot 8 = .ok (.getfield 26, 3) := by decide +kernel
theorem d211_11 : decode cX8_saveSnapshot 11 = .ok (.iload_n 1, 1) := by decide +kernel
theorem d211_12 : decode cX8_saveSnapshot 12 = .ok (.aaload, 1) := by decide +kernel
theorem d211_13 : decode cX8_saveSnapshot 13 = .ok (.aload_n 0, 1) := by decide +kernel
theorem d211_14 : decode cX8_saveSnapshot 14 = .ok (.getfield 12, 3) := by decide +kernel
theorem d211_17 : decode cX8_saveSnapshot 17 = .ok (.invokevirtual 80, 3) := by decide +kernel
theorem d211_20 : decode cX8_saveSnapshot 20 = .ok (.aload_n 0, 1) := by decide +kernel
theorem d211_21 : decode cX8_saveSnapshot 21 = .ok (.getfield 30, 3) := by decide +kernel
theorem d211_24 : decode cX8_saveSnapshot 24 = .ok (.iload_n 1, 1) := by decide +kernel
theorem d211_25 : decode cX8_saveSnapshot 25 = .ok (.iconst 1, 1) := by decide +kernel
theorem d211_26 : decode cX8_saveSnapshot 26 = .ok (.bastore, 1) := by decide +kernel
theorem d211_27 : decode cX8_saveSnapshot 27 = .ok (.aload_n 0, 1) := by decide +kernel
theorem d211_28 : decode cX8_saveSnapshot 28 = .ok (.getfield 12, 3) := by decide +kernel
theorem d211_31 : decode cX8_saveSnapshot 31 = .ok (.invokevirtual 111, 3) := by decide +kernel
theorem d211_34 : decode cX8_saveSnapshot 34 = .ok (.ireturn, 1) := by decide +kernel
theorem v211_0 {w : PW} {Q : PO → PW → Prop} {x1 : Int} (hs : Sh w) (hx1 : bd x1) (h : ((0 ≤ x1 ∧ x1 ≤ 1) → (0 ≤ x1 ∧ x1 < 2) ∧ pC 37 [.ref (143 + 13 * x1.toNat), .ref 1] w (kV fun w2 => Sh w2 ∧ (0 ≤ x1 ∧ x1 < 2) ∧ ∀ w4 : PW, w4 = sI w2 134 x1.toNat 1 → pC 59 [.ref 1] w4 (kI fun u6 w5 => Sh w5 ∧ Q (.inl (some (iv u6))) w5))) ∧ (¬ (0 ≤ x1 ∧ x1 ≤ 1) → Q (.inr 1) w)) : pX 211 0 [some (.ref 0), some (iv x1)] [] w Q :=
  w_f b211 d211_0 rfl rfl rfl <| w_f b211 d211_1 rfl rfl rfl <| w_f b211 d211_2 rfl rfl rfl <| w_f b211 d211_3 rfl rfl rfl <| w_cc b211 d211_4 rfl (pcl_v (n := 3) rfl rfl rfl (by decide +kernel) (sh_isOb hs (tlt 0 rfl) tbC_0) rfl rfl) rfl <| c76 hs hx1 ⟨by decide, by decide⟩ ⟨by decide, by decide⟩ (fun c1 => w_f b211 d211_7 rfl rfl rfl <| w_gr b211 d211_8 rfl rfl hs (tlt 0 rfl) tbC_0 rfl (by decide) <| w_f b211 d211_11 rfl rfl rfl <| w_qal b211 d211_12 rfl hs (tlt 133 rfl) tbC_133 (bdix (n := 2) (h.1 c1).1 rfl) (h.1 c1).1.1 (qlS (h.1 c1).1) <| w_f b211 d211_13 rfl rfl rfl <| w_gr b211 d211_14 rfl rfl hs (tlt 0 rfl) tbC_0 rfl (bxr0 (bxc 1 rfl)) <| w_c b211 d211_17 rfl (pcl_v (n := 1) rfl rfl rfl (by decide +kernel) (sh_isOb hs (bx00 (bxS (h.1 c1).1)) (tb0 (bxS (h.1 c1).1))) rfl rfl) rfl _ (hK_V fun w2 hkw2 => w_f b211 d211_20 rfl rfl rfl <| w_gr b211 d211_21 rfl rfl hkw2.1 (tlt 0 rfl) tbC_0 rfl (by decide) <| w_f b211 d211_24 rfl rfl rfl <| w_f b211 d211_25 rfl rfl rfl <| w_bas b211 d211_26 rfl hkw2.1 (tlt 134 rfl) tbC_134 (by decide) (bdix (n := 2) hkw2.2.1 rfl) hkw2.2.1 <| w_f b211 d211_27 rfl rfl rfl <| w_gr b211 d211_28 rfl rfl (Sh_sI hkw2.1 (slt_a tbC_134)) (tlt 0 rfl) tbC_0 rfl (bxr0 (bxc 1 rfl)) <| w_c b211 d211_31 rfl (pcl_v (n := 0) rfl rfl rfl (by decide +kernel) (sh_isOb (Sh_sI hkw2.1 (slt_a tbC_134)) (bx00 (bxc 1 rfl)) (tb0 (bxc 1 rfl))) rfl rfl) rfl _ (hK_I fun u6 w5 hbu6 hkw5 => w_ri b211 d211_34 r211 hkw5.2) (hkw2.2.2 _ rfl)) (h.1 c1).2) (fun c1 => h.2 c1)
theorem e211 {w : PW} {Q : PO → PW → Prop} {x1 : Int} (hs : Sh w) (hx1 : bd x1) (h : ((0 ≤ x1 ∧ x1 ≤ 1) → (0 ≤ x1 ∧ x1 < 2) ∧ pC 37 [.ref (143 + 13 * x1.toNat), .ref 1] w (kV fun w2 => Sh w2 ∧ (0 ≤ x1 ∧ x1 < 2) ∧ ∀ w4 : PW, w4 = sI w2 134 x1.toNat 1 → pC 59 [.ref 1] w4 (kI fun u6 w5 => Sh w5 ∧ Q (.inl (some (iv u6))) w5))) ∧ (¬ (0 ≤ x1 ∧ x1 ≤ 1) → Q (.inr 1) w)) : pC 211 [.ref 0, iv x1] w Q :=
  (pC_in (Nat.le_of_ble_eq_true rfl) rfl Q).mpr (v211_0 hs hx1 h)
/-! 213: PinBarrel.restoreSnapshot(I)I -/
theorem b213 : mB 213 = cX8_restoreSnapshot := rfl
theorem r213 : mR 213 = (some .int) := rfl
theorem d213_0 : decode cX8_restoreSnapshot 0 = .ok (.aload_n 0, 1) := by decide +kernel
theorem d213_1 : decode cX8_restoreSnapshot 1 = .ok (.iload_n 1, 1) := by decide +kernel
theorem d213_2 : decode cX8_restoreSnapshot 2 = .ok (.iconst 0, 1) := by decide +kernel
theorem d213_3 : decode cX8_restoreSnapshot 3 = .ok (.iconst 1, 1) := by decide +kernel
theorem d213_4 : decode cX8_restoreSnapshot 4 = .ok (.invokevirtual 223, 3) := by decide +kernel
theorem d213_7 : decode cX8_restoreSnapshot 7 = .ok (.aload_n 0, 1) := by decide +kernel
theorem d213_8 : decode cX8_restoreSnapshot 8 = .ok (.getfield 30, 3) := by decide +kernel
theorem d213_11 : decode cX8_restoreSnapshot 11 = .ok (.iload_n 1, 1) := by decide +kernel
theorem d213_12 : decode cX8_restoreSnapshot 12 = .ok (.baload, 1) := by decide +kernel
theorem d213_13 : decode cX8_restoreSnapshot 13 = .ok (.ifCond .ne 5, 3) := by decide +kernel
theorem d213_16 : decode cX8_restoreSnapshot 16 = .ok (.iconst (-1), 1) := by decide +kernel
theorem d213_17 : decode cX8_restoreSnapshot 17 = .ok (.ireturn, 1) := by decide +kernel
theorem d213_18 : decode cX8_restoreSnapshot 18 = .ok (.aload_n 0, 1) := by decide +kernel
theorem d213_19 : decode cX8_restoreSnapshot 19 = .ok (.getfield 12, 3) := by decide +kernel
theorem d213_22 : decode cX8_restoreSnapshot 22 = .ok (.aload_n 0, 1) := by decide +kernel
theorem d213_23 : decode cX8_restoreSnapshot 23 = .ok (.getfield 26, 3) := by decide +kernel
theorem d213_26 : decode cX8_restoreSnapshot 26 = .ok (.iload_n 1, 1) := by decide +kernel
theorem d213_27 : decode cX8_restoreSnapshot 27 = .ok (.aaload, 1) := by decide +kernel
theorem d213_28 : decode cX8_restoreSnapshot 28 = .ok (.invokevirtual 80, 3) := by decide +kernel
theorem d213_31 : decode cX8_restoreSnapshot 31 = .ok (.aload_n 0, 1) := by decide +kernel
theorem d213_32 : decode cX8_restoreSnapshot 32 = .ok (.getfield 22, 3) := by decide +kernel
theorem d213_35 : decode cX8_restoreSnapshot 35 = .ok (.invokevirtual 84, 3) := by decide +kernel
theorem d213_38 : decode cX8_restoreSnapshot 38 = .ok (.aload_n 0, 1) := by decide +kernel
theorem d213_39 : decode cX8_restoreSnapshot 39 = .ok (.getfield 12, 3) := by decide +kernel
theorem d213_42 : decode cX8_restoreSnapshot 42 = .ok (.invokevirtual 111, 3) := by decide +kernel
theorem d213_45 : decode cX8_restoreSnapshot 45 = .ok (.ireturn, 1) := by decide +kernel
theorem v213_0 {w : PW} {Q : PO → PW → Prop} {x1 : Int} (hs : Sh w) (hx1 : bd x1) (h : ((0 ≤ x1 ∧ x1 ≤ 1) → (0 ≤ x1 ∧ x1 < 2) ∧ ((gI w 134 x1.toNat) ≠ 0 → (0 ≤ x1 ∧ x1 < 2) ∧ pC 37 [.ref 1, .ref (143 + 13 * x1.toNat)] w (kV fun w3 => Sh w3 ∧ pC 38 [.ref 27] w3 (kV fun w5 => Sh w5 ∧ pC 59 [.ref 1] w5 (kI fun u8 w7 => Sh w7 ∧ Q (.inl (some (iv u8))) w7)))) ∧ ((gI w 134 x1.toNat) = 0 → Q (.inl (some (iv ((-1))))) w)) ∧ (¬ (0 ≤ x1 ∧ x1 ≤ 1) → Q (.inr 1) w)) : pX 213 0 [some (.ref 0), some (iv x1)] [] w Q :=
  w_f b213 d213_0 rfl rfl rfl <| w_f b213 d213_1 rfl rfl rfl <| w_f b213 d213_2 rfl rfl rfl <| w_f b213 d213_3 rfl rfl rfl <| w_cc b213 d213_4 rfl (pcl_v (n := 3) rfl rfl rfl (by decide +kernel) (sh_isOb hs (tlt 0 rfl) tbC_0) rfl rfl) rfl <| c76 hs hx1 ⟨by decide, by decide⟩ ⟨by decide, by decide⟩ (fun c1 => w_f b213 d213_7 rfl rfl rfl <| w_gr b213 d213_8 rfl rfl hs (tlt 0 rfl) tbC_0 rfl (by decide) <| w_f b213 d213_11 rfl rfl rfl <| w_bal b213 d213_12 rfl hs (tlt 134 rfl) tbC_134 (by decide) (bdix (n := 2) (h.1 c1).1 rfl) (h.1 c1).1 <| w_ifne b213 d213_13 rfl rfl (by decide +kernel) (bd_gI _ _ _) (fun c2 => w_f b213 d213_18 rfl rfl rfl <| w_gr b213 d213_19 rfl rfl hs (tlt 0 rfl) tbC_0 rfl (bxr0 (bxc 1 rfl)) <| w_f b213 d213_22 rfl rfl rfl <| w_gr b213 d213_23 rfl rfl hs (tlt 0 rfl) tbC_0 rfl (by decide) <| w_f b213 d213_26 rfl rfl rfl <| w_qal b213 d213_27 rfl hs (tlt 133 rfl) tbC_133 (bdix (n := 2) ((h.1 c1).2.1 c2).1 rfl) ((h.1 c1).2.1 c2).1.1 (qlS ((h.1 c1).2.1 c2).1) <| w_c b213 d213_28 rfl (pcl_v (n := 1) rfl rfl rfl (by decide +kernel) (sh_isOb hs (bx00 (bxc 1 rfl)) (tb0 (bxc 1 rfl))) rfl rfl) rfl _ (hK_V fun w3 hkw3 => w_f b213 d213_31 rfl rfl rfl <| w_gr b213 d213_32 rfl rfl hkw3.1 (tlt 0 rfl) tbC_0 rfl (by decide) <| w_c b213 d213_35 rfl (pcl_v (n := 0) rfl rfl rfl (by decide +kernel) (sh_isOb hkw3.1 (tlt 27 rfl) tbC_27) rfl rfl) rfl _ (hK_V fun w5 hkw5 => w_f b213 d213_38 rfl rfl rfl <| w_gr b213 d213_39 rfl rfl hkw5.1 (tlt 0 rfl) tbC_0 rfl (bxr0 (bxc 1 rfl)) <| w_c b213 d213_42 rfl (pcl_v (n := 0) rfl rfl rfl (by decide +kernel) (sh_isOb hkw5.1 (bx00 (bxc 1 rfl)) (tb0 (bxc 1 rfl))) rfl rfl) rfl _ (hK_I fun u8 w7 hbu8 hkw7 => w_ri b213 d213_45 r213 hkw7.2) hkw5.2) hkw3.2) ((h.1 c1).2.1 c2).2) (fun c2 => w_f b213 d213_16 rfl rfl rfl <| w_ri b213 d213_17 r213 ((h.1 c1).2.2 c2))) (fun c1 => h.2 c1)
theorem e213 {w : PW} {Q : PO → PW → Prop} {x1 : Int} (hs : Sh w) (hx1 : bd x1) (h : ((0 ≤ x1 ∧ x1 ≤ 1) → (0 ≤ x1 ∧ x1 < 2) ∧ ((gI w 134 x1.toNat) ≠ 0 → (0 ≤ x1 ∧ x1 < 2) ∧ pC 37 [.ref 1, .ref (143 + 13 * x1.toNat)] w (kV fun w3 => Sh w3 ∧ pC 38 [.ref 27] w3 (kV fun w5 => Sh w5 ∧ pC 59 [.ref 1] w5 (kI fun u8 w7 => Sh w7 ∧ Q (.inl (some (iv u8))) w7)))) ∧ ((gI w 134 x1.toNat) = 0 → Q (.inl (some (iv ((-1))))) w)) ∧ (¬ (0 ≤ x1 ∧ x1 ≤ 1) → Q (.inr 1) w)) : pC 213 [.ref 0, iv x1] w Q :=
  (pC_in (Nat.le_of_ble_eq_true rfl) rfl Q).mpr (v213_0 hs hx1 h)
def gLay (m : Row) (u : Nat) (ch : Nat → Int) (s : Nat) : Nat → Int
  | 0 => 0
  | n + 1 => if sLaid m u ch (ordR m u) ((m 1).toNat * n + u) s = true then iOr (gLay m u ch s n) (iShl 1 n) else gLay m u ch s n
theorem gLay_bits (m : Row) (u : Nat) (ch : Nat → Int) (s : Nat) : ∀ n, n ≤ 32 → bd (gLay m u ch s n) ∧ ∀ t, t < 32 → tI (gLay m u ch s n) t = (decide (t < n) && sLaid m u ch (ordR m u) ((m 1).toNat * t + u) s) := by
  intro n
  induction n with
  | zero => intro _; exact ⟨bd0, fun t ht => by rw [show gLay m u ch s 0 = 0 from rfl, tI_0, decide_eq_false (Nat.not_lt_zero t), Bool.false_and]⟩
  | succ n ih =>
    intro hn
    obtain ⟨h1, h2⟩ := ih (by omega)
    by_cases q : sLaid m u ch (ordR m u) ((m 1).toNat * n + u) s = true
    · have e : gLay m u ch s (n + 1) = iOr (gLay m u ch s n) (iShl 1 n) := if_pos q
      rw [e]
      refine ⟨bd_toInt _, fun t ht => ?_⟩
      rw [tI_or, h2 t ht, tI_bit ⟨by omega, by omega⟩ ht, Int.toNat_natCast]
      by_cases q2 : t = n
      · rw [decide_eq_true q2, Bool.or_true, q2, q, decide_eq_true (Nat.lt_succ_self n)]; rfl
      · rw [decide_eq_false q2, Bool.or_false, show decide (t < n + 1) = decide (t < n) from decide_eq_decide.mpr ⟨fun z => by omega, fun z => by omega⟩]
    · have e : gLay m u ch s (n + 1) = gLay m u ch s n := if_neg q
      rw [e]
      refine ⟨h1, fun t ht => ?_⟩
      rw [h2 t ht]
      by_cases q2 : t = n
      · rw [q2, Bool.eq_false_iff.mpr q, Bool.and_false, Bool.and_false]
      · rw [show decide (t < n + 1) = decide (t < n) from decide_eq_decide.mpr ⟨fun z => by omega, fun z => by omega⟩]
def gLayS (m : Row) (u : Nat) (ch : Nat → Int) (s : Nat) : Int := gLay m u ch s (m 4).toNat
theorem gLayS_ok {m : Row} (hR : RowOK m) (u : Nat) (ch : Nat → Int) : sLayG m u ch (gLayS m u ch) := by
  intro s hs
  have h4 := hR.t
  obtain ⟨h1, h2⟩ := gLay_bits m u ch s (m 4).toNat (by omega)
  refine ⟨h1, fun t ht => ?_⟩
  have := h2 t ht
  rw [show decide (t < (m 4).toNat) = decide ((t : Int) < m 4) from decide_eq_decide.mpr ⟨fun z => by omega, fun z => by omega⟩] at this
  exact this
theorem skf_cells {w w2 : PW} {m : Row} {u : Nat} {r : Int × SS} (h : SkF w m u r) (hk : ∀ c, 139 ≤ c → c ≤ 142 → w2.2.2 c = w.2.2 c) : SkF w2 m u r := by
  obtain ⟨f0, f1, f2, f3, f4⟩ := h
  have v9 : ∀ k, gI w2 139 k = gI w 139 k := fun k => gI_cell (hk 139 (by omega) (by omega)) k
  have v0 : ∀ k, gI w2 140 k = gI w 140 k := fun k => gI_cell (hk 140 (by omega) (by omega)) k
  have v1 : ∀ k, gI w2 141 k = gI w 141 k := fun k => gI_cell (hk 141 (by omega) (by omega)) k
  have v2 : ∀ k, gL w2 142 k = gL w 142 k := fun k => gL_cell (hk 142 (by omega) (by omega)) k
  refine ⟨by rw [v9]; exact f0, fun q => by rw [v9]; exact f1 q, by rw [v9]; exact f2, fun i hi => by rw [v0]; exact f3 i hi, fun q => ?_⟩
  obtain ⟨g1, g2, g3⟩ := f4 q
  exact ⟨fun i hi => by rw [v1]; exact g1 i hi, fun j s hj hs => by rw [v2]; exact g2 j s hj hs, g3⟩
def rLay (m : Row) (u : Nat) (ch : Nat → Int) : Row := rSetP m u (gLayS m u ch)
def sa181 (m : Row) (x : Int) : AR := aU m x (aQ ((sSeek m x (-1)).1 ≠ -2) (aQ ((sSeek m x (-1)).1 = 1) (rI (sPins (rLay m x.toNat (sSeek m x (-1)).2.2.2) x.toNat), some (rLay m x.toNat (sSeek m x (-1)).2.2.2)) (rI (-3), none)) (rI (-2), none))
theorem c181 {w : PW} {Q : PO → PW → Prop} {H : Nat → Row} {n : Nat} {m : Row} {x1 : Int} (hs : Sh w) (hB : BR w 1 m) (hH : HR w H n) (hx1 : bd x1) (h : ∀ w2, AO w H n m (sa181 m x1).2 w2 → Q (sa181 m x1).1 w2) : pC 181 [.ref 0, iv x1] w Q := by
  have no := AO.no hs hB hH
  have h1 := hB.ok.u
  refine e181 hs hx1 ?_
  rw [hB.u]
  refine ⟨⟨by omega, by omega⟩, fun q1 => ?_, fun q1 => ap_f h q1 w no⟩
  have h2 := ap_t h q1
  obtain ⟨u, rfl⟩ := nat_of q1.1
  rw [Int.toNat_natCast] at h2
  refine c124 hs hB q1.2 ⟨by decide, by decide⟩ (fun w2 s2 F2 K2 => ⟨s2, ?_⟩)
  rw [K2.1]
  have hAF : ∀ w3 : PW, (∀ c, ¬ (1 ≤ c ∧ c < 133) → w3.2.2 c = w2.2.2 c) → AF w w3 := fun w3 k3 c hc hc2 => by rw [k3 c hc, F2 c hc2]
  have hB2 : BR w2 1 m := F2.br hB
  have hH2 : HR w2 H n := hH.cells (fun c hc => F2 c (by omega))
  have no2 : AO w H n m none w2 := ⟨s2, hAF w2 (fun _ _ => rfl), hB2, hH2⟩
  refine ⟨fun q2 => ⟨fun q3 => ?_, fun q3 => aq_f (aq_t h2 q2) q3 w2 no2⟩, fun q2 => aq_f h2 (fun z => z q2) w2 no2⟩
  refine c164 s2 hB2 hH2 (fun w3 s3 H3 k3 => ⟨s3, ?_⟩)
  have hB3 : BR w3 1 m := hB2.cells (fun k hk => k3 _ (by omega) (by omega))
  have K3 := skf_cells K2 (fun c q4 q5 => k3 c (by omega) (by omega))
  refine c180 s3 hB3 q1.2 K3 q3 (gLayS_ok hB.ok u _) (fun w4 s4 b4 k4 => ⟨s4, ?_⟩)
  have em1 : rSetP m u (gLayS m u (sSeek m u (-1)).2.2.2) 1 = m 1 := rSetP_lo (by decide)
  have hp := sPins_bd b4.ok u
  refine c58 s4 b4 (by rw [em1]; exact q1.2) (kI_iv ⟨by omega, by omega⟩ ⟨s4, ?_⟩)
  exact aq_t (aq_t h2 q2) q3 w4 ⟨s4, hAF w4 (fun c hc => by rw [k4 c (by omega), k3 c (by omega) (by omega)]), b4, H3.cells (fun c hc => k4 c (by omega))⟩
theorem c56 {w : PW} {Q : PO → PW → Prop} {H : Nat → Row} {n : Nat} {m : Row} (hs : Sh w) (hB : BR w 1 m) (hH : HR w H n) (h0 : n = 0 → Q (rI (-1)) w) (h1 : ∀ y, n = y + 1 → ∀ w2, Sh w2 → AF w w2 → BR w2 1 (H y) → HR w2 H y → Q (rI (y : Nat)) w2) : pC 56 [.ref 0] w Q := by
  refine e56 hs ?_
  rw [hH.1]
  refine ⟨fun q => ?_, fun q => h0 (by omega)⟩
  obtain ⟨y, rfl⟩ : ∃ y, n = y + 1 := ⟨n - 1, by omega⟩
  refine c55 hs hH (fun w2 s2 b2 H2 k2 => ⟨s2, ?_⟩)
  rw [H2.1]
  exact h1 y rfl w2 s2 (fun c hc hc2 => k2 c (by omega) (by omega)) b2 H2
theorem c211 {w : PW} {Q : PO → PW → Prop} {m : Row} {x1 : Int} (hs : Sh w) (hB : BR w 1 m) (hx1 : bd x1) (h0 : ¬ (0 ≤ x1 ∧ x1 ≤ 1) → Q (.inr 1) w) (h1 : (0 ≤ x1 ∧ x1 ≤ 1) → ∀ w2, Sh w2 → BR w2 (143 + 13 * x1.toNat) m → (∀ j, gI w2 134 j = if j = x1.toNat then 1 else gI w 134 j) → (∀ c, ¬ (143 + 13 * x1.toNat ≤ c ∧ c < 156 + 13 * x1.toNat) → c ≠ 134 → w2.2.2 c = w.2.2 c) → Q (rI (sAll m)) w2) : pC 211 [.ref 0, iv x1] w Q := by
  refine e211 hs hx1 ⟨fun q => ⟨⟨by omega, by omega⟩, ?_⟩, h0⟩
  have hbx : bx (143 + 13 * x1.toNat) := bxS ⟨by omega, by omega⟩
  refine c37 hs hbx hB (by omega) (fun w2 s2 b2 k2 => ⟨s2, ⟨by omega, by omega⟩, fun w3 e3 => ?_⟩)
  obtain ⟨s3, g3, -, k3⟩ := stI e3 s2 (by omega) (slt_a tbC_134) ⟨by decide, by decide⟩
  have hB3 : BR w3 1 m := hB.cells (fun k hk => by rw [k3 _ (by omega), k2 _ (by omega)])
  have hp := sAll_bd hB.ok
  refine c59 s3 hB3 (kI_iv ⟨by omega, by omega⟩ ⟨s3, ?_⟩)
  refine h1 q w3 s3 (b2.cells (fun k hk => k3 _ (by omega))) (fun j => ?_) (fun c hc hc2 => by rw [k3 c hc2, k2 c (by omega)])
  rw [g3]
  by_cases q2 : j = x1.toNat
  · rw [if_pos ⟨rfl, q2⟩, if_pos q2]
  · rw [if_neg (fun z => q2 z.2), if_neg q2, gI_cell (k2 134 (by omega))]
theorem c213 {w : PW} {Q : PO → PW → Prop} {H : Nat → Row} {n : Nat} {m m2 : Row} {x1 : Int} (hs : Sh w) (hH : HR w H n) (hx1 : bd x1) (hS : 0 ≤ x1 ∧ x1 ≤ 1 → gI w 134 x1.toNat ≠ 0 → BR w (143 + 13 * x1.toNat) m2) (h0 : ¬ (0 ≤ x1 ∧ x1 ≤ 1) → Q (.inr 1) w) (h2 : (0 ≤ x1 ∧ x1 ≤ 1) → gI w 134 x1.toNat = 0 → Q (rI (-1)) w) (h1 : (0 ≤ x1 ∧ x1 ≤ 1) → gI w 134 x1.toNat ≠ 0 → ∀ w2, Sh w2 → AF w w2 → BR w2 1 m2 → (∀ G, HR w2 G 0) → Q (rI (sAll m2)) w2) : pC 213 [.ref 0, iv x1] w Q := by
  refine e213 hs hx1 ⟨fun q => ⟨⟨by omega, by omega⟩, fun q2 => ⟨⟨by omega, by omega⟩, ?_⟩, h2 q⟩, h0⟩
  have hC := hS q q2
  refine c37 hs bx1 hC (by omega) (fun w2 s2 b2 k2 => ⟨s2, ?_⟩)
  have hH2 : HR w2 H n := hH.cells (fun c hc => k2 c (by omega))
  refine c38 s2 hH2 (fun w3 s3 H3 k3 => ⟨s3, ?_⟩)
  have b3 : BR w3 1 m2 := b2.cells (fun k hk => k3 _ (by omega))
  have hp := sAll_bd b3.ok
  exact c59 s3 b3 (kI_iv ⟨by omega, by omega⟩ ⟨s3, h1 q q2 w3 s3 (fun c hc hc2 => by rw [k3 c (by omega), k2 c (by omega)]) b3 H3⟩)

