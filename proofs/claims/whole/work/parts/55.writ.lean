/-! THE CLASS's FACE: texts written -/
/-! 207: PinBarrel.writeTooth(II)I -/
theorem b207 : mB 207 = cX8_writeTooth := rfl
theorem r207 : mR 207 = (some .int) := rfl
theorem d207_0 : decode cX8_writeTooth 0 = .ok (.aload_n 0, 1) := by decide +kernel
theorem d207_1 : decode cX8_writeTooth 1 = .ok (.iload_n 1, 1) := by decide +kernel
theorem d207_2 : decode cX8_writeTooth 2 = .ok (.invokevirtual 189, 3) := by decide +kernel
theorem d207_5 : decode cX8_writeTooth 5 = .ok (.aload_n 0, 1) := by decide +kernel
theorem d207_6 : decode cX8_writeTooth 6 = .ok (.iload_n 2, 1) := by decide +kernel
theorem d207_7 : decode cX8_writeTooth 7 = .ok (.invokevirtual 147, 3) := by decide +kernel
theorem d207_10 : decode cX8_writeTooth 10 = .ok (.aload_n 0, 1) := by decide +kernel
theorem d207_11 : decode cX8_writeTooth 11 = .ok (.getfield 44, 3) := by decide +kernel
theorem d207_14 : decode cX8_writeTooth 14 = .ok (.iconst 0, 1) := by decide +kernel
theorem d207_15 : decode cX8_writeTooth 15 = .ok (.putfield 363, 3) := by decide +kernel
theorem d207_18 : decode cX8_writeTooth 18 = .ok (.aload_n 0, 1) := by decide +kernel
theorem d207_19 : decode cX8_writeTooth 19 = .ok (.getfield 44, 3) := by decide +kernel
theorem d207_22 : decode cX8_writeTooth 22 = .ok (.aload_n 0, 1) := by decide +kernel
theorem d207_23 : decode cX8_writeTooth 23 = .ok (.getfield 12, 3) := by decide +kernel
theorem d207_26 : decode cX8_writeTooth 26 = .ok (.getfield 151, 3) := by decide +kernel
theorem d207_29 : decode cX8_writeTooth 29 = .ok (.iload_n 2, 1) := by decide +kernel
theorem d207_30 : decode cX8_writeTooth 30 = .ok (.iaload, 1) := by decide +kernel
theorem d207_31 : decode cX8_writeTooth 31 = .ok (.invokevirtual 364, 3) := by decide +kernel
theorem d207_34 : decode cX8_writeTooth 34 = .ok (.aload_n 0, 1) := by decide +kernel
theorem d207_35 : decode cX8_writeTooth 35 = .ok (.getfield 44, 3) := by decide +kernel
theorem d207_38 : decode cX8_writeTooth 38 = .ok (.bipush 58, 2) := by decide +kernel
theorem d207_40 : decode cX8_writeTooth 40 = .ok (.invokevirtual 367, 3) := by decide +kernel
theorem d207_43 : decode cX8_writeTooth 43 = .ok (.iconst 0, 1) := by decide +kernel
theorem d207_44 : decode cX8_writeTooth 44 = .ok (.istore_n 3, 1) := by decide +kernel
theorem d207_45 : decode cX8_writeTooth 45 = .ok (.iload_n 3, 1) := by decide +kernel
theorem d207_46 : decode cX8_writeTooth 46 = .ok (.aload_n 0, 1) := by decide +kernel
theorem d207_47 : decode cX8_writeTooth 47 = .ok (.getfield 12, 3) := by decide +kernel
theorem d207_50 : decode cX8_writeTooth 50 = .ok (.getfield 96, 3) := by decide +kernel
theorem d207_53 : decode cX8_writeTooth 53 = .ok (.if_icmp .ge 36, 3) := by decide +kernel
theorem d207_56 : decode cX8_writeTooth 56 = .ok (.aload_n 0, 1) := by decide +kernel
theorem d207_57 : decode cX8_writeTooth 57 = .ok (.getfield 44, 3) := by decide +kernel
theorem d207_60 : decode cX8_writeTooth 60 = .ok (.aload_n 0, 1) := by decide +kernel
theorem d207_61 : decode cX8_writeTooth 61 = .ok (.getfield 12, 3) := by decide +kernel
theorem d207_64 : decode cX8_writeTooth 64 = .ok (.iload_n 1, 1) := by decide +kernel
theorem d207_65 : decode cX8_writeTooth 65 = .ok (.iload_n 3, 1) := by decide +kernel
theorem d207_66 : decode cX8_writeTooth 66 = .ok (.iload_n 2, 1) := by decide +kernel
theorem d207_67 : decode cX8_writeTooth 67 = .ok (.invokevirtual 195, 3) := by decide +kernel
theorem d207_70 : decode cX8_writeTooth 70 = .ok (.ifCond .eq 8, 3) := by decide +kernel
theorem d207_73 : decode cX8_writeTooth 73 = .ok (.bipush 111, 2) := by decide +kernel
theorem d207_75 : decode cX8_writeTooth 75 = .ok (.goto 5, 3) := by decide +kernel
theorem d207_78 : decode cX8_writeTooth 78 = .ok (.bipush 46, 2) := by decide +kernel
theorem d207_80 : decode cX8_writeTooth 80 = .ok (.invokevirtual 367, 3) := by decide +kernel
theorem d207_83 : decode cX8_writeTooth 83 = .ok (.iinc 3 1, 3) := by decide +kernel
theorem d207_86 : decode cX8_writeTooth 86 = .ok (.goto (-41), 3) := by decide +kernel
theorem d207_89 : decode cX8_writeTooth 89 = .ok (.aload_n 0, 1) := by decide +kernel
theorem d207_90 : decode cX8_writeTooth 90 = .ok (.getfield 44, 3) := by decide +kernel
theorem d207_93 : decode cX8_writeTooth 93 = .ok (.getfield 363, 3) := by decide +kernel
theorem d207_96 : decode cX8_writeTooth 96 = .ok (.ireturn, 1) := by decide +kernel
theorem v207_0 {w : PW} {Q : PO → PW → Prop} {x1 : Int} {x2 : Int} (hs : Sh w) (hx1 : bd x1) (hx2 : bd x2) (h : (bd ((gI w 1 1) - 1)) ∧ ((0 ≤ x1 ∧ x1 < gI w 1 1) → ((0 ≤ x2 ∧ x2 < gI w 1 4) → ∀ w3 : PW, w3 = sI w 137 1 0 → (0 ≤ x2 ∧ x2 < 12) ∧ pC 206 [.ref 137, iv (gI w3 (1 + 1) x2.toNat)] w3 (kV fun w4 => Sh w4 ∧ pC 205 [.ref 137, iv 58] w4 (kV fun w6 => Sh w6 ∧ pX 207 45 [some (.ref 0), some (iv x1), some (iv x2), some (iv 0)] [] w6 Q))) ∧ (¬ (0 ≤ x2 ∧ x2 < gI w 1 4) → Q (.inr 2) w)) ∧ (¬ (0 ≤ x1 ∧ x1 < gI w 1 1) → Q (.inr 1) w)) : pX 207 0 [some (.ref 0), some (iv x1), some (iv x2), none] [] w Q :=
  w_f b207 d207_0 rfl rfl rfl <| w_f b207 d207_1 rfl rfl rfl <| w_cc b207 d207_2 rfl (pcl_v (n := 1) rfl rfl rfl (by decide +kernel) (sh_isOb hs (tlt 0 rfl) tbC_0) rfl rfl) rfl <| c77 hs hx1 h.1 (fun c1 => w_f b207 d207_5 rfl rfl rfl <| w_f b207 d207_6 rfl rfl rfl <| w_cc b207 d207_7 rfl (pcl_v (n := 1) rfl rfl rfl (by decide +kernel) (sh_isOb hs (tlt 0 rfl) tbC_0) rfl rfl) rfl <| c67 hs hx2 (fun c2 => w_f b207 d207_10 rfl rfl rfl <| w_gr b207 d207_11 rfl rfl hs (tlt 0 rfl) tbC_0 rfl (by decide) <| w_f b207 d207_14 rfl rfl rfl <| w_pi b207 d207_15 rfl rfl hs (tlt 137 rfl) tbC_137 rfl rfl rfl <| w_f b207 d207_18 rfl rfl rfl <| w_gr b207 d207_19 rfl rfl (Sh_sI hs (slt_o tbC_137 rfl)) (tlt 0 rfl) tbC_0 rfl (by decide) <| w_f b207 d207_22 rfl rfl rfl <| w_gr b207 d207_23 rfl rfl (Sh_sI hs (slt_o tbC_137 rfl)) (tlt 0 rfl) tbC_0 rfl (bxr0 (bxc 1 rfl)) <| w_gr b207 d207_26 rfl rfl (Sh_sI hs (slt_o tbC_137 rfl)) (bx00 (bxc 1 rfl)) (tb0 (bxc 1 rfl)) rfl (bxr (bxc 1 rfl) 1 rfl) <| w_f b207 d207_29 rfl rfl rfl <| w_ial b207 d207_30 rfl (Sh_sI hs (slt_o tbC_137 rfl)) (bxk (bxc 1 rfl) 1 rfl) (tb1 (bxc 1 rfl)) (bdix (n := 12) (((h.2.1 c1).1 c2) _ rfl).1 rfl) (((h.2.1 c1).1 c2) _ rfl).1 <| w_c b207 d207_31 rfl (pcl_v (n := 1) rfl rfl rfl (by decide +kernel) (sh_isOb (Sh_sI hs (slt_o tbC_137 rfl)) (tlt 137 rfl) tbC_137) rfl rfl) rfl _ (hK_V fun w4 hkw4 => w_f b207 d207_34 rfl rfl rfl <| w_gr b207 d207_35 rfl rfl hkw4.1 (tlt 0 rfl) tbC_0 rfl (by decide) <| w_f b207 d207_38 rfl rfl rfl <| w_c b207 d207_40 rfl (pcl_v (n := 1) rfl rfl rfl (by decide +kernel) (sh_isOb hkw4.1 (tlt 137 rfl) tbC_137) rfl rfl) rfl _ (hK_V fun w6 hkw6 => w_f b207 d207_43 rfl rfl rfl <| w_f b207 d207_44 rfl rfl rfl <| hkw6.2) hkw4.2) (((h.2.1 c1).1 c2) _ rfl).2) (fun c2 => (h.2.1 c1).2 c2)) (fun c1 => h.2.2 c1)
theorem e207 {w : PW} {Q : PO → PW → Prop} {x1 : Int} {x2 : Int} (hs : Sh w) (hx1 : bd x1) (hx2 : bd x2) (h : (bd ((gI w 1 1) - 1)) ∧ ((0 ≤ x1 ∧ x1 < gI w 1 1) → ((0 ≤ x2 ∧ x2 < gI w 1 4) → ∀ w3 : PW, w3 = sI w 137 1 0 → (0 ≤ x2 ∧ x2 < 12) ∧ pC 206 [.ref 137, iv (gI w3 (1 + 1) x2.toNat)] w3 (kV fun w4 => Sh w4 ∧ pC 205 [.ref 137, iv 58] w4 (kV fun w6 => Sh w6 ∧ pX 207 45 [some (.ref 0), some (iv x1), some (iv x2), some (iv 0)] [] w6 Q))) ∧ (¬ (0 ≤ x2 ∧ x2 < gI w 1 4) → Q (.inr 2) w)) ∧ (¬ (0 ≤ x1 ∧ x1 < gI w 1 1) → Q (.inr 1) w)) : pC 207 [.ref 0, iv x1, iv x2] w Q :=
  (pC_in (Nat.le_of_ble_eq_true rfl) rfl Q).mpr (v207_0 hs hx1 hx2 h)
theorem v207_45 {w : PW} {Q : PO → PW → Prop} {x1 : Int} {x2 : Int} {x3 : Int} (hs : Sh w) (hx1 : bd x1) (hx2 : bd x2) (hx3 : bd x3) (h : ((gI w 1 0) ≤ x3 → Q (.inl (some (iv (gI w 137 1)))) w) ∧ (x3 < (gI w 1 0) → (bd ((gI w 1 1) * x2 + x1)) ∧ (0 ≤ x3 ∧ x3 < 64) ∧ ((¬ (tL (lP w 1 ((gI w 1 1) * x2 + x1)) (x3).toNat = true)) → pC 205 [.ref 137, iv 46] w (kV fun w3 => Sh w3 ∧ pX 207 45 [some (.ref 0), some (iv x1), some (iv x2), some (iv (x3 + 1))] [] w3 Q)) ∧ ((tL (lP w 1 ((gI w 1 1) * x2 + x1)) (x3).toNat = true) → pC 205 [.ref 137, iv 111] w (kV fun w5 => Sh w5 ∧ pX 207 45 [some (.ref 0), some (iv x1), some (iv x2), some (iv (x3 + 1))] [] w5 Q)))) : pX 207 45 [some (.ref 0), some (iv x1), some (iv x2), some (iv x3)] [] w Q :=
  w_f b207 d207_45 rfl rfl rfl <| w_f b207 d207_46 rfl rfl rfl <| w_gr b207 d207_47 rfl rfl hs (tlt 0 rfl) tbC_0 rfl (bxr0 (bxc 1 rfl)) <| w_gi b207 d207_50 rfl rfl hs (bx00 (bxc 1 rfl)) (tb0 (bxc 1 rfl)) rfl <| w_icge b207 d207_53 rfl rfl (by decide +kernel) hx3 (bd_gI _ _ _) (fun c1 => w_f b207 d207_89 rfl rfl rfl <| w_gr b207 d207_90 rfl rfl hs (tlt 0 rfl) tbC_0 rfl (by decide) <| w_gi b207 d207_93 rfl rfl hs (tlt 137 rfl) tbC_137 rfl <| w_ri b207 d207_96 r207 (h.1 c1)) (fun c1 => w_f b207 d207_56 rfl rfl rfl <| w_gr b207 d207_57 rfl rfl hs (tlt 0 rfl) tbC_0 rfl (by decide) <| w_f b207 d207_60 rfl rfl rfl <| w_gr b207 d207_61 rfl rfl hs (tlt 0 rfl) tbC_0 rfl (bxr0 (bxc 1 rfl)) <| w_f b207 d207_64 rfl rfl rfl <| w_f b207 d207_65 rfl rfl rfl <| w_f b207 d207_66 rfl rfl rfl <| w_cc b207 d207_67 rfl (pcl_v (n := 3) rfl rfl rfl (by decide +kernel) (sh_isOb hs (bx00 (bxc 1 rfl)) (tb0 (bxc 1 rfl))) rfl rfl) rfl <| c43 hs (bxc 1 rfl) hx1 hx3 hx2 (h.2 c1).1 (h.2 c1).2.1 <| w_ifeqZ b207 d207_70 rfl rfl (by decide +kernel) (fun c2 => w_f b207 d207_78 rfl rfl rfl <| w_c b207 d207_80 rfl (pcl_v (n := 1) rfl rfl rfl (by decide +kernel) (sh_isOb hs (tlt 137 rfl) tbC_137) rfl rfl) rfl _ (hK_V fun w3 hkw3 => w_f b207 d207_83 rfl (pf_iinc rfl rfl) rfl <| w_j b207 d207_86 rfl (by decide +kernel) <| hkw3.2) ((h.2 c1).2.2.1 c2)) (fun c2 => w_f b207 d207_73 rfl rfl rfl <| w_j b207 d207_75 rfl (by decide +kernel) <| w_c b207 d207_80 rfl (pcl_v (n := 1) rfl rfl rfl (by decide +kernel) (sh_isOb hs (tlt 137 rfl) tbC_137) rfl rfl) rfl _ (hK_V fun w5 hkw5 => w_f b207 d207_83 rfl (pf_iinc rfl rfl) rfl <| w_j b207 d207_86 rfl (by decide +kernel) <| hkw5.2) ((h.2 c1).2.2.2 c2)))
/-! 209: PinBarrel.writeStep(II)I -/
theorem b209 : mB 209 = cX8_writeStep := rfl
theorem r209 : mR 209 = (some .int) := rfl
theorem d209_0 : decode cX8_writeStep 0 = .ok (.aload_n 0, 1) := by decide +kernel
theorem d209_1 : decode cX8_writeStep 1 = .ok (.iload_n 1, 1) := by decide +kernel
theorem d209_2 : decode cX8_writeStep 2 = .ok (.invokevirtual 189, 3) := by decide +kernel
theorem d209_5 : decode cX8_writeStep 5 = .ok (.aload_n 0, 1) := by decide +kernel
theorem d209_6 : decode cX8_writeStep 6 = .ok (.iload_n 2, 1) := by decide +kernel
theorem d209_7 : decode cX8_writeStep 7 = .ok (.invokevirtual 192, 3) := by decide +kernel
theorem d209_10 : decode cX8_writeStep 10 = .ok (.aload_n 0, 1) := by decide +kernel
theorem d209_11 : decode cX8_writeStep 11 = .ok (.getfield 44, 3) := by decide +kernel
theorem d209_14 : decode cX8_writeStep 14 = .ok (.iconst 0, 1) := by decide +kernel
theorem d209_15 : decode cX8_writeStep 15 = .ok (.putfield 363, 3) := by decide +kernel
theorem d209_18 : decode cX8_writeStep 18 = .ok (.iconst 0, 1) := by decide +kernel
theorem d209_19 : decode cX8_writeStep 19 = .ok (.istore_n 3, 1) := by decide +kernel
theorem d209_20 : decode cX8_writeStep 20 = .ok (.iload_n 3, 1) := by decide +kernel
theorem d209_21 : decode cX8_writeStep 21 = .ok (.bipush 24, 2) := by decide +kernel
theorem d209_23 : decode cX8_writeStep 23 = .ok (.if_icmp .ge 65, 3) := by decide +kernel
theorem d209_26 : decode cX8_writeStep 26 = .ok (.aload_n 0, 1) := by decide +kernel
theorem d209_27 : decode cX8_writeStep 27 = .ok (.getfield 12, 3) := by decide +kernel
theorem d209_30 : decode cX8_writeStep 30 = .ok (.iload_n 1, 1) := by decide +kernel
theorem d209_31 : decode cX8_writeStep 31 = .ok (.iload_n 3, 1) := by decide +kernel
theorem d209_32 : decode cX8_writeStep 32 = .ok (.iload_n 2, 1) := by decide +kernel
theorem d209_33 : decode cX8_writeStep 33 = .ok (.iconst 1, 1) := by decide +kernel
theorem d209_34 : decode cX8_writeStep 34 = .ok (.invokevirtual 297, 3) := by decide +kernel
theorem d209_37 : decode cX8_writeStep 37 = .ok (.istore 4, 2) := by decide +kernel
theorem d209_39 : decode cX8_writeStep 39 = .ok (.iconst 0, 1) := by decide +kernel
theorem d209_40 : decode cX8_writeStep 40 = .ok (.istore 5, 2) := by decide +kernel
theorem d209_42 : decode cX8_writeStep 42 = .ok (.iload 5, 2) := by decide +kernel
theorem d209_44 : decode cX8_writeStep 44 = .ok (.iload 4, 2) := by decide +kernel
theorem d209_46 : decode cX8_writeStep 46 = .ok (.if_icmp .ge 36, 3) := by decide +kernel
theorem d209_49 : decode cX8_writeStep 49 = .ok (.aload_n 0, 1) := by decide +kernel
theorem d209_50 : decode cX8_writeStep 50 = .ok (.getfield 44, 3) := by decide +kernel
theorem d209_53 : decode cX8_writeStep 53 = .ok (.getfield 363, 3) := by decide +kernel
theorem d209_56 : decode cX8_writeStep 56 = .ok (.ifCond .le 12, 3) := by decide +kernel
theorem d209_59 : decode cX8_writeStep 59 = .ok (.aload_n 0, 1) := by decide +kernel
theorem d209_60 : decode cX8_writeStep 60 = .ok (.getfield 44, 3) := by decide +kernel
theorem d209_63 : decode cX8_writeStep 63 = .ok (.bipush 43, 2) := by decide +kernel
theorem d209_65 : decode cX8_writeStep 65 = .ok (.invokevirtual 367, 3) := by decide +kernel
theorem d209_68 : decode cX8_writeStep 68 = .ok (.aload_n 0, 1) := by decide +kernel
theorem d209_69 : decode cX8_writeStep 69 = .ok (.getfield 44, 3) := by decide +kernel
theorem d209_72 : decode cX8_writeStep 72 = .ok (.iload_n 3, 1) := by decide +kernel
theorem d209_73 : decode cX8_writeStep 73 = .ok (.invokevirtual 364, 3) := by decide +kernel
theorem d209_76 : decode cX8_writeStep 76 = .ok (.iinc 5 1, 3) := by decide +kernel
theorem d209_79 : decode cX8_writeStep 79 = .ok (.goto (-37), 3) := by decide +kernel
theorem d209_82 : decode cX8_writeStep 82 = .ok (.iinc 3 1, 3) := by decide +kernel
theorem d209_85 : decode cX8_writeStep 85 = .ok (.goto (-65), 3) := by decide +kernel
theorem d209_88 : decode cX8_writeStep 88 = .ok (.aload_n 0, 1) := by decide +kernel
theorem d209_89 : decode cX8_writeStep 89 = .ok (.getfield 44, 3) := by decide +kernel
theorem d209_92 : decode cX8_writeStep 92 = .ok (.getfield 363, 3) := by decide +kernel
theorem d209_95 : decode cX8_writeStep 95 = .ok (.ireturn, 1) := by decide +kernel
theorem v209_0 {w : PW} {Q : PO → PW → Prop} {x1 : Int} {x2 : Int} (hs : Sh w) (hx1 : bd x1) (hx2 : bd x2) (h : (bd ((gI w 1 1) - 1)) ∧ ((0 ≤ x1 ∧ x1 < gI w 1 1) → (bd ((gI w 1 0) - 1)) ∧ ((0 ≤ x2 ∧ x2 < gI w 1 0) → ∀ w3 : PW, w3 = sI w 137 1 0 → pX 209 20 [some (.ref 0), some (iv x1), some (iv x2), some (iv 0), none, none] [] w3 Q) ∧ (¬ (0 ≤ x2 ∧ x2 < gI w 1 0) → Q (.inr 1) w)) ∧ (¬ (0 ≤ x1 ∧ x1 < gI w 1 1) → Q (.inr 1) w)) : pX 209 0 [some (.ref 0), some (iv x1), some (iv x2), none, none, none] [] w Q :=
  w_f b209 d209_0 rfl rfl rfl <| w_f b209 d209_1 rfl rfl rfl <| w_cc b209 d209_2 rfl (pcl_v (n := 1) rfl rfl rfl (by decide +kernel) (sh_isOb hs (tlt 0 rfl) tbC_0) rfl rfl) rfl <| c77 hs hx1 h.1 (fun c1 => w_f b209 d209_5 rfl rfl rfl <| w_f b209 d209_6 rfl rfl rfl <| w_cc b209 d209_7 rfl (pcl_v (n := 1) rfl rfl rfl (by decide +kernel) (sh_isOb hs (tlt 0 rfl) tbC_0) rfl rfl) rfl <| c78 hs hx2 (h.2.1 c1).1 (fun c2 => w_f b209 d209_10 rfl rfl rfl <| w_gr b209 d209_11 rfl rfl hs (tlt 0 rfl) tbC_0 rfl (by decide) <| w_f b209 d209_14 rfl rfl rfl <| w_pi b209 d209_15 rfl rfl hs (tlt 137 rfl) tbC_137 rfl rfl rfl <| w_f b209 d209_18 rfl rfl rfl <| w_f b209 d209_19 rfl rfl rfl <| (((h.2.1 c1).2.1 c2) _ rfl)) (fun c2 => (h.2.1 c1).2.2 c2)) (fun c1 => h.2.2 c1)
theorem e209 {w : PW} {Q : PO → PW → Prop} {x1 : Int} {x2 : Int} (hs : Sh w) (hx1 : bd x1) (hx2 : bd x2) (h : (bd ((gI w 1 1) - 1)) ∧ ((0 ≤ x1 ∧ x1 < gI w 1 1) → (bd ((gI w 1 0) - 1)) ∧ ((0 ≤ x2 ∧ x2 < gI w 1 0) → ∀ w3 : PW, w3 = sI w 137 1 0 → pX 209 20 [some (.ref 0), some (iv x1), some (iv x2), some (iv 0), none, none] [] w3 Q) ∧ (¬ (0 ≤ x2 ∧ x2 < gI w 1 0) → Q (.inr 1) w)) ∧ (¬ (0 ≤ x1 ∧ x1 < gI w 1 1) → Q (.inr 1) w)) : pC 209 [.ref 0, iv x1, iv x2] w Q :=
  (pC_in (Nat.le_of_ble_eq_true rfl) rfl Q).mpr (v209_0 hs hx1 hx2 h)
theorem v209_20 {w : PW} {Q : PO → PW → Prop} {x1 : Int} {x2 : Int} {x3 : Int} {o4 : Option Value} {o5 : Option Value} (hs : Sh w) (hx1 : bd x1) (hx2 : bd x2) (hx3 : bd x3) (ho4 : pc2 o4 = false) (ho5 : pc2 o5 = false) (h : (24 ≤ x3 → Q (.inl (some (iv (gI w 137 1)))) w) ∧ (x3 < 24 → pC 151 [.ref 1, iv x1, iv x3, iv x2, iv 1] w (kI fun u3 w2 => Sh w2 ∧ pX 209 42 [some (.ref 0), some (iv x1), some (iv x2), some (iv x3), some (iv u3), some (iv 0)] [] w2 Q))) : pX 209 20 [some (.ref 0), some (iv x1), some (iv x2), some (iv x3), o4, o5] [] w Q :=
  w_f b209 d209_20 rfl rfl rfl <| w_f b209 d209_21 rfl rfl rfl <| w_icge b209 d209_23 rfl rfl (by decide +kernel) hx3 ⟨by decide, by decide⟩ (fun c1 => w_f b209 d209_88 rfl rfl rfl <| w_gr b209 d209_89 rfl rfl hs (tlt 0 rfl) tbC_0 rfl (by decide) <| w_gi b209 d209_92 rfl rfl hs (tlt 137 rfl) tbC_137 rfl <| w_ri b209 d209_95 r209 (h.1 c1)) (fun c1 => w_f b209 d209_26 rfl rfl rfl <| w_gr b209 d209_27 rfl rfl hs (tlt 0 rfl) tbC_0 rfl (bxr0 (bxc 1 rfl)) <| w_f b209 d209_30 rfl rfl rfl <| w_f b209 d209_31 rfl rfl rfl <| w_f b209 d209_32 rfl rfl rfl <| w_f b209 d209_33 rfl rfl rfl <| w_c b209 d209_34 rfl (pcl_v (n := 4) rfl rfl rfl (by decide +kernel) (sh_isOb hs (bx00 (bxc 1 rfl)) (tb0 (bxc 1 rfl))) rfl rfl) rfl _ (hK_I fun u3 w2 hbu3 hkw2 => w_f b209 d209_37 rfl rfl rfl <| w_f b209 d209_39 rfl rfl rfl <| w_f b209 d209_40 rfl rfl rfl <| hkw2.2) (h.2 c1))
theorem v209_42 {w : PW} {Q : PO → PW → Prop} {x1 : Int} {x2 : Int} {x3 : Int} {x4 : Int} {x5 : Int} (hs : Sh w) (hx1 : bd x1) (hx2 : bd x2) (hx3 : bd x3) (hx4 : bd x4) (hx5 : bd x5) (h : (x4 ≤ x5 → pX 209 20 [some (.ref 0), some (iv x1), some (iv x2), some (iv (x3 + 1)), some (iv x4), some (iv x5)] [] w Q) ∧ (x5 < x4 → ((gI w 137 1) ≤ 0 → pC 206 [.ref 137, iv x3] w (kV fun w3 => Sh w3 ∧ pX 209 42 [some (.ref 0), some (iv x1), some (iv x2), some (iv x3), some (iv x4), some (iv (x5 + 1))] [] w3 Q)) ∧ (0 < (gI w 137 1) → pC 205 [.ref 137, iv 43] w (kV fun w5 => Sh w5 ∧ pC 206 [.ref 137, iv x3] w5 (kV fun w7 => Sh w7 ∧ pX 209 42 [some (.ref 0), some (iv x1), some (iv x2), some (iv x3), some (iv x4), some (iv (x5 + 1))] [] w7 Q))))) : pX 209 42 [some (.ref 0), some (iv x1), some (iv x2), some (iv x3), some (iv x4), some (iv x5)] [] w Q :=
  w_f b209 d209_42 rfl rfl rfl <| w_f b209 d209_44 rfl rfl rfl <| w_icge b209 d209_46 rfl rfl (by decide +kernel) hx5 hx4 (fun c1 => w_f b209 d209_82 rfl (pf_iinc rfl rfl) rfl <| w_j b209 d209_85 rfl (by decide +kernel) <| (h.1 c1)) (fun c1 => w_f b209 d209_49 rfl rfl rfl <| w_gr b209 d209_50 rfl rfl hs (tlt 0 rfl) tbC_0 rfl (by decide) <| w_gi b209 d209_53 rfl rfl hs (tlt 137 rfl) tbC_137 rfl <| w_ifle b209 d209_56 rfl rfl (by decide +kernel) (bd_gI _ _ _) (fun c2 => w_f b209 d209_68 rfl rfl rfl <| w_gr b209 d209_69 rfl rfl hs (tlt 0 rfl) tbC_0 rfl (by decide) <| w_f b209 d209_72 rfl rfl rfl <| w_c b209 d209_73 rfl (pcl_v (n := 1) rfl rfl rfl (by decide +kernel) (sh_isOb hs (tlt 137 rfl) tbC_137) rfl rfl) rfl _ (hK_V fun w3 hkw3 => w_f b209 d209_76 rfl (pf_iinc rfl rfl) rfl <| w_j b209 d209_79 rfl (by decide +kernel) <| hkw3.2) ((h.2 c1).1 c2)) (fun c2 => w_f b209 d209_59 rfl rfl rfl <| w_gr b209 d209_60 rfl rfl hs (tlt 0 rfl) tbC_0 rfl (by decide) <| w_f b209 d209_63 rfl rfl rfl <| w_c b209 d209_65 rfl (pcl_v (n := 1) rfl rfl rfl (by decide +kernel) (sh_isOb hs (tlt 137 rfl) tbC_137) rfl rfl) rfl _ (hK_V fun w5 hkw5 => w_f b209 d209_68 rfl rfl rfl <| w_gr b209 d209_69 rfl rfl hkw5.1 (tlt 0 rfl) tbC_0 rfl (by decide) <| w_f b209 d209_72 rfl rfl rfl <| w_c b209 d209_73 rfl (pcl_v (n := 1) rfl rfl rfl (by decide +kernel) (sh_isOb hkw5.1 (tlt 137 rfl) tbC_137) rfl rfl) rfl _ (hK_V fun w7 hkw7 => w_f b209 d209_76 rfl (pf_iinc rfl rfl) rfl <| w_j b209 d209_79 rfl (by decide +kernel) <| hkw7.2) hkw5.2) ((h.2 c1).2 c2)))
/-- the writer holds a text -/
def WL (w : PW) (l : List Nat) : Prop := gI w 137 1 = (l.length : Nat) ∧ ∀ k, k < l.length → gI w 138 k = ((l.getD k 0 : Nat) : Int)
theorem WL.wr {w : PW} {l : List Nat} (h : WL w l) (h4 : l.length ≤ 400) : WR w (fun k => ((l.getD k 0 : Nat) : Int)) l.length := ⟨h.1, h4, h.2⟩
theorem gtD_l {l r : List Nat} {k : Nat} (h : k < l.length) : (l ++ r).getD k 0 = l.getD k 0 := by
  rw [List.getD_eq_getElem?_getD, List.getElem?_append_left h, ← List.getD_eq_getElem?_getD]
theorem gtD_e {l r : List Nat} {z : Nat} : (l ++ z :: r).getD l.length 0 = z := by
  rw [List.getD_eq_getElem?_getD, List.getElem?_append_right (Nat.le_refl _), Nat.sub_self]
  rfl
theorem c205L {w : PW} {Q : PO → PW → Prop} {l : List Nat} {z : Nat} (hs : Sh w) (hW : WL w l) (hn : l.length < 400) (hz : z < 256) (h : ∀ w2, Sh w2 → WL w2 (l ++ [z]) → WF w w2 → Q (.inl none) w2) : pC 205 [.ref 137, iv (z : Nat)] w Q := by
  refine c205 hs (hW.wr (by omega)) hn ⟨by omega, by omega⟩ (fun w2 s2 h2 f2 => h w2 s2 ⟨?_, fun k hk => ?_⟩ f2)
  · rw [h2.1, List.length_append]
    rfl
  · rw [List.length_append] at hk
    rw [h2.2.2 k hk]
    unfold oPut
    by_cases q : k = l.length
    · subst q
      rw [if_pos rfl, gtD_e]
    · have hk2 : k < l.length + 1 := hk
      rw [if_neg q, gtD_l (by omega)]
theorem take_s {l : List Nat} {i : Nat} (h : i < l.length) : l.take i ++ [l.getD i 0] = l.take (i + 1) := by
  rw [List.take_succ, List.getD_eq_getElem?_getD, List.getElem?_eq_getElem h]
  rfl
theorem l206_10 {w : PW} {Q : PO → PW → Prop} {p : Nat} {l : List Nat} (hs : Sh w) (hp : p < 24) (hl : l.length + 4 ≤ 400) (h : ∀ w2, Sh w2 → WL w2 (l ++ oPit p) → WF w w2 → Q (.inl none) w2) : ∀ k i : Nat, i + k = (nmL.getD (p % 12) []).length → ∀ w1, Sh w1 → WL w1 (l ++ (nmL.getD (p % 12) []).take i) → WF w w1 → pX 206 10 [some (.ref 137), some (iv (p : Nat)), some (.ref (pSB + nmC ((p % 12 : Nat) : Int))), some (iv (i : Nat))] [] w1 Q := by
  have e0 := nmC_txt (p % 12) (Nat.mod_lt _ (by decide))
  have e1 := e0.1
  have e2 := e0.2
  have e3 := nmL_ok (p % 12) (Nat.mod_lt _ (by decide))
  intro k
  induction k with
  | zero =>
    intro i hi w1 s1 hW hF
    refine v206_10 s1 (bdk (by omega)) e2 (bdk (by omega)) ?_
    rw [e1]
    refine ⟨fun _ => ?_, fun q => by omega⟩
    have e4 : i2C (48 + ((p : Nat) : Int).tdiv 12) = ((48 + p / 12 : Nat) : Int) := by
      rw [Int.tdiv_eq_ediv_of_nonneg (by omega), ← i2C_id (48 + p / 12) (by omega)]
      rfl
    rw [e4]
    rw [show i = (nmL.getD (p % 12) []).length from by omega, List.take_length] at hW
    refine c205L s1 hW (by rw [List.length_append]; omega) (by omega) (fun w2 s2 h2 f2 => ⟨s2, h w2 s2 ?_ (hF.tr f2)⟩)
    rw [List.append_assoc] at h2
    exact h2
  | succ k ih =>
    intro i hi w1 s1 hW hF
    refine v206_10 s1 (bdk (by omega)) e2 (bdk (by omega)) ?_
    rw [e1, Int.toNat_natCast]
    refine ⟨fun q => by omega, fun _ => ⟨⟨by omega, by omega⟩, ?_⟩⟩
    refine c205L s1 hW (by rw [List.length_append, List.length_take]; omega) (e3.2 i (by omega)) (fun w2 s2 h2 f2 => ⟨s2, ih (i + 1) (by omega) w2 s2 ?_ (hF.tr f2)⟩)
    rw [List.append_assoc, take_s (by omega)] at h2
    exact h2
theorem c206 {w : PW} {Q : PO → PW → Prop} {p : Nat} {l : List Nat} (hs : Sh w) (hW : WL w l) (hp : p < 24) (hl : l.length + 4 ≤ 400) (h : ∀ w2, Sh w2 → WL w2 (l ++ oPit p) → WF w w2 → Q (.inl none) w2) : pC 206 [.ref 137, iv (p : Nat)] w Q := by
  refine e206 hs (bdk (by omega)) ?_
  have e : ((p : Nat) : Int).tmod 12 = ((p % 12 : Nat) : Int) := by rw [Int.tmod_eq_emod_of_nonneg (by omega)]; omega
  rw [e]
  refine ⟨⟨by omega, by omega⟩, l206_10 hs hp hl h _ 0 (Nat.zero_add _) w hs ?_ WF.rf⟩
  rw [List.take_zero, List.append_nil]
  exact hW
