/-! THE CLASS's FACE: predictions -/
/-! 144: PinBarrel.bestTurn(I)I -/
theorem b144 : mB 144 = cX8_bestTurn := rfl
theorem r144 : mR 144 = (some .int) := rfl
theorem d144_0 : decode cX8_bestTurn 0 = .ok (.aload_n 0, 1) := by decide +kernel
theorem d144_1 : decode cX8_bestTurn 1 = .ok (.iload_n 1, 1) := by decide +kernel
theorem d144_2 : decode cX8_bestTurn 2 = .ok (.invokevirtual 189, 3) := by decide +kernel
theorem d144_5 : decode cX8_bestTurn 5 = .ok (.aload_n 0, 1) := by decide +kernel
theorem d144_6 : decode cX8_bestTurn 6 = .ok (.getfield 16, 3) := by decide +kernel
theorem d144_9 : decode cX8_bestTurn 9 = .ok (.aload_n 0, 1) := by decide +kernel
theorem d144_10 : decode cX8_bestTurn 10 = .ok (.getfield 12, 3) := by decide +kernel
theorem d144_13 : decode cX8_bestTurn 13 = .ok (.invokevirtual 80, 3) := by decide +kernel
theorem d144_16 : decode cX8_bestTurn 16 = .ok (.iconst 0, 1) := by decide +kernel
theorem d144_17 : decode cX8_bestTurn 17 = .ok (.istore_n 2, 1) := by decide +kernel
theorem d144_18 : decode cX8_bestTurn 18 = .ok (.aload_n 0, 1) := by decide +kernel
theorem d144_19 : decode cX8_bestTurn 19 = .ok (.getfield 16, 3) := by decide +kernel
theorem d144_22 : decode cX8_bestTurn 22 = .ok (.invokevirtual 136, 3) := by decide +kernel
theorem d144_25 : decode cX8_bestTurn 25 = .ok (.istore_n 3, 1) := by decide +kernel
theorem d144_26 : decode cX8_bestTurn 26 = .ok (.iconst 1, 1) := by decide +kernel
theorem d144_27 : decode cX8_bestTurn 27 = .ok (.istore 4, 2) := by decide +kernel
theorem d144_29 : decode cX8_bestTurn 29 = .ok (.iload 4, 2) := by decide +kernel
theorem d144_31 : decode cX8_bestTurn 31 = .ok (.aload_n 0, 1) := by decide +kernel
theorem d144_32 : decode cX8_bestTurn 32 = .ok (.getfield 12, 3) := by decide +kernel
theorem d144_35 : decode cX8_bestTurn 35 = .ok (.getfield 96, 3) := by decide +kernel
theorem d144_38 : decode cX8_bestTurn 38 = .ok (.if_icmp .ge 39, 3) := by decide +kernel
theorem d144_41 : decode cX8_bestTurn 41 = .ok (.aload_n 0, 1) := by decide +kernel
theorem d144_42 : decode cX8_bestTurn 42 = .ok (.getfield 16, 3) := by decide +kernel
theorem d144_45 : decode cX8_bestTurn 45 = .ok (.iload_n 1, 1) := by decide +kernel
theorem d144_46 : decode cX8_bestTurn 46 = .ok (.iconst 1, 1) := by decide +kernel
theorem d144_47 : decode cX8_bestTurn 47 = .ok (.invokevirtual 286, 3) := by decide +kernel
theorem d144_50 : decode cX8_bestTurn 50 = .ok (.aload_n 0, 1) := by decide +kernel
theorem d144_51 : decode cX8_bestTurn 51 = .ok (.getfield 16, 3) := by decide +kernel
theorem d144_54 : decode cX8_bestTurn 54 = .ok (.invokevirtual 136, 3) := by decide +kernel
theorem d144_57 : decode cX8_bestTurn 57 = .ok (.istore 5, 2) := by decide +kernel
theorem d144_59 : decode cX8_bestTurn 59 = .ok (.iload 5, 2) := by decide +kernel
theorem d144_61 : decode cX8_bestTurn 61 = .ok (.iload_n 3, 1) := by decide +kernel
theorem d144_62 : decode cX8_bestTurn 62 = .ok (.if_icmp .ge 9, 3) := by decide +kernel
theorem d144_65 : decode cX8_bestTurn 65 = .ok (.iload 5, 2) := by decide +kernel
theorem d144_67 : decode cX8_bestTurn 67 = .ok (.istore_n 3, 1) := by decide +kernel
theorem d144_68 : decode cX8_bestTurn 68 = .ok (.iload 4, 2) := by decide +kernel
theorem d144_70 : decode cX8_bestTurn 70 = .ok (.istore_n 2, 1) := by decide +kernel
theorem d144_71 : decode cX8_bestTurn 71 = .ok (.iinc 4 1, 3) := by decide +kernel
theorem d144_74 : decode cX8_bestTurn 74 = .ok (.goto (-45), 3) := by decide +kernel
theorem d144_77 : decode cX8_bestTurn 77 = .ok (.iload_n 2, 1) := by decide +kernel
theorem d144_78 : decode cX8_bestTurn 78 = .ok (.ireturn, 1) := by decide +kernel
theorem v144_0 {w : PW} {Q : PO → PW → Prop} {x1 : Int} (hs : Sh w) (hx1 : bd x1) (h : (bd ((gI w 1 1) - 1)) ∧ ((0 ≤ x1 ∧ x1 < gI w 1 1) → pC 37 [.ref 14, .ref 1] w (kV fun w2 => Sh w2 ∧ pC 64 [.ref 14] w2 (kI fun u5 w4 => Sh w4 ∧ pX 144 29 [some (.ref 0), some (iv x1), some (iv 0), some (iv u5), some (iv 1), none] [] w4 Q))) ∧ (¬ (0 ≤ x1 ∧ x1 < gI w 1 1) → Q (.inr 1) w)) : pX 144 0 [some (.ref 0), some (iv x1), none, none, none, none] [] w Q :=
  w_f b144 d144_0 rfl rfl rfl <| w_f b144 d144_1 rfl rfl rfl <| w_cc b144 d144_2 rfl (pcl_v (n := 1) rfl rfl rfl (by decide +kernel) (sh_isOb hs (tlt 0 rfl) tbC_0) rfl rfl) rfl <| c77 hs hx1 h.1 (fun c1 => w_f b144 d144_5 rfl rfl rfl <| w_gr b144 d144_6 rfl rfl hs (tlt 0 rfl) tbC_0 rfl (bxr0 (bxc 14 rfl)) <| w_f b144 d144_9 rfl rfl rfl <| w_gr b144 d144_10 rfl rfl hs (tlt 0 rfl) tbC_0 rfl (bxr0 (bxc 1 rfl)) <| w_c b144 d144_13 rfl (pcl_v (n := 1) rfl rfl rfl (by decide +kernel) (sh_isOb hs (bx00 (bxc 14 rfl)) (tb0 (bxc 14 rfl))) rfl rfl) rfl _ (hK_V fun w2 hkw2 => w_f b144 d144_16 rfl rfl rfl <| w_f b144 d144_17 rfl rfl rfl <| w_f b144 d144_18 rfl rfl rfl <| w_gr b144 d144_19 rfl rfl hkw2.1 (tlt 0 rfl) tbC_0 rfl (bxr0 (bxc 14 rfl)) <| w_c b144 d144_22 rfl (pcl_v (n := 0) rfl rfl rfl (by decide +kernel) (sh_isOb hkw2.1 (bx00 (bxc 14 rfl)) (tb0 (bxc 14 rfl))) rfl rfl) rfl _ (hK_I fun u5 w4 hbu5 hkw4 => w_f b144 d144_25 rfl rfl rfl <| w_f b144 d144_26 rfl rfl rfl <| w_f b144 d144_27 rfl rfl rfl <| hkw4.2) hkw2.2) (h.2.1 c1)) (fun c1 => h.2.2 c1)
theorem e144 {w : PW} {Q : PO → PW → Prop} {x1 : Int} (hs : Sh w) (hx1 : bd x1) (h : (bd ((gI w 1 1) - 1)) ∧ ((0 ≤ x1 ∧ x1 < gI w 1 1) → pC 37 [.ref 14, .ref 1] w (kV fun w2 => Sh w2 ∧ pC 64 [.ref 14] w2 (kI fun u5 w4 => Sh w4 ∧ pX 144 29 [some (.ref 0), some (iv x1), some (iv 0), some (iv u5), some (iv 1), none] [] w4 Q))) ∧ (¬ (0 ≤ x1 ∧ x1 < gI w 1 1) → Q (.inr 1) w)) : pC 144 [.ref 0, iv x1] w Q :=
  (pC_in (Nat.le_of_ble_eq_true rfl) rfl Q).mpr (v144_0 hs hx1 h)
theorem v144_29 {w : PW} {Q : PO → PW → Prop} {x1 : Int} {x2 : Int} {x3 : Int} {x4 : Int} {o5 : Option Value} (hs : Sh w) (hx1 : bd x1) (hx2 : bd x2) (hx3 : bd x3) (hx4 : bd x4) (ho5 : pc2 o5 = false) (h : ((gI w 1 0) ≤ x4 → Q (.inl (some (iv x2))) w) ∧ (x4 < (gI w 1 0) → pC 143 [.ref 14, iv x1, iv 1] w (kV fun w2 => Sh w2 ∧ pC 64 [.ref 14] w2 (kI fun u5 w4 => Sh w4 ∧ (x3 ≤ u5 → pX 144 29 [some (.ref 0), some (iv x1), some (iv x2), some (iv x3), some (iv (x4 + 1)), some (iv u5)] [] w4 Q) ∧ (u5 < x3 → pX 144 29 [some (.ref 0), some (iv x1), some (iv x4), some (iv u5), some (iv (x4 + 1)), some (iv u5)] [] w4 Q))))) : pX 144 29 [some (.ref 0), some (iv x1), some (iv x2), some (iv x3), some (iv x4), o5] [] w Q :=
  w_f b144 d144_29 rfl rfl rfl <| w_f b144 d144_31 rfl rfl rfl <| w_gr b144 d144_32 rfl rfl hs (tlt 0 rfl) tbC_0 rfl (bxr0 (bxc 1 rfl)) <| w_gi b144 d144_35 rfl rfl hs (bx00 (bxc 1 rfl)) (tb0 (bxc 1 rfl)) rfl <| w_icge b144 d144_38 rfl rfl (by decide +kernel) hx4 (bd_gI _ _ _) (fun c1 => w_f b144 d144_77 rfl rfl rfl <| w_ri b144 d144_78 r144 (h.1 c1)) (fun c1 => w_f b144 d144_41 rfl rfl rfl <| w_gr b144 d144_42 rfl rfl hs (tlt 0 rfl) tbC_0 rfl (bxr0 (bxc 14 rfl)) <| w_f b144 d144_45 rfl rfl rfl <| w_f b144 d144_46 rfl rfl rfl <| w_c b144 d144_47 rfl (pcl_v (n := 2) rfl rfl rfl (by decide +kernel) (sh_isOb hs (bx00 (bxc 14 rfl)) (tb0 (bxc 14 rfl))) rfl rfl) rfl _ (hK_V fun w2 hkw2 => w_f b144 d144_50 rfl rfl rfl <| w_gr b144 d144_51 rfl rfl hkw2.1 (tlt 0 rfl) tbC_0 rfl (bxr0 (bxc 14 rfl)) <| w_c b144 d144_54 rfl (pcl_v (n := 0) rfl rfl rfl (by decide +kernel) (sh_isOb hkw2.1 (bx00 (bxc 14 rfl)) (tb0 (bxc 14 rfl))) rfl rfl) rfl _ (hK_I fun u5 w4 hbu5 hkw4 => w_f b144 d144_57 rfl rfl rfl <| w_f b144 d144_59 rfl rfl rfl <| w_f b144 d144_61 rfl rfl rfl <| w_icge b144 d144_62 rfl rfl (by decide +kernel) hbu5 hx3 (fun c6 => w_f b144 d144_71 rfl (pf_iinc rfl rfl) rfl <| w_j b144 d144_74 rfl (by decide +kernel) <| (hkw4.2.1 c6)) (fun c6 => w_f b144 d144_65 rfl rfl rfl <| w_f b144 d144_67 rfl rfl rfl <| w_f b144 d144_68 rfl rfl rfl <| w_f b144 d144_70 rfl rfl rfl <| w_f b144 d144_71 rfl (pf_iinc rfl rfl) rfl <| w_j b144 d144_74 rfl (by decide +kernel) <| (hkw4.2.2 c6))) hkw2.2) (h.2 c1))
/-! 160: PinBarrel.ringsIn(I)I -/
theorem b160 : mB 160 = cX8_ringsIn := rfl
theorem r160 : mR 160 = (some .int) := rfl
theorem d160_0 : decode cX8_ringsIn 0 = .ok (.aload_n 0, 1) := by decide +kernel
theorem d160_1 : decode cX8_ringsIn 1 = .ok (.iload_n 1, 1) := by decide +kernel
theorem d160_2 : decode cX8_ringsIn 2 = .ok (.iconst 1, 1) := by decide +kernel
theorem d160_3 : decode cX8_ringsIn 3 = .ok (.sipush 200, 3) := by decide +kernel
theorem d160_6 : decode cX8_ringsIn 6 = .ok (.invokevirtual 223, 3) := by decide +kernel
theorem d160_9 : decode cX8_ringsIn 9 = .ok (.aload_n 0, 1) := by decide +kernel
theorem d160_10 : decode cX8_ringsIn 10 = .ok (.getfield 16, 3) := by decide +kernel
theorem d160_13 : decode cX8_ringsIn 13 = .ok (.aload_n 0, 1) := by decide +kernel
theorem d160_14 : decode cX8_ringsIn 14 = .ok (.getfield 12, 3) := by decide +kernel
theorem d160_17 : decode cX8_ringsIn 17 = .ok (.invokevirtual 80, 3) := by decide +kernel
theorem d160_20 : decode cX8_ringsIn 20 = .ok (.aload_n 0, 1) := by decide +kernel
theorem d160_21 : decode cX8_ringsIn 21 = .ok (.getfield 16, 3) := by decide +kernel
theorem d160_24 : decode cX8_ringsIn 24 = .ok (.iload_n 1, 1) := by decide +kernel
theorem d160_25 : decode cX8_ringsIn 25 = .ok (.invokevirtual 317, 3) := by decide +kernel
theorem d160_28 : decode cX8_ringsIn 28 = .ok (.aload_n 0, 1) := by decide +kernel
theorem d160_29 : decode cX8_ringsIn 29 = .ok (.getfield 16, 3) := by decide +kernel
theorem d160_32 : decode cX8_ringsIn 32 = .ok (.getfield 115, 3) := by decide +kernel
theorem d160_35 : decode cX8_ringsIn 35 = .ok (.invokevirtual 320, 3) := by decide +kernel
theorem d160_38 : decode cX8_ringsIn 38 = .ok (.aload_n 0, 1) := by decide +kernel
theorem d160_39 : decode cX8_ringsIn 39 = .ok (.getfield 12, 3) := by decide +kernel
theorem d160_42 : decode cX8_ringsIn 42 = .ok (.getfield 115, 3) := by decide +kernel
theorem d160_45 : decode cX8_ringsIn 45 = .ok (.invokevirtual 320, 3) := by decide +kernel
theorem d160_48 : decode cX8_ringsIn 48 = .ok (.isub, 1) := by decide +kernel
theorem d160_49 : decode cX8_ringsIn 49 = .ok (.ireturn, 1) := by decide +kernel
theorem v160_0 {w : PW} {Q : PO → PW → Prop} {x1 : Int} (hs : Sh w) (hx1 : bd x1) (h : ((1 ≤ x1 ∧ x1 ≤ 200) → pC 37 [.ref 14, .ref 1] w (kV fun w2 => Sh w2 ∧ pC 48 [.ref 14, iv x1] w2 (kV fun w4 => Sh w4 ∧ Q (.inl (some (iv (((gI w4 (14 + 8) 3) - (gI w4 (14 + 8) 4)) - ((gI w4 (1 + 8) 3) - (gI w4 (1 + 8) 4)))))) w4))) ∧ (¬ (1 ≤ x1 ∧ x1 ≤ 200) → Q (.inr 1) w)) : pX 160 0 [some (.ref 0), some (iv x1)] [] w Q :=
  w_f b160 d160_0 rfl rfl rfl <| w_f b160 d160_1 rfl rfl rfl <| w_f b160 d160_2 rfl rfl rfl <| w_f b160 d160_3 rfl rfl rfl <| w_cc b160 d160_6 rfl (pcl_v (n := 3) rfl rfl rfl (by decide +kernel) (sh_isOb hs (tlt 0 rfl) tbC_0) rfl rfl) rfl <| c76 hs hx1 ⟨by decide, by decide⟩ ⟨by decide, by decide⟩ (fun c1 => w_f b160 d160_9 rfl rfl rfl <| w_gr b160 d160_10 rfl rfl hs (tlt 0 rfl) tbC_0 rfl (bxr0 (bxc 14 rfl)) <| w_f b160 d160_13 rfl rfl rfl <| w_gr b160 d160_14 rfl rfl hs (tlt 0 rfl) tbC_0 rfl (bxr0 (bxc 1 rfl)) <| w_c b160 d160_17 rfl (pcl_v (n := 1) rfl rfl rfl (by decide +kernel) (sh_isOb hs (bx00 (bxc 14 rfl)) (tb0 (bxc 14 rfl))) rfl rfl) rfl _ (hK_V fun w2 hkw2 => w_f b160 d160_20 rfl rfl rfl <| w_gr b160 d160_21 rfl rfl hkw2.1 (tlt 0 rfl) tbC_0 rfl (bxr0 (bxc 14 rfl)) <| w_f b160 d160_24 rfl rfl rfl <| w_c b160 d160_25 rfl (pcl_v (n := 1) rfl rfl rfl (by decide +kernel) (sh_isOb hkw2.1 (bx00 (bxc 14 rfl)) (tb0 (bxc 14 rfl))) rfl rfl) rfl _ (hK_V fun w4 hkw4 => w_f b160 d160_28 rfl rfl rfl <| w_gr b160 d160_29 rfl rfl hkw4.1 (tlt 0 rfl) tbC_0 rfl (bxr0 (bxc 14 rfl)) <| w_gr b160 d160_32 rfl rfl hkw4.1 (bx00 (bxc 14 rfl)) (tb0 (bxc 14 rfl)) rfl (bxr (bxc 14 rfl) 8 rfl) <| w_cc b160 d160_35 rfl (pcl_v (n := 0) rfl rfl rfl (by decide +kernel) (sh_isOb hkw4.1 (bxk (bxc 14 rfl) 8 rfl) (tb8 (bxc 14 rfl))) rfl rfl) rfl <| c52 hkw4.1 (bxc 14 rfl) <| w_f b160 d160_38 rfl rfl rfl <| w_gr b160 d160_39 rfl rfl hkw4.1 (tlt 0 rfl) tbC_0 rfl (bxr0 (bxc 1 rfl)) <| w_gr b160 d160_42 rfl rfl hkw4.1 (bx00 (bxc 1 rfl)) (tb0 (bxc 1 rfl)) rfl (bxr (bxc 1 rfl) 8 rfl) <| w_cc b160 d160_45 rfl (pcl_v (n := 0) rfl rfl rfl (by decide +kernel) (sh_isOb hkw4.1 (bxk (bxc 1 rfl) 8 rfl) (tb8 (bxc 1 rfl))) rfl rfl) rfl <| c52 hkw4.1 (bxc 1 rfl) <| w_f b160 d160_48 rfl (pf_isub _ _) rfl <| w_ri b160 d160_49 r160 hkw4.2) hkw2.2) (h.1 c1)) (fun c1 => h.2 c1)
theorem e160 {w : PW} {Q : PO → PW → Prop} {x1 : Int} (hs : Sh w) (hx1 : bd x1) (h : ((1 ≤ x1 ∧ x1 ≤ 200) → pC 37 [.ref 14, .ref 1] w (kV fun w2 => Sh w2 ∧ pC 48 [.ref 14, iv x1] w2 (kV fun w4 => Sh w4 ∧ Q (.inl (some (iv (((gI w4 (14 + 8) 3) - (gI w4 (14 + 8) 4)) - ((gI w4 (1 + 8) 3) - (gI w4 (1 + 8) 4)))))) w4))) ∧ (¬ (1 ≤ x1 ∧ x1 ≤ 200) → Q (.inr 1) w)) : pC 160 [.ref 0, iv x1] w Q :=
  (pC_in (Nat.le_of_ble_eq_true rfl) rfl Q).mpr (v160_0 hs hx1 h)
/-! 162: PinBarrel.buzzesIn(I)I -/
theorem b162 : mB 162 = cX8_buzzesIn := rfl
theorem r162 : mR 162 = (some .int) := rfl
theorem d162_0 : decode cX8_buzzesIn 0 = .ok (.aload_n 0, 1) := by decide +kernel
theorem d162_1 : decode cX8_buzzesIn 1 = .ok (.iload_n 1, 1) := by decide +kernel
theorem d162_2 : decode cX8_buzzesIn 2 = .ok (.iconst 1, 1) := by decide +kernel
theorem d162_3 : decode cX8_buzzesIn 3 = .ok (.sipush 200, 3) := by decide +kernel
theorem d162_6 : decode cX8_buzzesIn 6 = .ok (.invokevirtual 223, 3) := by decide +kernel
theorem d162_9 : decode cX8_buzzesIn 9 = .ok (.aload_n 0, 1) := by decide +kernel
theorem d162_10 : decode cX8_buzzesIn 10 = .ok (.getfield 16, 3) := by decide +kernel
theorem d162_13 : decode cX8_buzzesIn 13 = .ok (.aload_n 0, 1) := by decide +kernel
theorem d162_14 : decode cX8_buzzesIn 14 = .ok (.getfield 12, 3) := by decide +kernel
theorem d162_17 : decode cX8_buzzesIn 17 = .ok (.invokevirtual 80, 3) := by decide +kernel
theorem d162_20 : decode cX8_buzzesIn 20 = .ok (.aload_n 0, 1) := by decide +kernel
theorem d162_21 : decode cX8_buzzesIn 21 = .ok (.getfield 16, 3) := by decide +kernel
theorem d162_24 : decode cX8_buzzesIn 24 = .ok (.iload_n 1, 1) := by decide +kernel
theorem d162_25 : decode cX8_buzzesIn 25 = .ok (.invokevirtual 317, 3) := by decide +kernel
theorem d162_28 : decode cX8_buzzesIn 28 = .ok (.aload_n 0, 1) := by decide +kernel
theorem d162_29 : decode cX8_buzzesIn 29 = .ok (.getfield 16, 3) := by decide +kernel
theorem d162_32 : decode cX8_buzzesIn 32 = .ok (.getfield 115, 3) := by decide +kernel
theorem d162_35 : decode cX8_buzzesIn 35 = .ok (.getfield 133, 3) := by decide +kernel
theorem d162_38 : decode cX8_buzzesIn 38 = .ok (.aload_n 0, 1) := by decide +kernel
theorem d162_39 : decode cX8_buzzesIn 39 = .ok (.getfield 12, 3) := by decide +kernel
theorem d162_42 : decode cX8_buzzesIn 42 = .ok (.getfield 115, 3) := by decide +kernel
theorem d162_45 : decode cX8_buzzesIn 45 = .ok (.getfield 133, 3) := by decide +kernel
theorem d162_48 : decode cX8_buzzesIn 48 = .ok (.isub, 1) := by decide +kernel
theorem d162_49 : decode cX8_buzzesIn 49 = .ok (.ireturn, 1) := by decide +kernel
theorem v162_0 {w : PW} {Q : PO → PW → Prop} {x1 : Int} (hs : Sh w) (hx1 : bd x1) (h : ((1 ≤ x1 ∧ x1 ≤ 200) → pC 37 [.ref 14, .ref 1] w (kV fun w2 => Sh w2 ∧ pC 48 [.ref 14, iv x1] w2 (kV fun w4 => Sh w4 ∧ Q (.inl (some (iv ((gI w4 (14 + 8) 4) - (gI w4 (1 + 8) 4))))) w4))) ∧ (¬ (1 ≤ x1 ∧ x1 ≤ 200) → Q (.inr 1) w)) : pX 162 0 [some (.ref 0), some (iv x1)] [] w Q :=
  w_f b162 d162_0 rfl rfl rfl <| w_f b162 d162_1 rfl rfl rfl <| w_f b162 d162_2 rfl rfl rfl <| w_f b162 d162_3 rfl rfl rfl <| w_cc b162 d162_6 rfl (pcl_v (n := 3) rfl rfl rfl (by decide +kernel) (sh_isOb hs (tlt 0 rfl) tbC_0) rfl rfl) rfl <| c76 hs hx1 ⟨by decide, by decide⟩ ⟨by decide, by decide⟩ (fun c1 => w_f b162 d162_9 rfl rfl rfl <| w_gr b162 d162_10 rfl rfl hs (tlt 0 rfl) tbC_0 rfl (bxr0 (bxc 14 rfl)) <| w_f b162 d162_13 rfl rfl rfl <| w_gr b162 d162_14 rfl rfl hs (tlt 0 rfl) tbC_0 rfl (bxr0 (bxc 1 rfl)) <| w_c b162 d162_17 rfl (pcl_v (n := 1) rfl rfl rfl (by decide +kernel) (sh_isOb hs (bx00 (bxc 14 rfl)) (tb0 (bxc 14 rfl))) rfl rfl) rfl _ (hK_V fun w2 hkw2 => w_f b162 d162_20 rfl rfl rfl <| w_gr b162 d162_21 rfl rfl hkw2.1 (tlt 0 rfl) tbC_0 rfl (bxr0 (bxc 14 rfl)) <| w_f b162 d162_24 rfl rfl rfl <| w_c b162 d162_25 rfl (pcl_v (n := 1) rfl rfl rfl (by decide +kernel) (sh_isOb hkw2.1 (bx00 (bxc 14 rfl)) (tb0 (bxc 14 rfl))) rfl rfl) rfl _ (hK_V fun w4 hkw4 => w_f b162 d162_28 rfl rfl rfl <| w_gr b162 d162_29 rfl rfl hkw4.1 (tlt 0 rfl) tbC_0 rfl (bxr0 (bxc 14 rfl)) <| w_gr b162 d162_32 rfl rfl hkw4.1 (bx00 (bxc 14 rfl)) (tb0 (bxc 14 rfl)) rfl (bxr (bxc 14 rfl) 8 rfl) <| w_gi b162 d162_35 rfl rfl hkw4.1 (bxk (bxc 14 rfl) 8 rfl) (tb8 (bxc 14 rfl)) rfl <| w_f b162 d162_38 rfl rfl rfl <| w_gr b162 d162_39 rfl rfl hkw4.1 (tlt 0 rfl) tbC_0 rfl (bxr0 (bxc 1 rfl)) <| w_gr b162 d162_42 rfl rfl hkw4.1 (bx00 (bxc 1 rfl)) (tb0 (bxc 1 rfl)) rfl (bxr (bxc 1 rfl) 8 rfl) <| w_gi b162 d162_45 rfl rfl hkw4.1 (bxk (bxc 1 rfl) 8 rfl) (tb8 (bxc 1 rfl)) rfl <| w_f b162 d162_48 rfl (pf_isub _ _) rfl <| w_ri b162 d162_49 r162 hkw4.2) hkw2.2) (h.1 c1)) (fun c1 => h.2 c1)
theorem e162 {w : PW} {Q : PO → PW → Prop} {x1 : Int} (hs : Sh w) (hx1 : bd x1) (h : ((1 ≤ x1 ∧ x1 ≤ 200) → pC 37 [.ref 14, .ref 1] w (kV fun w2 => Sh w2 ∧ pC 48 [.ref 14, iv x1] w2 (kV fun w4 => Sh w4 ∧ Q (.inl (some (iv ((gI w4 (14 + 8) 4) - (gI w4 (1 + 8) 4))))) w4))) ∧ (¬ (1 ≤ x1 ∧ x1 ≤ 200) → Q (.inr 1) w)) : pC 162 [.ref 0, iv x1] w Q :=
  (pC_in (Nat.le_of_ble_eq_true rfl) rfl Q).mpr (v162_0 hs hx1 h)
/-! 49: PinBarrel.firstBuzz()I -/
theorem b49 : mB 49 = cX8_firstBuzz := rfl
theorem r49 : mR 49 = (some .int) := rfl
theorem p49 (a b : Nat) : phi 49 a ≤ phi 49 b := Nat.le_refl 0
theorem d49_0 : decode cX8_firstBuzz 0 = .ok (.aload_n 0, 1) := by decide +kernel
theorem d49_1 : decode cX8_firstBuzz 1 = .ok (.getfield 16, 3) := by decide +kernel
theorem d49_4 : decode cX8_firstBuzz 4 = .ok (.aload_n 0, 1) := by decide +kernel
theorem d49_5 : decode cX8_firstBuzz 5 = .ok (.getfield 12, 3) := by decide +kernel
theorem d49_8 : decode cX8_firstBuzz 8 = .ok (.invokevirtual 80, 3) := by decide +kernel
theorem d49_11 : decode cX8_firstBuzz 11 = .ok (.iconst 0, 1) := by decide +kernel
theorem d49_12 : decode cX8_firstBuzz 12 = .ok (.istore_n 1, 1) := by decide +kernel
theorem d49_13 : decode cX8_firstBuzz 13 = .ok (.iload_n 1, 1) := by decide +kernel
theorem d49_14 : decode cX8_firstBuzz 14 = .ok (.iconst 3, 1) := by decide +kernel
theorem d49_15 : decode cX8_firstBuzz 15 = .ok (.aload_n 0, 1) := by decide +kernel
theorem d49_16 : decode cX8_firstBuzz 16 = .ok (.getfield 12, 3) := by decide +kernel
theorem d49_19 : decode cX8_firstBuzz 19 = .ok (.getfield 96, 3) := by decide +kernel
theorem d49_22 : decode cX8_firstBuzz 22 = .ok (.imul, 1) := by decide +kernel
theorem d49_23 : decode cX8_firstBuzz 23 = .ok (.if_icmp .ge 42, 3) := by decide +kernel
theorem d49_26 : decode cX8_firstBuzz 26 = .ok (.aload_n 0, 1) := by decide +kernel
theorem d49_27 : decode cX8_firstBuzz 27 = .ok (.getfield 16, 3) := by decide +kernel
theorem d49_30 : decode cX8_firstBuzz 30 = .ok (.iconst 1, 1) := by decide +kernel
theorem d49_31 : decode cX8_firstBuzz 31 = .ok (.invokevirtual 317, 3) := by decide +kernel
theorem d49_34 : decode cX8_firstBuzz 34 = .ok (.aload_n 0, 1) := by decide +kernel
theorem d49_35 : decode cX8_firstBuzz 35 = .ok (.getfield 16, 3) := by decide +kernel
theorem d49_38 : decode cX8_firstBuzz 38 = .ok (.getfield 115, 3) := by decide +kernel
theorem d49_41 : decode cX8_firstBuzz 41 = .ok (.getfield 133, 3) := by decide +kernel
theorem d49_44 : decode cX8_firstBuzz 44 = .ok (.aload_n 0, 1) := by decide +kernel
theorem d49_45 : decode cX8_firstBuzz 45 = .ok (.getfield 12, 3) := by decide +kernel
theorem d49_48 : decode cX8_firstBuzz 48 = .ok (.getfield 115, 3) := by decide +kernel
theorem d49_51 : decode cX8_firstBuzz 51 = .ok (.getfield 133, 3) := by decide +kernel
theorem d49_54 : decode cX8_firstBuzz 54 = .ok (.if_icmp .le 5, 3) := by decide +kernel
theorem d49_57 : decode cX8_firstBuzz 57 = .ok (.iload_n 1, 1) := by decide +kernel
theorem d49_58 : decode cX8_firstBuzz 58 = .ok (.ireturn, 1) := by decide +kernel
theorem d49_59 : decode cX8_firstBuzz 59 = .ok (.iinc 1 1, 3) := by decide +kernel
theorem d49_62 : decode cX8_firstBuzz 62 = .ok (.goto (-49), 3) := by decide +kernel
theorem d49_65 : decode cX8_firstBuzz 65 = .ok (.iconst (-1), 1) := by decide +kernel
theorem d49_66 : decode cX8_firstBuzz 66 = .ok (.ireturn, 1) := by decide +kernel
theorem v49_0 {w : PW} {Q : PO → PW → Prop}  (hs : Sh w)  (h : pC 37 [.ref 14, .ref 1] w (kV fun w1 => Sh w1 ∧ pX 49 13 [some (.ref 0), some (iv 0)] [] w1 Q)) : pX 49 0 [some (.ref 0), none] [] w Q :=
  w_f b49 d49_0 rfl rfl rfl <| w_gr b49 d49_1 rfl rfl hs (tlt 0 rfl) tbC_0 rfl (bxr0 (bxc 14 rfl)) <| w_f b49 d49_4 rfl rfl rfl <| w_gr b49 d49_5 rfl rfl hs (tlt 0 rfl) tbC_0 rfl (bxr0 (bxc 1 rfl)) <| w_c b49 d49_8 rfl (pcl_v (n := 1) rfl rfl rfl (by decide +kernel) (sh_isOb hs (bx00 (bxc 14 rfl)) (tb0 (bxc 14 rfl))) rfl rfl) rfl _ (hK_V fun w1 hkw1 => w_f b49 d49_11 rfl rfl rfl <| w_f b49 d49_12 rfl rfl rfl <| hkw1.2) h
theorem e49 {w : PW} {Q : PO → PW → Prop}  (hs : Sh w)  (h : pC 37 [.ref 14, .ref 1] w (kV fun w1 => Sh w1 ∧ pX 49 13 [some (.ref 0), some (iv 0)] [] w1 Q)) : pC 49 [.ref 0] w Q :=
  (pC_in (Nat.le_of_ble_eq_true rfl) rfl Q).mpr (v49_0 hs  h)
theorem v49_13 {w : PW} {Q : PO → PW → Prop} {x1 : Int} (hs : Sh w) (hx1 : bd x1) (h : (bd (3 * (gI w 1 0))) ∧ ((3 * (gI w 1 0)) ≤ x1 → Q (.inl (some (iv ((-1))))) w) ∧ (x1 < (3 * (gI w 1 0)) → pC 48 [.ref 14, iv 1] w (kV fun w2 => Sh w2 ∧ ((gI w2 (14 + 8) 4) ≤ (gI w2 (1 + 8) 4) → pX 49 13 [some (.ref 0), some (iv (x1 + 1))] [] w2 Q) ∧ ((gI w2 (1 + 8) 4) < (gI w2 (14 + 8) 4) → Q (.inl (some (iv x1))) w2)))) : pX 49 13 [some (.ref 0), some (iv x1)] [] w Q :=
  w_f b49 d49_13 rfl rfl rfl <| w_f b49 d49_14 rfl rfl rfl <| w_f b49 d49_15 rfl rfl rfl <| w_gr b49 d49_16 rfl rfl hs (tlt 0 rfl) tbC_0 rfl (bxr0 (bxc 1 rfl)) <| w_gi b49 d49_19 rfl rfl hs (bx00 (bxc 1 rfl)) (tb0 (bxc 1 rfl)) rfl <| w_f b49 d49_22 rfl (pf_imul 3 (gI w 1 0)) rfl <| w_icge b49 d49_23 rfl rfl (p49 _ _) hx1 h.1 (fun c1 => w_f b49 d49_65 rfl rfl rfl <| w_ri b49 d49_66 r49 (h.2.1 c1)) (fun c1 => w_f b49 d49_26 rfl rfl rfl <| w_gr b49 d49_27 rfl rfl hs (tlt 0 rfl) tbC_0 rfl (bxr0 (bxc 14 rfl)) <| w_f b49 d49_30 rfl rfl rfl <| w_c b49 d49_31 rfl (pcl_v (n := 1) rfl rfl rfl (by decide +kernel) (sh_isOb hs (bx00 (bxc 14 rfl)) (tb0 (bxc 14 rfl))) rfl rfl) rfl _ (hK_V fun w2 hkw2 => w_f b49 d49_34 rfl rfl rfl <| w_gr b49 d49_35 rfl rfl hkw2.1 (tlt 0 rfl) tbC_0 rfl (bxr0 (bxc 14 rfl)) <| w_gr b49 d49_38 rfl rfl hkw2.1 (bx00 (bxc 14 rfl)) (tb0 (bxc 14 rfl)) rfl (bxr (bxc 14 rfl) 8 rfl) <| w_gi b49 d49_41 rfl rfl hkw2.1 (bxk (bxc 14 rfl) 8 rfl) (tb8 (bxc 14 rfl)) rfl <| w_f b49 d49_44 rfl rfl rfl <| w_gr b49 d49_45 rfl rfl hkw2.1 (tlt 0 rfl) tbC_0 rfl (bxr0 (bxc 1 rfl)) <| w_gr b49 d49_48 rfl rfl hkw2.1 (bx00 (bxc 1 rfl)) (tb0 (bxc 1 rfl)) rfl (bxr (bxc 1 rfl) 8 rfl) <| w_gi b49 d49_51 rfl rfl hkw2.1 (bxk (bxc 1 rfl) 8 rfl) (tb8 (bxc 1 rfl)) rfl <| w_icle b49 d49_54 rfl rfl (p49 _ _) (bd_gI _ _ _) (bd_gI _ _ _) (fun c4 => w_f b49 d49_59 rfl (pf_iinc rfl rfl) rfl <| w_j b49 d49_62 rfl (p49 _ _) <| (hkw2.2.1 c4)) (fun c4 => w_f b49 d49_57 rfl rfl rfl <| w_ri b49 d49_58 r49 (hkw2.2.2 c4))) (h.2.2 c1))
def rMv (m : Row) (u : Nat) : Nat → Row
  | 0 => m
  | n + 1 => rMoveP (rMv m u n) u 1
def sTurnA (m : Row) (u : Nat) : Nat → Int × Nat
  | 0 => (0, sCo m)
  | i + 1 => if sCo (rMv m u (i + 1)) < (sTurnA m u i).2 then (((i + 1 : Nat) : Int), sCo (rMv m u (i + 1))) else sTurnA m u i
theorem sTurnA_bd (m : Row) (u : Nat) : ∀ i, 0 ≤ (sTurnA m u i).1 ∧ (sTurnA m u i).1 ≤ i ∧ (sTurnA m u i).2 ≤ 147456 := by
  intro i
  induction i with
  | zero => exact ⟨Int.le_refl _, Int.le_refl _, sCo_bd m⟩
  | succ i ih =>
    unfold sTurnA
    split
    · exact ⟨by show (0 : Int) ≤ ((i + 1 : Nat) : Int); omega, Int.le_refl _, sCo_bd _⟩
    · omega
theorem rMv_01 (m : Row) (u : Nat) : ∀ n, rMv m u n 0 = m 0 ∧ rMv m u n 1 = m 1 := by
  intro n
  induction n with
  | zero => exact ⟨rfl, rfl⟩
  | succ n ih =>
    have e : ∀ j, j < 251 → rMv m u (n + 1) j = rMv m u n j := fun j hj => by show (rMoveP (rMv m u n) u 1) j = rMv m u n j; unfold rMoveP; exact rSetP_lo hj
    exact ⟨(e 0 (by decide)).trans ih.1, (e 1 (by decide)).trans ih.2⟩
def sp144 (m : Row) (x : Int) : PO := spU m x (rI (sTurnA m x.toNat ((m 0).toNat - 1)).1)
theorem l144 {w : PW} {Q : PO → PW → Prop} {m : Row} {u : Nat} (hB : BR w 1 m) (hu : (u : Int) < m 1) (h : ∀ w', CF w w' → Q (rI (sTurnA m u ((m 0).toNat - 1)).1) w') : ∀ n i : Nat, i + 1 + n = (m 0).toNat → ∀ w1 : PW, Sh w1 → CF w w1 → BR w1 14 (rMv m u i) → ∀ o5 : Option Value, pc2 o5 = false → pX 144 29 [some (.ref 0), some (iv (u : Nat)), some (iv (sTurnA m u i).1), some (iv (sTurnA m u i).2), some (iv ((i + 1 : Nat) : Int)), o5] [] w1 Q := by
  have h0 := hB.ok.s
  have h1 := hB.ok.u
  intro n
  induction n with
  | zero =>
    intro i hi w1 s1 hC hD o5 ho
    have hb := sTurnA_bd m u i
    refine v144_29 s1 (bdk (by omega)) ⟨by omega, by omega⟩ (bdk (by omega)) (bdk (by omega)) ho ?_
    rw [(hC.b1 hB).s]
    refine ⟨fun _ => ?_, fun q => by omega⟩
    have := h w1 hC
    rw [show (m 0).toNat - 1 = i from by omega] at this
    exact this
  | succ n ih =>
    intro i hi w1 s1 hC hD o5 ho
    have hb := sTurnA_bd m u i
    obtain ⟨r0, r1⟩ := rMv_01 m u i
    refine v144_29 s1 (bdk (by omega)) ⟨by omega, by omega⟩ (bdk (by omega)) (bdk (by omega)) ho ?_
    rw [(hC.b1 hB).s]
    refine ⟨fun q => by omega, fun _ => c143 (k := 1) s1 hD (by rw [r1]; exact hu) (by rw [r0]; omega) (fun w2 s2 b2 k2 => ⟨s2, ?_⟩)⟩
    have hC2 : CF w w2 := hC.ob s2 (fun c hc => k2 c (by omega))
    have hcb := sCo_bd (rMv m u (i + 1))
    refine c64 s2 b2 (kI_iv (bdk (by have : sCo (rMoveP (rMv m u i) u 1) ≤ 147456 := hcb; omega)) ⟨s2, fun q => ?_, fun q => ?_⟩)
    · have e : sTurnA m u (i + 1) = sTurnA m u i := if_neg (by show ¬ sCo (rMoveP (rMv m u i) u 1) < _; omega)
      have := ih (i + 1) (by omega) w2 s2 hC2 b2 (some (iv (sCo (rMoveP (rMv m u i) u 1) : Nat))) rfl
      rw [e] at this
      exact this
    · have e : sTurnA m u (i + 1) = (((i + 1 : Nat) : Int), sCo (rMv m u (i + 1))) := if_pos (by show sCo (rMoveP (rMv m u i) u 1) < _; omega)
      have := ih (i + 1) (by omega) w2 s2 hC2 b2 (some (iv (sCo (rMoveP (rMv m u i) u 1) : Nat))) rfl
      rw [e] at this
      exact this
theorem c144 {w : PW} {Q : PO → PW → Prop} {m : Row} {x1 : Int} (hs : Sh w) (hB : BR w 1 m) (hx1 : bd x1) (h : ∀ w', CF w w' → Q (sp144 m x1) w') : pC 144 [.ref 0, iv x1] w Q := by
  have h1 := hB.ok.u
  have h0 := hB.ok.s
  have hcb := sCo_bd m
  refine e144 hs hx1 ?_
  rw [hB.u]
  refine ⟨⟨by omega, by omega⟩, fun q1 => ?_, fun q1 => sp_f (h w (CF.rf hs)) q1⟩
  have hr := fun w' hw => sp_t (h w' hw) q1
  obtain ⟨u, rfl⟩ := nat_of q1.1
  exact c37 hs bx14 hB (by decide) (fun w2 s2 b2 o2 => ⟨s2, c64 s2 b2 (kI_iv (bdk (by omega)) ⟨s2, l144 hB q1.2 hr ((m 0).toNat - 1) 0 (by omega) w2 s2 ((CF.rf hs).ob s2 o2) b2 none rfl⟩)⟩)
/-- of a row that stays: the ticks are few, the plucks fit them -/
def RFin (m : Row) : Prop := m 9 ≤ 12 * m 8 ∧ m 8 ≤ 100000
def sp160 (m : Row) (x : Int) : PO := spR 1 200 x (rI (rRun m x.toNat 9 - rRun m x.toNat 10 - (m 9 - m 10)))
theorem c160 {w : PW} {Q : PO → PW → Prop} {m : Row} {x1 : Int} (hs : Sh w) (hB : BR w 1 m) (hF : RFin m) (hx1 : bd x1) (h : ∀ w', CF w w' → Q (sp160 m x1) w') : pC 160 [.ref 0, iv x1] w Q := by
  refine e160 hs hx1 ⟨fun q1 => ?_, fun q1 => sp_f (h w (CF.rf hs)) q1⟩
  have hr := fun w' hw => sp_t (h w' hw) q1
  obtain ⟨n, rfl⟩ := nat_of (show 0 ≤ x1 by omega)
  rw [Int.toNat_natCast] at hr
  obtain ⟨f1, f2⟩ := hF
  refine c37 hs bx14 hB (by decide) (fun w2 s2 b2 o2 => ⟨s2, c48 s2 b2 f1 (by omega) (by omega) (fun w4 s4 b4 o4 => ⟨s4, ?_⟩)⟩)
  have hC := ((CF.rf hs).ob s2 o2).ob s4 o4
  have b1 := hC.b1 hB
  rw [b4.pp, b4.pb, b1.pp, b1.pb]
  exact hr w4 hC
def sp162 (m : Row) (x : Int) : PO := spR 1 200 x (rI (rRun m x.toNat 10 - m 10))
theorem c162 {w : PW} {Q : PO → PW → Prop} {m : Row} {x1 : Int} (hs : Sh w) (hB : BR w 1 m) (hF : RFin m) (hx1 : bd x1) (h : ∀ w', CF w w' → Q (sp162 m x1) w') : pC 162 [.ref 0, iv x1] w Q := by
  refine e162 hs hx1 ⟨fun q1 => ?_, fun q1 => sp_f (h w (CF.rf hs)) q1⟩
  have hr := fun w' hw => sp_t (h w' hw) q1
  obtain ⟨n, rfl⟩ := nat_of (show 0 ≤ x1 by omega)
  rw [Int.toNat_natCast] at hr
  obtain ⟨f1, f2⟩ := hF
  refine c37 hs bx14 hB (by decide) (fun w2 s2 b2 o2 => ⟨s2, c48 s2 b2 f1 (by omega) (by omega) (fun w4 s4 b4 o4 => ⟨s4, ?_⟩)⟩)
  have hC := ((CF.rf hs).ob s2 o2).ob s4 o4
  have b1 := hC.b1 hB
  rw [b4.pb, b1.pb]
  exact hr w4 hC
def sFB (m : Row) (i : Nat) : Bool := decide (m 10 < rRun m (i + 1) 10)
def sp49 (m : Row) : PO := rI (if fnd (sFB m) (3 * (m 0).toNat) < 3 * (m 0).toNat then (fnd (sFB m) (3 * (m 0).toNat) : Int) else -1)
theorem l49 {w : PW} {Q : PO → PW → Prop} {m : Row} (hB : BR w 1 m) (hF : RFin m) (h : ∀ w', CF w w' → Q (sp49 m) w') : ∀ n i : Nat, i + n = 3 * (m 0).toNat → (∀ j, j < i → sFB m j = false) → ∀ w1 : PW, Sh w1 → CF w w1 → BR w1 14 (rRun m i) → pX 49 13 [some (.ref 0), some (iv (i : Nat))] [] w1 Q := by
  have h0 := hB.ok.s
  obtain ⟨f1, f2⟩ := hF
  intro n
  induction n with
  | zero =>
    intro i hi hI w1 s1 hC hD
    refine v49_13 s1 (bdk (by omega)) ?_
    rw [(hC.b1 hB).s]
    refine ⟨⟨by omega, by omega⟩, fun _ => ?_, fun q => by omega⟩
    have e : fnd (sFB m) (3 * (m 0).toNat) = i := fnd_eq hI (fun q => absurd q (by omega)) (by omega)
    have := h w1 hC
    unfold sp49 at this
    rw [e, if_neg (by omega)] at this
    exact this
  | succ n ih =>
    intro i hi hI w1 s1 hC hD
    obtain ⟨r1, r2, r3⟩ := rRun_ok hB.ok f1 i (by omega)
    refine v49_13 s1 (bdk (by omega)) ?_
    rw [(hC.b1 hB).s]
    refine ⟨⟨by omega, by omega⟩, fun q => by omega, fun _ => c48 (n := 1) s1 hD r2 (by omega) (by decide) (fun w2 s2 b2 o2 => ⟨s2, ?_⟩)⟩
    have hC2 := hC.ob s2 o2
    have e2 : rRun (rRun m i) 1 = rRun m (i + 1) := rfl
    rw [e2] at b2
    rw [show gI w2 (14 + 8) 4 = rRun m (i + 1) 10 from b2.pb, show gI w2 (1 + 8) 4 = m 10 from (hC2.b1 hB).pb]
    refine ⟨fun q => ih (i + 1) (by omega) (fun j hj => ?_) w2 s2 hC2 b2, fun q => ?_⟩
    · by_cases e : j = i
      · rw [e]; exact decide_eq_false (by omega)
      · exact hI j (by omega)
    · have e : fnd (sFB m) (3 * (m 0).toNat) = i := fnd_eq hI (fun _ => decide_eq_true q) (by omega)
      have := h w2 hC2
      unfold sp49 at this
      rw [e, if_pos (by omega)] at this
      exact this
theorem c49 {w : PW} {Q : PO → PW → Prop} {m : Row} (hs : Sh w) (hB : BR w 1 m) (hF : RFin m) (h : ∀ w', CF w w' → Q (sp49 m) w') : pC 49 [.ref 0] w Q :=
  e49 hs (c37 hs bx14 hB (by decide) (fun w2 s2 b2 o2 => ⟨s2, l49 hB hF h _ 0 (Nat.zero_add _) (fun j hj => absurd hj (Nat.not_lt_zero j)) w2 s2 ((CF.rf hs).ob s2 o2) b2⟩))
def sBz (m : Row) (u : Nat) : Int := rRun (mset m 6 u) (m 0).toNat 10
def sBTA (m : Row) : Nat → Int × Int
  | 0 => (0, 0)
  | u + 1 => if u = 0 ∨ sBz m u < (sBTA m u).2 then ((u : Int), sBz m u) else sBTA m u
def sp51 (m : Row) : PO := rI (sBTA m (m 1).toNat).1
theorem sBz_bd {m : Row} (h : RowOK m) (hF : RFin m) {u : Nat} (hu : (u : Int) < m 1) : bd (sBz m u) := by
  have hok : RowOK (mset m 6 u) := mset_ok h (Or.inr (Or.inr ⟨rfl, by omega, hu⟩))
  have h0 := h.s
  obtain ⟨f1, f2⟩ := hF
  have e8 : mset m 6 u 8 = m 8 := mset_ne (by decide)
  have e9 : mset m 6 u 9 = m 9 := mset_ne (by decide)
  obtain ⟨r1, r2, r3⟩ := rRun_ok hok (by rw [e8, e9]; exact f1) (m 0).toNat (by rw [e8]; omega)
  have h8 := r1.pt
  have h9 := r1.pp
  have h10 := r1.pb
  unfold sBz
  exact ⟨by omega, by omega⟩
theorem sBTA_bd {m : Row} (h : RowOK m) (hF : RFin m) : ∀ n : Nat, (n : Int) ≤ m 1 → 0 ≤ (sBTA m n).1 ∧ (sBTA m n).1 ≤ n ∧ bd (sBTA m n).2 := by
  intro n
  induction n with
  | zero => intro _; exact ⟨Int.le_refl _, Int.le_refl _, bd0⟩
  | succ n ih =>
    intro hn
    have := ih (by omega)
    unfold sBTA
    split
    · exact ⟨by show (0 : Int) ≤ (n : Int); omega, by show (n : Int) ≤ ((n + 1 : Nat) : Int); omega, sBz_bd h hF (by omega)⟩
    · exact ⟨this.1, by omega, this.2.2⟩
