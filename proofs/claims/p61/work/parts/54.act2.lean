/-! THE CLASS's FACE: actions -/
/-! 165: PinBarrel.addNote(III)I -/
theorem b165 : mB 165 = cX8_addNote := rfl
theorem r165 : mR 165 = (some .int) := rfl
theorem d165_0 : decode cX8_addNote 0 = .ok (.aload_n 0, 1) := by decide +kernel
theorem d165_1 : decode cX8_addNote 1 = .ok (.iload_n 1, 1) := by decide +kernel
theorem d165_2 : decode cX8_addNote 2 = .ok (.invokevirtual 189, 3) := by decide +kernel
theorem d165_5 : decode cX8_addNote 5 = .ok (.aload_n 0, 1) := by decide +kernel
theorem d165_6 : decode cX8_addNote 6 = .ok (.iload_n 2, 1) := by decide +kernel
theorem d165_7 : decode cX8_addNote 7 = .ok (.invokevirtual 192, 3) := by decide +kernel
theorem d165_10 : decode cX8_addNote 10 = .ok (.aload_n 0, 1) := by decide +kernel
theorem d165_11 : decode cX8_addNote 11 = .ok (.iload_n 3, 1) := by decide +kernel
theorem d165_12 : decode cX8_addNote 12 = .ok (.invokevirtual 289, 3) := by decide +kernel
theorem d165_15 : decode cX8_addNote 15 = .ok (.aload_n 0, 1) := by decide +kernel
theorem d165_16 : decode cX8_addNote 16 = .ok (.getfield 12, 3) := by decide +kernel
theorem d165_19 : decode cX8_addNote 19 = .ok (.getfield 87, 3) := by decide +kernel
theorem d165_22 : decode cX8_addNote 22 = .ok (.getfield 91, 3) := by decide +kernel
theorem d165_25 : decode cX8_addNote 25 = .ok (.bipush 60, 2) := by decide +kernel
theorem d165_27 : decode cX8_addNote 27 = .ok (.if_icmp .lt 6, 3) := by decide +kernel
theorem d165_30 : decode cX8_addNote 30 = .ok (.bipush (-2), 2) := by decide +kernel
theorem d165_32 : decode cX8_addNote 32 = .ok (.ireturn, 1) := by decide +kernel
theorem d165_33 : decode cX8_addNote 33 = .ok (.aload_n 0, 1) := by decide +kernel
theorem d165_34 : decode cX8_addNote 34 = .ok (.getfield 22, 3) := by decide +kernel
theorem d165_37 : decode cX8_addNote 37 = .ok (.aload_n 0, 1) := by decide +kernel
theorem d165_38 : decode cX8_addNote 38 = .ok (.getfield 12, 3) := by decide +kernel
theorem d165_41 : decode cX8_addNote 41 = .ok (.invokevirtual 326, 3) := by decide +kernel
theorem d165_44 : decode cX8_addNote 44 = .ok (.aload_n 0, 1) := by decide +kernel
theorem d165_45 : decode cX8_addNote 45 = .ok (.getfield 12, 3) := by decide +kernel
theorem d165_48 : decode cX8_addNote 48 = .ok (.getfield 87, 3) := by decide +kernel
theorem d165_51 : decode cX8_addNote 51 = .ok (.iload_n 1, 1) := by decide +kernel
theorem d165_52 : decode cX8_addNote 52 = .ok (.iload_n 2, 1) := by decide +kernel
theorem d165_53 : decode cX8_addNote 53 = .ok (.iload_n 3, 1) := by decide +kernel
theorem d165_54 : decode cX8_addNote 54 = .ok (.invokevirtual 329, 3) := by decide +kernel
theorem d165_57 : decode cX8_addNote 57 = .ok (.aload_n 0, 1) := by decide +kernel
theorem d165_58 : decode cX8_addNote 58 = .ok (.getfield 12, 3) := by decide +kernel
theorem d165_61 : decode cX8_addNote 61 = .ok (.getfield 87, 3) := by decide +kernel
theorem d165_64 : decode cX8_addNote 64 = .ok (.getfield 91, 3) := by decide +kernel
theorem d165_67 : decode cX8_addNote 67 = .ok (.iconst 1, 1) := by decide +kernel
theorem d165_68 : decode cX8_addNote 68 = .ok (.isub, 1) := by decide +kernel
theorem d165_69 : decode cX8_addNote 69 = .ok (.ireturn, 1) := by decide +kernel
theorem v165_0 {w : PW} {Q : PO → PW → Prop} {x1 : Int} {x2 : Int} {x3 : Int} (hs : Sh w) (hx1 : bd x1) (hx2 : bd x2) (hx3 : bd x3) (h : (bd ((gI w 1 1) - 1)) ∧ ((0 ≤ x1 ∧ x1 < gI w 1 1) → (bd ((gI w 1 0) - 1)) ∧ ((0 ≤ x2 ∧ x2 < gI w 1 0) → ((0 ≤ x3 ∧ x3 ≤ 23) → ((gI w (1 + 4) 0) < 60 → pC 164 [.ref 27, .ref 1] w (kV fun w5 => Sh w5 ∧ pC 26 [.ref (1 + 4), iv x1, iv x2, iv x3] w5 (kV fun w7 => Sh w7 ∧ Q (.inl (some (iv ((gI w7 (1 + 4) 0) - 1)))) w7))) ∧ (60 ≤ (gI w (1 + 4) 0) → Q (.inl (some (iv ((-2))))) w)) ∧ (¬ (0 ≤ x3 ∧ x3 ≤ 23) → Q (.inr 1) w)) ∧ (¬ (0 ≤ x2 ∧ x2 < gI w 1 0) → Q (.inr 1) w)) ∧ (¬ (0 ≤ x1 ∧ x1 < gI w 1 1) → Q (.inr 1) w)) : pX 165 0 [some (.ref 0), some (iv x1), some (iv x2), some (iv x3)] [] w Q :=
  w_f b165 d165_0 rfl rfl rfl <| w_f b165 d165_1 rfl rfl rfl <| w_cc b165 d165_2 rfl (pcl_v (n := 1) rfl rfl rfl (by decide +kernel) (sh_isOb hs (tlt 0 rfl) tbC_0) rfl rfl) rfl <| c77 hs hx1 h.1 (fun c1 => w_f b165 d165_5 rfl rfl rfl <| w_f b165 d165_6 rfl rfl rfl <| w_cc b165 d165_7 rfl (pcl_v (n := 1) rfl rfl rfl (by decide +kernel) (sh_isOb hs (tlt 0 rfl) tbC_0) rfl rfl) rfl <| c78 hs hx2 (h.2.1 c1).1 (fun c2 => w_f b165 d165_10 rfl rfl rfl <| w_f b165 d165_11 rfl rfl rfl <| w_cc b165 d165_12 rfl (pcl_v (n := 1) rfl rfl rfl (by decide +kernel) (sh_isOb hs (tlt 0 rfl) tbC_0) rfl rfl) rfl <| c146 hs hx3 (fun c3 => w_f b165 d165_15 rfl rfl rfl <| w_gr b165 d165_16 rfl rfl hs (tlt 0 rfl) tbC_0 rfl (bxr0 (bxc 1 rfl)) <| w_gr b165 d165_19 rfl rfl hs (bx00 (bxc 1 rfl)) (tb0 (bxc 1 rfl)) rfl (bxr (bxc 1 rfl) 4 rfl) <| w_gi b165 d165_22 rfl rfl hs (bxk (bxc 1 rfl) 4 rfl) (tb4 (bxc 1 rfl)) rfl <| w_f b165 d165_25 rfl rfl rfl <| w_iclt b165 d165_27 rfl rfl (by decide +kernel) (bd_gI _ _ _) ⟨by decide, by decide⟩ (fun c4 => w_f b165 d165_33 rfl rfl rfl <| w_gr b165 d165_34 rfl rfl hs (tlt 0 rfl) tbC_0 rfl (by decide) <| w_f b165 d165_37 rfl rfl rfl <| w_gr b165 d165_38 rfl rfl hs (tlt 0 rfl) tbC_0 rfl (bxr0 (bxc 1 rfl)) <| w_c b165 d165_41 rfl (pcl_v (n := 1) rfl rfl rfl (by decide +kernel) (sh_isOb hs (tlt 27 rfl) tbC_27) rfl rfl) rfl _ (hK_V fun w5 hkw5 => w_f b165 d165_44 rfl rfl rfl <| w_gr b165 d165_45 rfl rfl hkw5.1 (tlt 0 rfl) tbC_0 rfl (bxr0 (bxc 1 rfl)) <| w_gr b165 d165_48 rfl rfl hkw5.1 (bx00 (bxc 1 rfl)) (tb0 (bxc 1 rfl)) rfl (bxr (bxc 1 rfl) 4 rfl) <| w_f b165 d165_51 rfl rfl rfl <| w_f b165 d165_52 rfl rfl rfl <| w_f b165 d165_53 rfl rfl rfl <| w_c b165 d165_54 rfl (pcl_v (n := 3) rfl rfl rfl (by decide +kernel) (sh_isOb hkw5.1 (bxk (bxc 1 rfl) 4 rfl) (tb4 (bxc 1 rfl))) rfl rfl) rfl _ (hK_V fun w7 hkw7 => w_f b165 d165_57 rfl rfl rfl <| w_gr b165 d165_58 rfl rfl hkw7.1 (tlt 0 rfl) tbC_0 rfl (bxr0 (bxc 1 rfl)) <| w_gr b165 d165_61 rfl rfl hkw7.1 (bx00 (bxc 1 rfl)) (tb0 (bxc 1 rfl)) rfl (bxr (bxc 1 rfl) 4 rfl) <| w_gi b165 d165_64 rfl rfl hkw7.1 (bxk (bxc 1 rfl) 4 rfl) (tb4 (bxc 1 rfl)) rfl <| w_f b165 d165_67 rfl rfl rfl <| w_f b165 d165_68 rfl (pf_isub _ 1) rfl <| w_ri b165 d165_69 r165 hkw7.2) hkw5.2) ((((h.2.1 c1).2.1 c2).1 c3).1 c4)) (fun c4 => w_f b165 d165_30 rfl rfl rfl <| w_ri b165 d165_32 r165 ((((h.2.1 c1).2.1 c2).1 c3).2 c4))) (fun c3 => ((h.2.1 c1).2.1 c2).2 c3)) (fun c2 => (h.2.1 c1).2.2 c2)) (fun c1 => h.2.2 c1)
theorem e165 {w : PW} {Q : PO → PW → Prop} {x1 : Int} {x2 : Int} {x3 : Int} (hs : Sh w) (hx1 : bd x1) (hx2 : bd x2) (hx3 : bd x3) (h : (bd ((gI w 1 1) - 1)) ∧ ((0 ≤ x1 ∧ x1 < gI w 1 1) → (bd ((gI w 1 0) - 1)) ∧ ((0 ≤ x2 ∧ x2 < gI w 1 0) → ((0 ≤ x3 ∧ x3 ≤ 23) → ((gI w (1 + 4) 0) < 60 → pC 164 [.ref 27, .ref 1] w (kV fun w5 => Sh w5 ∧ pC 26 [.ref (1 + 4), iv x1, iv x2, iv x3] w5 (kV fun w7 => Sh w7 ∧ Q (.inl (some (iv ((gI w7 (1 + 4) 0) - 1)))) w7))) ∧ (60 ≤ (gI w (1 + 4) 0) → Q (.inl (some (iv ((-2))))) w)) ∧ (¬ (0 ≤ x3 ∧ x3 ≤ 23) → Q (.inr 1) w)) ∧ (¬ (0 ≤ x2 ∧ x2 < gI w 1 0) → Q (.inr 1) w)) ∧ (¬ (0 ≤ x1 ∧ x1 < gI w 1 1) → Q (.inr 1) w)) : pC 165 [.ref 0, iv x1, iv x2, iv x3] w Q :=
  (pC_in (Nat.le_of_ble_eq_true rfl) rfl Q).mpr (v165_0 hs hx1 hx2 hx3 h)
/-! 168: PinBarrel.dropNote(I)I -/
theorem b168 : mB 168 = cX8_dropNote := rfl
theorem r168 : mR 168 = (some .int) := rfl
theorem d168_0 : decode cX8_dropNote 0 = .ok (.aload_n 0, 1) := by decide +kernel
theorem d168_1 : decode cX8_dropNote 1 = .ok (.iload_n 1, 1) := by decide +kernel
theorem d168_2 : decode cX8_dropNote 2 = .ok (.invokevirtual 178, 3) := by decide +kernel
theorem d168_5 : decode cX8_dropNote 5 = .ok (.aload_n 0, 1) := by decide +kernel
theorem d168_6 : decode cX8_dropNote 6 = .ok (.getfield 22, 3) := by decide +kernel
theorem d168_9 : decode cX8_dropNote 9 = .ok (.aload_n 0, 1) := by decide +kernel
theorem d168_10 : decode cX8_dropNote 10 = .ok (.getfield 12, 3) := by decide +kernel
theorem d168_13 : decode cX8_dropNote 13 = .ok (.invokevirtual 326, 3) := by decide +kernel
theorem d168_16 : decode cX8_dropNote 16 = .ok (.aload_n 0, 1) := by decide +kernel
theorem d168_17 : decode cX8_dropNote 17 = .ok (.getfield 12, 3) := by decide +kernel
theorem d168_20 : decode cX8_dropNote 20 = .ok (.getfield 87, 3) := by decide +kernel
theorem d168_23 : decode cX8_dropNote 23 = .ok (.iload_n 1, 1) := by decide +kernel
theorem d168_24 : decode cX8_dropNote 24 = .ok (.invokevirtual 332, 3) := by decide +kernel
theorem d168_27 : decode cX8_dropNote 27 = .ok (.aload_n 0, 1) := by decide +kernel
theorem d168_28 : decode cX8_dropNote 28 = .ok (.getfield 12, 3) := by decide +kernel
theorem d168_31 : decode cX8_dropNote 31 = .ok (.getfield 87, 3) := by decide +kernel
theorem d168_34 : decode cX8_dropNote 34 = .ok (.getfield 91, 3) := by decide +kernel
theorem d168_37 : decode cX8_dropNote 37 = .ok (.ireturn, 1) := by decide +kernel
theorem v168_0 {w : PW} {Q : PO → PW → Prop} {x1 : Int} (hs : Sh w) (hx1 : bd x1) (h : ((0 ≤ x1 ∧ x1 < gI w 5 0) → pC 164 [.ref 27, .ref 1] w (kV fun w2 => Sh w2 ∧ pC 167 [.ref (1 + 4), iv x1] w2 (kV fun w4 => Sh w4 ∧ Q (.inl (some (iv (gI w4 (1 + 4) 0)))) w4))) ∧ (¬ (0 ≤ x1 ∧ x1 < gI w 5 0) → Q (.inr 2) w)) : pX 168 0 [some (.ref 0), some (iv x1)] [] w Q :=
  w_f b168 d168_0 rfl rfl rfl <| w_f b168 d168_1 rfl rfl rfl <| w_cc b168 d168_2 rfl (pcl_v (n := 1) rfl rfl rfl (by decide +kernel) (sh_isOb hs (tlt 0 rfl) tbC_0) rfl rfl) rfl <| c71 hs hx1 (fun c1 => w_f b168 d168_5 rfl rfl rfl <| w_gr b168 d168_6 rfl rfl hs (tlt 0 rfl) tbC_0 rfl (by decide) <| w_f b168 d168_9 rfl rfl rfl <| w_gr b168 d168_10 rfl rfl hs (tlt 0 rfl) tbC_0 rfl (bxr0 (bxc 1 rfl)) <| w_c b168 d168_13 rfl (pcl_v (n := 1) rfl rfl rfl (by decide +kernel) (sh_isOb hs (tlt 27 rfl) tbC_27) rfl rfl) rfl _ (hK_V fun w2 hkw2 => w_f b168 d168_16 rfl rfl rfl <| w_gr b168 d168_17 rfl rfl hkw2.1 (tlt 0 rfl) tbC_0 rfl (bxr0 (bxc 1 rfl)) <| w_gr b168 d168_20 rfl rfl hkw2.1 (bx00 (bxc 1 rfl)) (tb0 (bxc 1 rfl)) rfl (bxr (bxc 1 rfl) 4 rfl) <| w_f b168 d168_23 rfl rfl rfl <| w_c b168 d168_24 rfl (pcl_v (n := 1) rfl rfl rfl (by decide +kernel) (sh_isOb hkw2.1 (bxk (bxc 1 rfl) 4 rfl) (tb4 (bxc 1 rfl))) rfl rfl) rfl _ (hK_V fun w4 hkw4 => w_f b168 d168_27 rfl rfl rfl <| w_gr b168 d168_28 rfl rfl hkw4.1 (tlt 0 rfl) tbC_0 rfl (bxr0 (bxc 1 rfl)) <| w_gr b168 d168_31 rfl rfl hkw4.1 (bx00 (bxc 1 rfl)) (tb0 (bxc 1 rfl)) rfl (bxr (bxc 1 rfl) 4 rfl) <| w_gi b168 d168_34 rfl rfl hkw4.1 (bxk (bxc 1 rfl) 4 rfl) (tb4 (bxc 1 rfl)) rfl <| w_ri b168 d168_37 r168 hkw4.2) hkw2.2) (h.1 c1)) (fun c1 => h.2 c1)
theorem e168 {w : PW} {Q : PO → PW → Prop} {x1 : Int} (hs : Sh w) (hx1 : bd x1) (h : ((0 ≤ x1 ∧ x1 < gI w 5 0) → pC 164 [.ref 27, .ref 1] w (kV fun w2 => Sh w2 ∧ pC 167 [.ref (1 + 4), iv x1] w2 (kV fun w4 => Sh w4 ∧ Q (.inl (some (iv (gI w4 (1 + 4) 0)))) w4))) ∧ (¬ (0 ≤ x1 ∧ x1 < gI w 5 0) → Q (.inr 2) w)) : pC 168 [.ref 0, iv x1] w Q :=
  (pC_in (Nat.le_of_ble_eq_true rfl) rfl Q).mpr (v168_0 hs hx1 h)
/-! 170: PinBarrel.addTooth(II)I -/
theorem b170 : mB 170 = cX8_addTooth := rfl
theorem r170 : mR 170 = (some .int) := rfl
theorem d170_0 : decode cX8_addTooth 0 = .ok (.aload_n 0, 1) := by decide +kernel
theorem d170_1 : decode cX8_addTooth 1 = .ok (.iload_n 1, 1) := by decide +kernel
theorem d170_2 : decode cX8_addTooth 2 = .ok (.invokevirtual 289, 3) := by decide +kernel
theorem d170_5 : decode cX8_addTooth 5 = .ok (.aload_n 0, 1) := by decide +kernel
theorem d170_6 : decode cX8_addTooth 6 = .ok (.iload_n 2, 1) := by decide +kernel
theorem d170_7 : decode cX8_addTooth 7 = .ok (.iconst 1, 1) := by decide +kernel
theorem d170_8 : decode cX8_addTooth 8 = .ok (.bipush 12, 2) := by decide +kernel
theorem d170_10 : decode cX8_addTooth 10 = .ok (.invokevirtual 223, 3) := by decide +kernel
theorem d170_13 : decode cX8_addTooth 13 = .ok (.aload_n 0, 1) := by decide +kernel
theorem d170_14 : decode cX8_addTooth 14 = .ok (.getfield 12, 3) := by decide +kernel
theorem d170_17 : decode cX8_addTooth 17 = .ok (.getfield 108, 3) := by decide +kernel
theorem d170_20 : decode cX8_addTooth 20 = .ok (.bipush 12, 2) := by decide +kernel
theorem d170_22 : decode cX8_addTooth 22 = .ok (.if_icmp .lt 6, 3) := by decide +kernel
theorem d170_25 : decode cX8_addTooth 25 = .ok (.bipush (-2), 2) := by decide +kernel
theorem d170_27 : decode cX8_addTooth 27 = .ok (.ireturn, 1) := by decide +kernel
theorem d170_28 : decode cX8_addTooth 28 = .ok (.aload_n 0, 1) := by decide +kernel
theorem d170_29 : decode cX8_addTooth 29 = .ok (.getfield 22, 3) := by decide +kernel
theorem d170_32 : decode cX8_addTooth 32 = .ok (.aload_n 0, 1) := by decide +kernel
theorem d170_33 : decode cX8_addTooth 33 = .ok (.getfield 12, 3) := by decide +kernel
theorem d170_36 : decode cX8_addTooth 36 = .ok (.invokevirtual 326, 3) := by decide +kernel
theorem d170_39 : decode cX8_addTooth 39 = .ok (.aload_n 0, 1) := by decide +kernel
theorem d170_40 : decode cX8_addTooth 40 = .ok (.getfield 12, 3) := by decide +kernel
theorem d170_43 : decode cX8_addTooth 43 = .ok (.iload_n 1, 1) := by decide +kernel
theorem d170_44 : decode cX8_addTooth 44 = .ok (.iload_n 2, 1) := by decide +kernel
theorem d170_45 : decode cX8_addTooth 45 = .ok (.invokevirtual 282, 3) := by decide +kernel
theorem d170_48 : decode cX8_addTooth 48 = .ok (.aload_n 0, 1) := by decide +kernel
theorem d170_49 : decode cX8_addTooth 49 = .ok (.getfield 12, 3) := by decide +kernel
theorem d170_52 : decode cX8_addTooth 52 = .ok (.getfield 108, 3) := by decide +kernel
theorem d170_55 : decode cX8_addTooth 55 = .ok (.iconst 1, 1) := by decide +kernel
theorem d170_56 : decode cX8_addTooth 56 = .ok (.isub, 1) := by decide +kernel
theorem d170_57 : decode cX8_addTooth 57 = .ok (.ireturn, 1) := by decide +kernel
theorem v170_0 {w : PW} {Q : PO → PW → Prop} {x1 : Int} {x2 : Int} (hs : Sh w) (hx1 : bd x1) (hx2 : bd x2) (h : ((0 ≤ x1 ∧ x1 ≤ 23) → ((1 ≤ x2 ∧ x2 ≤ 12) → ((gI w 1 4) < 12 → pC 164 [.ref 27, .ref 1] w (kV fun w4 => Sh w4 ∧ pC 24 [.ref 1, iv x1, iv x2] w4 (kV fun w6 => Sh w6 ∧ Q (.inl (some (iv ((gI w6 1 4) - 1)))) w6))) ∧ (12 ≤ (gI w 1 4) → Q (.inl (some (iv ((-2))))) w)) ∧ (¬ (1 ≤ x2 ∧ x2 ≤ 12) → Q (.inr 1) w)) ∧ (¬ (0 ≤ x1 ∧ x1 ≤ 23) → Q (.inr 1) w)) : pX 170 0 [some (.ref 0), some (iv x1), some (iv x2)] [] w Q :=
  w_f b170 d170_0 rfl rfl rfl <| w_f b170 d170_1 rfl rfl rfl <| w_cc b170 d170_2 rfl (pcl_v (n := 1) rfl rfl rfl (by decide +kernel) (sh_isOb hs (tlt 0 rfl) tbC_0) rfl rfl) rfl <| c146 hs hx1 (fun c1 => w_f b170 d170_5 rfl rfl rfl <| w_f b170 d170_6 rfl rfl rfl <| w_f b170 d170_7 rfl rfl rfl <| w_f b170 d170_8 rfl rfl rfl <| w_cc b170 d170_10 rfl (pcl_v (n := 3) rfl rfl rfl (by decide +kernel) (sh_isOb hs (tlt 0 rfl) tbC_0) rfl rfl) rfl <| c76 hs hx2 ⟨by decide, by decide⟩ ⟨by decide, by decide⟩ (fun c2 => w_f b170 d170_13 rfl rfl rfl <| w_gr b170 d170_14 rfl rfl hs (tlt 0 rfl) tbC_0 rfl (bxr0 (bxc 1 rfl)) <| w_gi b170 d170_17 rfl rfl hs (bx00 (bxc 1 rfl)) (tb0 (bxc 1 rfl)) rfl <| w_f b170 d170_20 rfl rfl rfl <| w_iclt b170 d170_22 rfl rfl (by decide +kernel) (bd_gI _ _ _) ⟨by decide, by decide⟩ (fun c3 => w_f b170 d170_28 rfl rfl rfl <| w_gr b170 d170_29 rfl rfl hs (tlt 0 rfl) tbC_0 rfl (by decide) <| w_f b170 d170_32 rfl rfl rfl <| w_gr b170 d170_33 rfl rfl hs (tlt 0 rfl) tbC_0 rfl (bxr0 (bxc 1 rfl)) <| w_c b170 d170_36 rfl (pcl_v (n := 1) rfl rfl rfl (by decide +kernel) (sh_isOb hs (tlt 27 rfl) tbC_27) rfl rfl) rfl _ (hK_V fun w4 hkw4 => w_f b170 d170_39 rfl rfl rfl <| w_gr b170 d170_40 rfl rfl hkw4.1 (tlt 0 rfl) tbC_0 rfl (bxr0 (bxc 1 rfl)) <| w_f b170 d170_43 rfl rfl rfl <| w_f b170 d170_44 rfl rfl rfl <| w_c b170 d170_45 rfl (pcl_v (n := 2) rfl rfl rfl (by decide +kernel) (sh_isOb hkw4.1 (bx00 (bxc 1 rfl)) (tb0 (bxc 1 rfl))) rfl rfl) rfl _ (hK_V fun w6 hkw6 => w_f b170 d170_48 rfl rfl rfl <| w_gr b170 d170_49 rfl rfl hkw6.1 (tlt 0 rfl) tbC_0 rfl (bxr0 (bxc 1 rfl)) <| w_gi b170 d170_52 rfl rfl hkw6.1 (bx00 (bxc 1 rfl)) (tb0 (bxc 1 rfl)) rfl <| w_f b170 d170_55 rfl rfl rfl <| w_f b170 d170_56 rfl (pf_isub _ 1) rfl <| w_ri b170 d170_57 r170 hkw6.2) hkw4.2) (((h.1 c1).1 c2).1 c3)) (fun c3 => w_f b170 d170_25 rfl rfl rfl <| w_ri b170 d170_27 r170 (((h.1 c1).1 c2).2 c3))) (fun c2 => (h.1 c1).2 c2)) (fun c1 => h.2 c1)
theorem e170 {w : PW} {Q : PO → PW → Prop} {x1 : Int} {x2 : Int} (hs : Sh w) (hx1 : bd x1) (hx2 : bd x2) (h : ((0 ≤ x1 ∧ x1 ≤ 23) → ((1 ≤ x2 ∧ x2 ≤ 12) → ((gI w 1 4) < 12 → pC 164 [.ref 27, .ref 1] w (kV fun w4 => Sh w4 ∧ pC 24 [.ref 1, iv x1, iv x2] w4 (kV fun w6 => Sh w6 ∧ Q (.inl (some (iv ((gI w6 1 4) - 1)))) w6))) ∧ (12 ≤ (gI w 1 4) → Q (.inl (some (iv ((-2))))) w)) ∧ (¬ (1 ≤ x2 ∧ x2 ≤ 12) → Q (.inr 1) w)) ∧ (¬ (0 ≤ x1 ∧ x1 ≤ 23) → Q (.inr 1) w)) : pC 170 [.ref 0, iv x1, iv x2] w Q :=
  (pC_in (Nat.le_of_ble_eq_true rfl) rfl Q).mpr (v170_0 hs hx1 hx2 h)
/-! 172: PinBarrel.setRest(II)I -/
theorem b172 : mB 172 = cX8_setRest := rfl
theorem r172 : mR 172 = (some .int) := rfl
theorem d172_0 : decode cX8_setRest 0 = .ok (.aload_n 0, 1) := by decide +kernel
theorem d172_1 : decode cX8_setRest 1 = .ok (.iload_n 1, 1) := by decide +kernel
theorem d172_2 : decode cX8_setRest 2 = .ok (.invokevirtual 147, 3) := by decide +kernel
theorem d172_5 : decode cX8_setRest 5 = .ok (.aload_n 0, 1) := by decide +kernel
theorem d172_6 : decode cX8_setRest 6 = .ok (.iload_n 2, 1) := by decide +kernel
theorem d172_7 : decode cX8_setRest 7 = .ok (.iconst 1, 1) := by decide +kernel
theorem d172_8 : decode cX8_setRest 8 = .ok (.bipush 12, 2) := by decide +kernel
theorem d172_10 : decode cX8_setRest 10 = .ok (.invokevirtual 223, 3) := by decide +kernel
theorem d172_13 : decode cX8_setRest 13 = .ok (.aload_n 0, 1) := by decide +kernel
theorem d172_14 : decode cX8_setRest 14 = .ok (.getfield 22, 3) := by decide +kernel
theorem d172_17 : decode cX8_setRest 17 = .ok (.aload_n 0, 1) := by decide +kernel
theorem d172_18 : decode cX8_setRest 18 = .ok (.getfield 12, 3) := by decide +kernel
theorem d172_21 : decode cX8_setRest 21 = .ok (.invokevirtual 326, 3) := by decide +kernel
theorem d172_24 : decode cX8_setRest 24 = .ok (.aload_n 0, 1) := by decide +kernel
theorem d172_25 : decode cX8_setRest 25 = .ok (.getfield 12, 3) := by decide +kernel
theorem d172_28 : decode cX8_setRest 28 = .ok (.getfield 155, 3) := by decide +kernel
theorem d172_31 : decode cX8_setRest 31 = .ok (.iload_n 1, 1) := by decide +kernel
theorem d172_32 : decode cX8_setRest 32 = .ok (.iaload, 1) := by decide +kernel
theorem d172_33 : decode cX8_setRest 33 = .ok (.istore_n 3, 1) := by decide +kernel
theorem d172_34 : decode cX8_setRest 34 = .ok (.aload_n 0, 1) := by decide +kernel
theorem d172_35 : decode cX8_setRest 35 = .ok (.getfield 12, 3) := by decide +kernel
theorem d172_38 : decode cX8_setRest 38 = .ok (.getfield 155, 3) := by decide +kernel
theorem d172_41 : decode cX8_setRest 41 = .ok (.iload_n 1, 1) := by decide +kernel
theorem d172_42 : decode cX8_setRest 42 = .ok (.iload_n 2, 1) := by decide +kernel
theorem d172_43 : decode cX8_setRest 43 = .ok (.iastore, 1) := by decide +kernel
theorem d172_44 : decode cX8_setRest 44 = .ok (.iload_n 3, 1) := by decide +kernel
theorem d172_45 : decode cX8_setRest 45 = .ok (.ireturn, 1) := by decide +kernel
theorem v172_0 {w : PW} {Q : PO → PW → Prop} {x1 : Int} {x2 : Int} (hs : Sh w) (hx1 : bd x1) (hx2 : bd x2) (h : ((0 ≤ x1 ∧ x1 < gI w 1 4) → ((1 ≤ x2 ∧ x2 ≤ 12) → pC 164 [.ref 27, .ref 1] w (kV fun w3 => Sh w3 ∧ (0 ≤ x1 ∧ x1 < 12) ∧ (0 ≤ x1 ∧ x1 < 12) ∧ ∀ w5 : PW, w5 = sI w3 (1 + 2) x1.toNat x2 → Q (.inl (some (iv (gI w3 (1 + 2) x1.toNat)))) w5)) ∧ (¬ (1 ≤ x2 ∧ x2 ≤ 12) → Q (.inr 1) w)) ∧ (¬ (0 ≤ x1 ∧ x1 < gI w 1 4) → Q (.inr 2) w)) : pX 172 0 [some (.ref 0), some (iv x1), some (iv x2), none] [] w Q :=
  w_f b172 d172_0 rfl rfl rfl <| w_f b172 d172_1 rfl rfl rfl <| w_cc b172 d172_2 rfl (pcl_v (n := 1) rfl rfl rfl (by decide +kernel) (sh_isOb hs (tlt 0 rfl) tbC_0) rfl rfl) rfl <| c67 hs hx1 (fun c1 => w_f b172 d172_5 rfl rfl rfl <| w_f b172 d172_6 rfl rfl rfl <| w_f b172 d172_7 rfl rfl rfl <| w_f b172 d172_8 rfl rfl rfl <| w_cc b172 d172_10 rfl (pcl_v (n := 3) rfl rfl rfl (by decide +kernel) (sh_isOb hs (tlt 0 rfl) tbC_0) rfl rfl) rfl <| c76 hs hx2 ⟨by decide, by decide⟩ ⟨by decide, by decide⟩ (fun c2 => w_f b172 d172_13 rfl rfl rfl <| w_gr b172 d172_14 rfl rfl hs (tlt 0 rfl) tbC_0 rfl (by decide) <| w_f b172 d172_17 rfl rfl rfl <| w_gr b172 d172_18 rfl rfl hs (tlt 0 rfl) tbC_0 rfl (bxr0 (bxc 1 rfl)) <| w_c b172 d172_21 rfl (pcl_v (n := 1) rfl rfl rfl (by decide +kernel) (sh_isOb hs (tlt 27 rfl) tbC_27) rfl rfl) rfl _ (hK_V fun w3 hkw3 => w_f b172 d172_24 rfl rfl rfl <| w_gr b172 d172_25 rfl rfl hkw3.1 (tlt 0 rfl) tbC_0 rfl (bxr0 (bxc 1 rfl)) <| w_gr b172 d172_28 rfl rfl hkw3.1 (bx00 (bxc 1 rfl)) (tb0 (bxc 1 rfl)) rfl (bxr (bxc 1 rfl) 2 rfl) <| w_f b172 d172_31 rfl rfl rfl <| w_ial b172 d172_32 rfl hkw3.1 (bxk (bxc 1 rfl) 2 rfl) (tb2 (bxc 1 rfl)) (bdix (n := 12) hkw3.2.1 rfl) hkw3.2.1 <| w_f b172 d172_33 rfl rfl rfl <| w_f b172 d172_34 rfl rfl rfl <| w_gr b172 d172_35 rfl rfl hkw3.1 (tlt 0 rfl) tbC_0 rfl (bxr0 (bxc 1 rfl)) <| w_gr b172 d172_38 rfl rfl hkw3.1 (bx00 (bxc 1 rfl)) (tb0 (bxc 1 rfl)) rfl (bxr (bxc 1 rfl) 2 rfl) <| w_f b172 d172_41 rfl rfl rfl <| w_f b172 d172_42 rfl rfl rfl <| w_ias b172 d172_43 rfl hkw3.1 (bxk (bxc 1 rfl) 2 rfl) (tb2 (bxc 1 rfl)) (bdix (n := 12) hkw3.2.2.1 rfl) hkw3.2.2.1 <| w_f b172 d172_44 rfl rfl rfl <| w_ri b172 d172_45 r172 (hkw3.2.2.2 _ rfl)) ((h.1 c1).1 c2)) (fun c2 => (h.1 c1).2 c2)) (fun c1 => h.2 c1)
theorem e172 {w : PW} {Q : PO → PW → Prop} {x1 : Int} {x2 : Int} (hs : Sh w) (hx1 : bd x1) (hx2 : bd x2) (h : ((0 ≤ x1 ∧ x1 < gI w 1 4) → ((1 ≤ x2 ∧ x2 ≤ 12) → pC 164 [.ref 27, .ref 1] w (kV fun w3 => Sh w3 ∧ (0 ≤ x1 ∧ x1 < 12) ∧ (0 ≤ x1 ∧ x1 < 12) ∧ ∀ w5 : PW, w5 = sI w3 (1 + 2) x1.toNat x2 → Q (.inl (some (iv (gI w3 (1 + 2) x1.toNat)))) w5)) ∧ (¬ (1 ≤ x2 ∧ x2 ≤ 12) → Q (.inr 1) w)) ∧ (¬ (0 ≤ x1 ∧ x1 < gI w 1 4) → Q (.inr 2) w)) : pC 172 [.ref 0, iv x1, iv x2] w Q :=
  (pC_in (Nat.le_of_ble_eq_true rfl) rfl Q).mpr (v172_0 hs hx1 hx2 h)
/-! 174: PinBarrel.retune(II)I -/
theorem b174 : mB 174 = cX8_retune := rfl
theorem r174 : mR 174 = (some .int) := rfl
theorem d174_0 : decode cX8_retune 0 = .ok (.aload_n 0, 1) := by decide +kernel
theorem d174_1 : decode cX8_retune 1 = .ok (.iload_n 1, 1) := by decide +kernel
theorem d174_2 : decode cX8_retune 2 = .ok (.invokevirtual 147, 3) := by decide +kernel
theorem d174_5 : decode cX8_retune 5 = .ok (.aload_n 0, 1) := by decide +kernel
theorem d174_6 : decode cX8_retune 6 = .ok (.iload_n 2, 1) := by decide +kernel
theorem d174_7 : decode cX8_retune 7 = .ok (.invokevirtual 289, 3) := by decide +kernel
theorem d174_10 : decode cX8_retune 10 = .ok (.aload_n 0, 1) := by decide +kernel
theorem d174_11 : decode cX8_retune 11 = .ok (.getfield 22, 3) := by decide +kernel
theorem d174_14 : decode cX8_retune 14 = .ok (.aload_n 0, 1) := by decide +kernel
theorem d174_15 : decode cX8_retune 15 = .ok (.getfield 12, 3) := by decide +kernel
theorem d174_18 : decode cX8_retune 18 = .ok (.invokevirtual 326, 3) := by decide +kernel
theorem d174_21 : decode cX8_retune 21 = .ok (.aload_n 0, 1) := by decide +kernel
theorem d174_22 : decode cX8_retune 22 = .ok (.getfield 12, 3) := by decide +kernel
theorem d174_25 : decode cX8_retune 25 = .ok (.getfield 151, 3) := by decide +kernel
theorem d174_28 : decode cX8_retune 28 = .ok (.iload_n 1, 1) := by decide +kernel
theorem d174_29 : decode cX8_retune 29 = .ok (.iaload, 1) := by decide +kernel
theorem d174_30 : decode cX8_retune 30 = .ok (.istore_n 3, 1) := by decide +kernel
theorem d174_31 : decode cX8_retune 31 = .ok (.aload_n 0, 1) := by decide +kernel
theorem d174_32 : decode cX8_retune 32 = .ok (.getfield 12, 3) := by decide +kernel
theorem d174_35 : decode cX8_retune 35 = .ok (.getfield 151, 3) := by decide +kernel
theorem d174_38 : decode cX8_retune 38 = .ok (.iload_n 1, 1) := by decide +kernel
theorem d174_39 : decode cX8_retune 39 = .ok (.iload_n 2, 1) := by decide +kernel
theorem d174_40 : decode cX8_retune 40 = .ok (.iastore, 1) := by decide +kernel
theorem d174_41 : decode cX8_retune 41 = .ok (.iload_n 3, 1) := by decide +kernel
theorem d174_42 : decode cX8_retune 42 = .ok (.ireturn, 1) := by decide +kernel
theorem v174_0 {w : PW} {Q : PO → PW → Prop} {x1 : Int} {x2 : Int} (hs : Sh w) (hx1 : bd x1) (hx2 : bd x2) (h : ((0 ≤ x1 ∧ x1 < gI w 1 4) → ((0 ≤ x2 ∧ x2 ≤ 23) → pC 164 [.ref 27, .ref 1] w (kV fun w3 => Sh w3 ∧ (0 ≤ x1 ∧ x1 < 12) ∧ (0 ≤ x1 ∧ x1 < 12) ∧ ∀ w5 : PW, w5 = sI w3 (1 + 1) x1.toNat x2 → Q (.inl (some (iv (gI w3 (1 + 1) x1.toNat)))) w5)) ∧ (¬ (0 ≤ x2 ∧ x2 ≤ 23) → Q (.inr 1) w)) ∧ (¬ (0 ≤ x1 ∧ x1 < gI w 1 4) → Q (.inr 2) w)) : pX 174 0 [some (.ref 0), some (iv x1), some (iv x2), none] [] w Q :=
  w_f b174 d174_0 rfl rfl rfl <| w_f b174 d174_1 rfl rfl rfl <| w_cc b174 d174_2 rfl (pcl_v (n := 1) rfl rfl rfl (by decide +kernel) (sh_isOb hs (tlt 0 rfl) tbC_0) rfl rfl) rfl <| c67 hs hx1 (fun c1 => w_f b174 d174_5 rfl rfl rfl <| w_f b174 d174_6 rfl rfl rfl <| w_cc b174 d174_7 rfl (pcl_v (n := 1) rfl rfl rfl (by decide +kernel) (sh_isOb hs (tlt 0 rfl) tbC_0) rfl rfl) rfl <| c146 hs hx2 (fun c2 => w_f b174 d174_10 rfl rfl rfl <| w_gr b174 d174_11 rfl rfl hs (tlt 0 rfl) tbC_0 rfl (by decide) <| w_f b174 d174_14 rfl rfl rfl <| w_gr b174 d174_15 rfl rfl hs (tlt 0 rfl) tbC_0 rfl (bxr0 (bxc 1 rfl)) <| w_c b174 d174_18 rfl (pcl_v (n := 1) rfl rfl rfl (by decide +kernel) (sh_isOb hs (tlt 27 rfl) tbC_27) rfl rfl) rfl _ (hK_V fun w3 hkw3 => w_f b174 d174_21 rfl rfl rfl <| w_gr b174 d174_22 rfl rfl hkw3.1 (tlt 0 rfl) tbC_0 rfl (bxr0 (bxc 1 rfl)) <| w_gr b174 d174_25 rfl rfl hkw3.1 (bx00 (bxc 1 rfl)) (tb0 (bxc 1 rfl)) rfl (bxr (bxc 1 rfl) 1 rfl) <| w_f b174 d174_28 rfl rfl rfl <| w_ial b174 d174_29 rfl hkw3.1 (bxk (bxc 1 rfl) 1 rfl) (tb1 (bxc 1 rfl)) (bdix (n := 12) hkw3.2.1 rfl) hkw3.2.1 <| w_f b174 d174_30 rfl rfl rfl <| w_f b174 d174_31 rfl rfl rfl <| w_gr b174 d174_32 rfl rfl hkw3.1 (tlt 0 rfl) tbC_0 rfl (bxr0 (bxc 1 rfl)) <| w_gr b174 d174_35 rfl rfl hkw3.1 (bx00 (bxc 1 rfl)) (tb0 (bxc 1 rfl)) rfl (bxr (bxc 1 rfl) 1 rfl) <| w_f b174 d174_38 rfl rfl rfl <| w_f b174 d174_39 rfl rfl rfl <| w_ias b174 d174_40 rfl hkw3.1 (bxk (bxc 1 rfl) 1 rfl) (tb1 (bxc 1 rfl)) (bdix (n := 12) hkw3.2.2.1 rfl) hkw3.2.2.1 <| w_f b174 d174_41 rfl rfl rfl <| w_ri b174 d174_42 r174 (hkw3.2.2.2 _ rfl)) ((h.1 c1).1 c2)) (fun c2 => (h.1 c1).2 c2)) (fun c1 => h.2 c1)
theorem e174 {w : PW} {Q : PO → PW → Prop} {x1 : Int} {x2 : Int} (hs : Sh w) (hx1 : bd x1) (hx2 : bd x2) (h : ((0 ≤ x1 ∧ x1 < gI w 1 4) → ((0 ≤ x2 ∧ x2 ≤ 23) → pC 164 [.ref 27, .ref 1] w (kV fun w3 => Sh w3 ∧ (0 ≤ x1 ∧ x1 < 12) ∧ (0 ≤ x1 ∧ x1 < 12) ∧ ∀ w5 : PW, w5 = sI w3 (1 + 1) x1.toNat x2 → Q (.inl (some (iv (gI w3 (1 + 1) x1.toNat)))) w5)) ∧ (¬ (0 ≤ x2 ∧ x2 ≤ 23) → Q (.inr 1) w)) ∧ (¬ (0 ≤ x1 ∧ x1 < gI w 1 4) → Q (.inr 2) w)) : pC 174 [.ref 0, iv x1, iv x2] w Q :=
  (pC_in (Nat.le_of_ble_eq_true rfl) rfl Q).mpr (v174_0 hs hx1 hx2 h)
/-! 176: PinBarrel.setPin(IIIZ)Z -/
theorem b176 : mB 176 = cX8_setPin := rfl
theorem r176 : mR 176 = (some .boolean) := rfl
theorem d176_0 : decode cX8_setPin 0 = .ok (.aload_n 0, 1) := by decide +kernel
theorem d176_1 : decode cX8_setPin 1 = .ok (.iload_n 1, 1) := by decide +kernel
theorem d176_2 : decode cX8_setPin 2 = .ok (.invokevirtual 189, 3) := by decide +kernel
theorem d176_5 : decode cX8_setPin 5 = .ok (.aload_n 0, 1) := by decide +kernel
theorem d176_6 : decode cX8_setPin 6 = .ok (.iload_n 2, 1) := by decide +kernel
theorem d176_7 : decode cX8_setPin 7 = .ok (.invokevirtual 192, 3) := by decide +kernel
theorem d176_10 : decode cX8_setPin 10 = .ok (.aload_n 0, 1) := by decide +kernel
theorem d176_11 : decode cX8_setPin 11 = .ok (.iload_n 3, 1) := by decide +kernel
theorem d176_12 : decode cX8_setPin 12 = .ok (.invokevirtual 147, 3) := by decide +kernel
theorem d176_15 : decode cX8_setPin 15 = .ok (.aload_n 0, 1) := by decide +kernel
theorem d176_16 : decode cX8_setPin 16 = .ok (.getfield 22, 3) := by decide +kernel
theorem d176_19 : decode cX8_setPin 19 = .ok (.aload_n 0, 1) := by decide +kernel
theorem d176_20 : decode cX8_setPin 20 = .ok (.getfield 12, 3) := by decide +kernel
theorem d176_23 : decode cX8_setPin 23 = .ok (.invokevirtual 326, 3) := by decide +kernel
theorem d176_26 : decode cX8_setPin 26 = .ok (.aload_n 0, 1) := by decide +kernel
theorem d176_27 : decode cX8_setPin 27 = .ok (.getfield 12, 3) := by decide +kernel
theorem d176_30 : decode cX8_setPin 30 = .ok (.iload_n 1, 1) := by decide +kernel
theorem d176_31 : decode cX8_setPin 31 = .ok (.iload_n 2, 1) := by decide +kernel
theorem d176_32 : decode cX8_setPin 32 = .ok (.iload_n 3, 1) := by decide +kernel
theorem d176_33 : decode cX8_setPin 33 = .ok (.invokevirtual 195, 3) := by decide +kernel
theorem d176_36 : decode cX8_setPin 36 = .ok (.istore 5, 2) := by decide +kernel
theorem d176_38 : decode cX8_setPin 38 = .ok (.aload_n 0, 1) := by decide +kernel
theorem d176_39 : decode cX8_setPin 39 = .ok (.getfield 12, 3) := by decide +kernel
theorem d176_42 : decode cX8_setPin 42 = .ok (.iload_n 1, 1) := by decide +kernel
theorem d176_43 : decode cX8_setPin 43 = .ok (.iload_n 2, 1) := by decide +kernel
theorem d176_44 : decode cX8_setPin 44 = .ok (.iload_n 3, 1) := by decide +kernel
theorem d176_45 : decode cX8_setPin 45 = .ok (.iload 4, 2) := by decide +kernel
theorem d176_47 : decode cX8_setPin 47 = .ok (.invokevirtual 335, 3) := by decide +kernel
theorem d176_50 : decode cX8_setPin 50 = .ok (.iload 5, 2) := by decide +kernel
theorem d176_52 : decode cX8_setPin 52 = .ok (.ireturn, 1) := by decide +kernel
theorem v176_0 {w : PW} {Q : PO → PW → Prop} {x1 : Int} {x2 : Int} {x3 : Int} {x4 : Int} (hs : Sh w) (hx1 : bd x1) (hx2 : bd x2) (hx3 : bd x3) (hx4 : bd x4) (h : (bd ((gI w 1 1) - 1)) ∧ ((0 ≤ x1 ∧ x1 < gI w 1 1) → (bd ((gI w 1 0) - 1)) ∧ ((0 ≤ x2 ∧ x2 < gI w 1 0) → ((0 ≤ x3 ∧ x3 < gI w 1 4) → pC 164 [.ref 27, .ref 1] w (kV fun w4 => Sh w4 ∧ (bd ((gI w4 1 1) * x3 + x1)) ∧ (0 ≤ x2 ∧ x2 < 64) ∧ pC 31 [.ref 1, iv x1, iv x2, iv x3, iv x4] w4 (kV fun w6 => Sh w6 ∧ Q (.inl (some (iv (if tL (lP w4 1 ((gI w4 1 1) * x3 + x1)) (x2).toNat = true then 1 else 0)))) w6))) ∧ (¬ (0 ≤ x3 ∧ x3 < gI w 1 4) → Q (.inr 2) w)) ∧ (¬ (0 ≤ x2 ∧ x2 < gI w 1 0) → Q (.inr 1) w)) ∧ (¬ (0 ≤ x1 ∧ x1 < gI w 1 1) → Q (.inr 1) w)) : pX 176 0 [some (.ref 0), some (iv x1), some (iv x2), some (iv x3), some (iv x4), none] [] w Q :=
  w_f b176 d176_0 rfl rfl rfl <| w_f b176 d176_1 rfl rfl rfl <| w_cc b176 d176_2 rfl (pcl_v (n := 1) rfl rfl rfl (by decide +kernel) (sh_isOb hs (tlt 0 rfl) tbC_0) rfl rfl) rfl <| c77 hs hx1 h.1 (fun c1 => w_f b176 d176_5 rfl rfl rfl <| w_f b176 d176_6 rfl rfl rfl <| w_cc b176 d176_7 rfl (pcl_v (n := 1) rfl rfl rfl (by decide +kernel) (sh_isOb hs (tlt 0 rfl) tbC_0) rfl rfl) rfl <| c78 hs hx2 (h.2.1 c1).1 (fun c2 => w_f b176 d176_10 rfl rfl rfl <| w_f b176 d176_11 rfl rfl rfl <| w_cc b176 d176_12 rfl (pcl_v (n := 1) rfl rfl rfl (by decide +kernel) (sh_isOb hs (tlt 0 rfl) tbC_0) rfl rfl) rfl <| c67 hs hx3 (fun c3 => w_f b176 d176_15 rfl rfl rfl <| w_gr b176 d176_16 rfl rfl hs (tlt 0 rfl) tbC_0 rfl (by decide) <| w_f b176 d176_19 rfl rfl rfl <| w_gr b176 d176_20 rfl rfl hs (tlt 0 rfl) tbC_0 rfl (bxr0 (bxc 1 rfl)) <| w_c b176 d176_23 rfl (pcl_v (n := 1) rfl rfl rfl (by decide +kernel) (sh_isOb hs (tlt 27 rfl) tbC_27) rfl rfl) rfl _ (hK_V fun w4 hkw4 => w_f b176 d176_26 rfl rfl rfl <| w_gr b176 d176_27 rfl rfl hkw4.1 (tlt 0 rfl) tbC_0 rfl (bxr0 (bxc 1 rfl)) <| w_f b176 d176_30 rfl rfl rfl <| w_f b176 d176_31 rfl rfl rfl <| w_f b176 d176_32 rfl rfl rfl <| w_cc b176 d176_33 rfl (pcl_v (n := 3) rfl rfl rfl (by decide +kernel) (sh_isOb hkw4.1 (bx00 (bxc 1 rfl)) (tb0 (bxc 1 rfl))) rfl rfl) rfl <| c43 hkw4.1 (bxc 1 rfl) hx1 hx2 hx3 hkw4.2.1 hkw4.2.2.1 <| w_f b176 d176_36 rfl rfl rfl <| w_f b176 d176_38 rfl rfl rfl <| w_gr b176 d176_39 rfl rfl hkw4.1 (tlt 0 rfl) tbC_0 rfl (bxr0 (bxc 1 rfl)) <| w_f b176 d176_42 rfl rfl rfl <| w_f b176 d176_43 rfl rfl rfl <| w_f b176 d176_44 rfl rfl rfl <| w_f b176 d176_45 rfl rfl rfl <| w_c b176 d176_47 rfl (pcl_v (n := 4) rfl rfl rfl (by decide +kernel) (sh_isOb hkw4.1 (bx00 (bxc 1 rfl)) (tb0 (bxc 1 rfl))) rfl rfl) rfl _ (hK_V fun w6 hkw6 => w_f b176 d176_50 rfl rfl rfl <| w_rz b176 d176_52 r176 (zor _) hkw6.2) hkw4.2.2.2) (((h.2.1 c1).2.1 c2).1 c3)) (fun c3 => ((h.2.1 c1).2.1 c2).2 c3)) (fun c2 => (h.2.1 c1).2.2 c2)) (fun c1 => h.2.2 c1)
theorem e176 {w : PW} {Q : PO → PW → Prop} {x1 : Int} {x2 : Int} {x3 : Int} {x4 : Int} (hs : Sh w) (hx1 : bd x1) (hx2 : bd x2) (hx3 : bd x3) (hx4 : bd x4) (h : (bd ((gI w 1 1) - 1)) ∧ ((0 ≤ x1 ∧ x1 < gI w 1 1) → (bd ((gI w 1 0) - 1)) ∧ ((0 ≤ x2 ∧ x2 < gI w 1 0) → ((0 ≤ x3 ∧ x3 < gI w 1 4) → pC 164 [.ref 27, .ref 1] w (kV fun w4 => Sh w4 ∧ (bd ((gI w4 1 1) * x3 + x1)) ∧ (0 ≤ x2 ∧ x2 < 64) ∧ pC 31 [.ref 1, iv x1, iv x2, iv x3, iv x4] w4 (kV fun w6 => Sh w6 ∧ Q (.inl (some (iv (if tL (lP w4 1 ((gI w4 1 1) * x3 + x1)) (x2).toNat = true then 1 else 0)))) w6))) ∧ (¬ (0 ≤ x3 ∧ x3 < gI w 1 4) → Q (.inr 2) w)) ∧ (¬ (0 ≤ x2 ∧ x2 < gI w 1 0) → Q (.inr 1) w)) ∧ (¬ (0 ≤ x1 ∧ x1 < gI w 1 1) → Q (.inr 1) w)) : pC 176 [.ref 0, iv x1, iv x2, iv x3, iv x4] w Q :=
  (pC_in (Nat.le_of_ble_eq_true rfl) rfl Q).mpr (v176_0 hs hx1 hx2 hx3 hx4 h)
/-! 178: PinBarrel.clear(I)I -/
theorem b178 : mB 178 = cX8_clear := rfl
theorem r178 : mR 178 = (some .int) := rfl
theorem d178_0 : decode cX8_clear 0 = .ok (.aload_n 0, 1) := by decide +kernel
theorem d178_1 : decode cX8_clear 1 = .ok (.iload_n 1, 1) := by decide +kernel
theorem d178_2 : decode cX8_clear 2 = .ok (.invokevirtual 189, 3) := by decide +kernel
theorem d178_5 : decode cX8_clear 5 = .ok (.aload_n 0, 1) := by decide +kernel
theorem d178_6 : decode cX8_clear 6 = .ok (.getfield 22, 3) := by decide +kernel
theorem d178_9 : decode cX8_clear 9 = .ok (.aload_n 0, 1) := by decide +kernel
theorem d178_10 : decode cX8_clear 10 = .ok (.getfield 12, 3) := by decide +kernel
theorem d178_13 : decode cX8_clear 13 = .ok (.invokevirtual 326, 3) := by decide +kernel
theorem d178_16 : decode cX8_clear 16 = .ok (.aload_n 0, 1) := by decide +kernel
theorem d178_17 : decode cX8_clear 17 = .ok (.getfield 12, 3) := by decide +kernel
theorem d178_20 : decode cX8_clear 20 = .ok (.iload_n 1, 1) := by decide +kernel
theorem d178_21 : decode cX8_clear 21 = .ok (.invokevirtual 252, 3) := by decide +kernel
theorem d178_24 : decode cX8_clear 24 = .ok (.istore_n 2, 1) := by decide +kernel
theorem d178_25 : decode cX8_clear 25 = .ok (.iconst 0, 1) := by decide +kernel
theorem d178_26 : decode cX8_clear 26 = .ok (.istore_n 3, 1) := by decide +kernel
theorem d178_27 : decode cX8_clear 27 = .ok (.iload_n 3, 1) := by decide +kernel
theorem d178_28 : decode cX8_clear 28 = .ok (.aload_n 0, 1) := by decide +kernel
theorem d178_29 : decode cX8_clear 29 = .ok (.getfield 12, 3) := by decide +kernel
theorem d178_32 : decode cX8_clear 32 = .ok (.getfield 108, 3) := by decide +kernel
theorem d178_35 : decode cX8_clear 35 = .ok (.if_icmp .ge 26, 3) := by decide +kernel
theorem d178_38 : decode cX8_clear 38 = .ok (.aload_n 0, 1) := by decide +kernel
theorem d178_39 : decode cX8_clear 39 = .ok (.getfield 12, 3) := by decide +kernel
theorem d178_42 : decode cX8_clear 42 = .ok (.aload_n 0, 1) := by decide +kernel
theorem d178_43 : decode cX8_clear 43 = .ok (.getfield 12, 3) := by decide +kernel
theorem d178_46 : decode cX8_clear 46 = .ok (.iload_n 1, 1) := by decide +kernel
theorem d178_47 : decode cX8_clear 47 = .ok (.iload_n 3, 1) := by decide +kernel
theorem d178_48 : decode cX8_clear 48 = .ok (.invokevirtual 199, 3) := by decide +kernel
theorem d178_51 : decode cX8_clear 51 = .ok (.lconst 0, 1) := by decide +kernel
theorem d178_52 : decode cX8_clear 52 = .ok (.invokevirtual 339, 3) := by decide +kernel
theorem d178_55 : decode cX8_clear 55 = .ok (.iinc 3 1, 3) := by decide +kernel
theorem d178_58 : decode cX8_clear 58 = .ok (.goto (-31), 3) := by decide +kernel
theorem d178_61 : decode cX8_clear 61 = .ok (.iload_n 2, 1) := by decide +kernel
theorem d178_62 : decode cX8_clear 62 = .ok (.ireturn, 1) := by decide +kernel
theorem v178_0 {w : PW} {Q : PO → PW → Prop} {x1 : Int} (hs : Sh w) (hx1 : bd x1) (h : (bd ((gI w 1 1) - 1)) ∧ ((0 ≤ x1 ∧ x1 < gI w 1 1) → pC 164 [.ref 27, .ref 1] w (kV fun w2 => Sh w2 ∧ pC 58 [.ref 1, iv x1] w2 (kI fun u5 w4 => Sh w4 ∧ pX 178 27 [some (.ref 0), some (iv x1), some (iv u5), some (iv 0)] [] w4 Q))) ∧ (¬ (0 ≤ x1 ∧ x1 < gI w 1 1) → Q (.inr 1) w)) : pX 178 0 [some (.ref 0), some (iv x1), none, none] [] w Q :=
  w_f b178 d178_0 rfl rfl rfl <| w_f b178 d178_1 rfl rfl rfl <| w_cc b178 d178_2 rfl (pcl_v (n := 1) rfl rfl rfl (by decide +kernel) (sh_isOb hs (tlt 0 rfl) tbC_0) rfl rfl) rfl <| c77 hs hx1 h.1 (fun c1 => w_f b178 d178_5 rfl rfl rfl <| w_gr b178 d178_6 rfl rfl hs (tlt 0 rfl) tbC_0 rfl (by decide) <| w_f b178 d178_9 rfl rfl rfl <| w_gr b178 d178_10 rfl rfl hs (tlt 0 rfl) tbC_0 rfl (bxr0 (bxc 1 rfl)) <| w_c b178 d178_13 rfl (pcl_v (n := 1) rfl rfl rfl (by decide +kernel) (sh_isOb hs (tlt 27 rfl) tbC_27) rfl rfl) rfl _ (hK_V fun w2 hkw2 => w_f b178 d178_16 rfl rfl rfl <| w_gr b178 d178_17 rfl rfl hkw2.1 (tlt 0 rfl) tbC_0 rfl (bxr0 (bxc 1 rfl)) <| w_f b178 d178_20 rfl rfl rfl <| w_c b178 d178_21 rfl (pcl_v (n := 1) rfl rfl rfl (by decide +kernel) (sh_isOb hkw2.1 (bx00 (bxc 1 rfl)) (tb0 (bxc 1 rfl))) rfl rfl) rfl _ (hK_I fun u5 w4 hbu5 hkw4 => w_f b178 d178_24 rfl rfl rfl <| w_f b178 d178_25 rfl rfl rfl <| w_f b178 d178_26 rfl rfl rfl <| hkw4.2) hkw2.2) (h.2.1 c1)) (fun c1 => h.2.2 c1)
theorem e178 {w : PW} {Q : PO → PW → Prop} {x1 : Int} (hs : Sh w) (hx1 : bd x1) (h : (bd ((gI w 1 1) - 1)) ∧ ((0 ≤ x1 ∧ x1 < gI w 1 1) → pC 164 [.ref 27, .ref 1] w (kV fun w2 => Sh w2 ∧ pC 58 [.ref 1, iv x1] w2 (kI fun u5 w4 => Sh w4 ∧ pX 178 27 [some (.ref 0), some (iv x1), some (iv u5), some (iv 0)] [] w4 Q))) ∧ (¬ (0 ≤ x1 ∧ x1 < gI w 1 1) → Q (.inr 1) w)) : pC 178 [.ref 0, iv x1] w Q :=
  (pC_in (Nat.le_of_ble_eq_true rfl) rfl Q).mpr (v178_0 hs hx1 h)
theorem v178_27 {w : PW} {Q : PO → PW → Prop} {x1 : Int} {x2 : Int} {x3 : Int} (hs : Sh w) (hx1 : bd x1) (hx2 : bd x2) (hx3 : bd x3) (h : ((gI w 1 4) ≤ x3 → Q (.inl (some (iv x2))) w) ∧ (x3 < (gI w 1 4) → (bd ((gI w 1 1) * x3 + x1)) ∧ (0 ≤ ((gI w 1 1) * x3 + x1) ∧ ((gI w 1 1) * x3 + x1) < 36) ∧ ∀ w2 : PW, w2 = sL w (1 + 3) (((gI w 1 1) * x3 + x1)).toNat ((0 : Int64)) → pX 178 27 [some (.ref 0), some (iv x1), some (iv x2), some (iv (x3 + 1))] [] w2 Q)) : pX 178 27 [some (.ref 0), some (iv x1), some (iv x2), some (iv x3)] [] w Q :=
  w_f b178 d178_27 rfl rfl rfl <| w_f b178 d178_28 rfl rfl rfl <| w_gr b178 d178_29 rfl rfl hs (tlt 0 rfl) tbC_0 rfl (bxr0 (bxc 1 rfl)) <| w_gi b178 d178_32 rfl rfl hs (bx00 (bxc 1 rfl)) (tb0 (bxc 1 rfl)) rfl <| w_icge b178 d178_35 rfl rfl (by decide +kernel) hx3 (bd_gI _ _ _) (fun c1 => w_f b178 d178_61 rfl rfl rfl <| w_ri b178 d178_62 r178 (h.1 c1)) (fun c1 => w_f b178 d178_38 rfl rfl rfl <| w_gr b178 d178_39 rfl rfl hs (tlt 0 rfl) tbC_0 rfl (bxr0 (bxc 1 rfl)) <| w_f b178 d178_42 rfl rfl rfl <| w_gr b178 d178_43 rfl rfl hs (tlt 0 rfl) tbC_0 rfl (bxr0 (bxc 1 rfl)) <| w_f b178 d178_46 rfl rfl rfl <| w_f b178 d178_47 rfl rfl rfl <| w_cc b178 d178_48 rfl (pcl_v (n := 2) rfl rfl rfl (by decide +kernel) (sh_isOb hs (bx00 (bxc 1 rfl)) (tb0 (bxc 1 rfl))) rfl rfl) rfl <| c28 hs (bxc 1 rfl) hx1 hx3 <| w_f b178 d178_51 rfl rfl rfl <| w_cc b178 d178_52 rfl (pcl_v (n := 2) rfl rfl rfl (by decide +kernel) (sh_isOb hs (bx00 (bxc 1 rfl)) (tb0 (bxc 1 rfl))) rfl rfl) rfl <| c30 hs (bxc 1 rfl) (h.2 c1).1 (h.2 c1).2.1 <| w_f b178 d178_55 rfl (pf_iinc rfl rfl) rfl <| w_j b178 d178_58 rfl (by decide +kernel) <| ((h.2 c1).2.2 _ rfl))
/-! 185: PinBarrel.transpose(II)I -/
theorem b185 : mB 185 = cX8_transpose := rfl
theorem r185 : mR 185 = (some .int) := rfl
theorem d185_0 : decode cX8_transpose 0 = .ok (.aload_n 0, 1) := by decide +kernel
theorem d185_1 : decode cX8_transpose 1 = .ok (.iload_n 1, 1) := by decide +kernel
theorem d185_2 : decode cX8_transpose 2 = .ok (.invokevirtual 189, 3) := by decide +kernel
theorem d185_5 : decode cX8_transpose 5 = .ok (.aload_n 0, 1) := by decide +kernel
theorem d185_6 : decode cX8_transpose 6 = .ok (.iload_n 2, 1) := by decide +kernel
theorem d185_7 : decode cX8_transpose 7 = .ok (.bipush (-23), 2) := by decide +kernel
theorem d185_9 : decode cX8_transpose 9 = .ok (.bipush 23, 2) := by decide +kernel
theorem d185_11 : decode cX8_transpose 11 = .ok (.invokevirtual 223, 3) := by decide +kernel
theorem d185_14 : decode cX8_transpose 14 = .ok (.aload_n 0, 1) := by decide +kernel
theorem d185_15 : decode cX8_transpose 15 = .ok (.getfield 12, 3) := by decide +kernel
theorem d185_18 : decode cX8_transpose 18 = .ok (.getfield 87, 3) := by decide +kernel
theorem d185_21 : decode cX8_transpose 21 = .ok (.iload_n 1, 1) := by decide +kernel
theorem d185_22 : decode cX8_transpose 22 = .ok (.iload_n 2, 1) := by decide +kernel
theorem d185_23 : decode cX8_transpose 23 = .ok (.invokevirtual 346, 3) := by decide +kernel
theorem d185_26 : decode cX8_transpose 26 = .ok (.ifCond .ne 6, 3) := by decide +kernel
theorem d185_29 : decode cX8_transpose 29 = .ok (.bipush (-3), 2) := by decide +kernel
theorem d185_31 : decode cX8_transpose 31 = .ok (.ireturn, 1) := by decide +kernel
theorem d185_32 : decode cX8_transpose 32 = .ok (.aload_n 0, 1) := by decide +kernel
theorem d185_33 : decode cX8_transpose 33 = .ok (.getfield 22, 3) := by decide +kernel
theorem d185_36 : decode cX8_transpose 36 = .ok (.aload_n 0, 1) := by decide +kernel
theorem d185_37 : decode cX8_transpose 37 = .ok (.getfield 12, 3) := by decide +kernel
theorem d185_40 : decode cX8_transpose 40 = .ok (.invokevirtual 326, 3) := by decide +kernel
theorem d185_43 : decode cX8_transpose 43 = .ok (.aload_n 0, 1) := by decide +kernel
theorem d185_44 : decode cX8_transpose 44 = .ok (.getfield 12, 3) := by decide +kernel
theorem d185_47 : decode cX8_transpose 47 = .ok (.getfield 87, 3) := by decide +kernel
theorem d185_50 : decode cX8_transpose 50 = .ok (.iload_n 1, 1) := by decide +kernel
theorem d185_51 : decode cX8_transpose 51 = .ok (.iload_n 2, 1) := by decide +kernel
theorem d185_52 : decode cX8_transpose 52 = .ok (.invokevirtual 350, 3) := by decide +kernel
theorem d185_55 : decode cX8_transpose 55 = .ok (.aload_n 0, 1) := by decide +kernel
theorem d185_56 : decode cX8_transpose 56 = .ok (.getfield 12, 3) := by decide +kernel
theorem d185_59 : decode cX8_transpose 59 = .ok (.getfield 87, 3) := by decide +kernel
theorem d185_62 : decode cX8_transpose 62 = .ok (.iload_n 1, 1) := by decide +kernel
theorem d185_63 : decode cX8_transpose 63 = .ok (.invokevirtual 246, 3) := by decide +kernel
theorem d185_66 : decode cX8_transpose 66 = .ok (.ireturn, 1) := by decide +kernel
theorem v185_0 {w : PW} {Q : PO → PW → Prop} {x1 : Int} {x2 : Int} (hs : Sh w) (hx1 : bd x1) (hx2 : bd x2) (h : (bd ((gI w 1 1) - 1)) ∧ ((0 ≤ x1 ∧ x1 < gI w 1 1) → ((((-23)) ≤ x2 ∧ x2 ≤ 23) → pC 183 [.ref (1 + 4), iv x1, iv x2] w (kI fun u4 w3 => Sh w3 ∧ (u4 ≠ 0 → pC 164 [.ref 27, .ref 1] w3 (kV fun w6 => Sh w6 ∧ pC 184 [.ref (1 + 4), iv x1, iv x2] w6 (kV fun w8 => Sh w8 ∧ pC 106 [.ref (1 + 4), iv x1] w8 (kI fun u11 w10 => Sh w10 ∧ Q (.inl (some (iv u11))) w10)))) ∧ (u4 = 0 → Q (.inl (some (iv ((-3))))) w3))) ∧ (¬ (((-23)) ≤ x2 ∧ x2 ≤ 23) → Q (.inr 1) w)) ∧ (¬ (0 ≤ x1 ∧ x1 < gI w 1 1) → Q (.inr 1) w)) : pX 185 0 [some (.ref 0), some (iv x1), some (iv x2)] [] w Q :=
  w_f b185 d185_0 rfl rfl rfl <| w_f b185 d185_1 rfl rfl rfl <| w_cc b185 d185_2 rfl (pcl_v (n := 1) rfl rfl rfl (by decide +kernel) (sh_isOb hs (tlt 0 rfl) tbC_0) rfl rfl) rfl <| c77 hs hx1 h.1 (fun c1 => w_f b185 d185_5 rfl rfl rfl <| w_f b185 d185_6 rfl rfl rfl <| w_f b185 d185_7 rfl rfl rfl <| w_f b185 d185_9 rfl rfl rfl <| w_cc b185 d185_11 rfl (pcl_v (n := 3) rfl rfl rfl (by decide +kernel) (sh_isOb hs (tlt 0 rfl) tbC_0) rfl rfl) rfl <| c76 hs hx2 ⟨by decide, by decide⟩ ⟨by decide, by decide⟩ (fun c2 => w_f b185 d185_14 rfl rfl rfl <| w_gr b185 d185_15 rfl rfl hs (tlt 0 rfl) tbC_0 rfl (bxr0 (bxc 1 rfl)) <| w_gr b185 d185_18 rfl rfl hs (bx00 (bxc 1 rfl)) (tb0 (bxc 1 rfl)) rfl (bxr (bxc 1 rfl) 4 rfl) <| w_f b185 d185_21 rfl rfl rfl <| w_f b185 d185_22 rfl rfl rfl <| w_c b185 d185_23 rfl (pcl_v (n := 2) rfl rfl rfl (by decide +kernel) (sh_isOb hs (bxk (bxc 1 rfl) 4 rfl) (tb4 (bxc 1 rfl))) rfl rfl) rfl _ (hK_I fun u4 w3 hbu4 hkw3 => w_ifne b185 d185_26 rfl rfl (by decide +kernel) hbu4 (fun c5 => w_f b185 d185_32 rfl rfl rfl <| w_gr b185 d185_33 rfl rfl hkw3.1 (tlt 0 rfl) tbC_0 rfl (by decide) <| w_f b185 d185_36 rfl rfl rfl <| w_gr b185 d185_37 rfl rfl hkw3.1 (tlt 0 rfl) tbC_0 rfl (bxr0 (bxc 1 rfl)) <| w_c b185 d185_40 rfl (pcl_v (n := 1) rfl rfl rfl (by decide +kernel) (sh_isOb hkw3.1 (tlt 27 rfl) tbC_27) rfl rfl) rfl _ (hK_V fun w6 hkw6 => w_f b185 d185_43 rfl rfl rfl <| w_gr b185 d185_44 rfl rfl hkw6.1 (tlt 0 rfl) tbC_0 rfl (bxr0 (bxc 1 rfl)) <| w_gr b185 d185_47 rfl rfl hkw6.1 (bx00 (bxc 1 rfl)) (tb0 (bxc 1 rfl)) rfl (bxr (bxc 1 rfl) 4 rfl) <| w_f b185 d185_50 rfl rfl rfl <| w_f b185 d185_51 rfl rfl rfl <| w_c b185 d185_52 rfl (pcl_v (n := 2) rfl rfl rfl (by decide +kernel) (sh_isOb hkw6.1 (bxk (bxc 1 rfl) 4 rfl) (tb4 (bxc 1 rfl))) rfl rfl) rfl _ (hK_V fun w8 hkw8 => w_f b185 d185_55 rfl rfl rfl <| w_gr b185 d185_56 rfl rfl hkw8.1 (tlt 0 rfl) tbC_0 rfl (bxr0 (bxc 1 rfl)) <| w_gr b185 d185_59 rfl rfl hkw8.1 (bx00 (bxc 1 rfl)) (tb0 (bxc 1 rfl)) rfl (bxr (bxc 1 rfl) 4 rfl) <| w_f b185 d185_62 rfl rfl rfl <| w_c b185 d185_63 rfl (pcl_v (n := 1) rfl rfl rfl (by decide +kernel) (sh_isOb hkw8.1 (bxk (bxc 1 rfl) 4 rfl) (tb4 (bxc 1 rfl))) rfl rfl) rfl _ (hK_I fun u11 w10 hbu11 hkw10 => w_ri b185 d185_66 r185 hkw10.2) hkw8.2) hkw6.2) (hkw3.2.1 c5)) (fun c5 => w_f b185 d185_29 rfl rfl rfl <| w_ri b185 d185_31 r185 (hkw3.2.2 c5))) ((h.2.1 c1).1 c2)) (fun c2 => (h.2.1 c1).2 c2)) (fun c1 => h.2.2 c1)
theorem e185 {w : PW} {Q : PO → PW → Prop} {x1 : Int} {x2 : Int} (hs : Sh w) (hx1 : bd x1) (hx2 : bd x2) (h : (bd ((gI w 1 1) - 1)) ∧ ((0 ≤ x1 ∧ x1 < gI w 1 1) → ((((-23)) ≤ x2 ∧ x2 ≤ 23) → pC 183 [.ref (1 + 4), iv x1, iv x2] w (kI fun u4 w3 => Sh w3 ∧ (u4 ≠ 0 → pC 164 [.ref 27, .ref 1] w3 (kV fun w6 => Sh w6 ∧ pC 184 [.ref (1 + 4), iv x1, iv x2] w6 (kV fun w8 => Sh w8 ∧ pC 106 [.ref (1 + 4), iv x1] w8 (kI fun u11 w10 => Sh w10 ∧ Q (.inl (some (iv u11))) w10)))) ∧ (u4 = 0 → Q (.inl (some (iv ((-3))))) w3))) ∧ (¬ (((-23)) ≤ x2 ∧ x2 ≤ 23) → Q (.inr 1) w)) ∧ (¬ (0 ≤ x1 ∧ x1 < gI w 1 1) → Q (.inr 1) w)) : pC 185 [.ref 0, iv x1, iv x2] w Q :=
  (pC_in (Nat.le_of_ble_eq_true rfl) rfl Q).mpr (v185_0 hs hx1 hx2 h)
/-! 188: PinBarrel.turn(II)I -/
theorem b188 : mB 188 = cX8_turn := rfl
theorem r188 : mR 188 = (some .int) := rfl
theorem d188_0 : decode cX8_turn 0 = .ok (.aload_n 0, 1) := by decide +kernel
theorem d188_1 : decode cX8_turn 1 = .ok (.iload_n 1, 1) := by decide +kernel
theorem d188_2 : decode cX8_turn 2 = .ok (.invokevirtual 189, 3) := by decide +kernel
theorem d188_5 : decode cX8_turn 5 = .ok (.aload_n 0, 1) := by decide +kernel
theorem d188_6 : decode cX8_turn 6 = .ok (.iload_n 2, 1) := by decide +kernel
theorem d188_7 : decode cX8_turn 7 = .ok (.invokevirtual 192, 3) := by decide +kernel
theorem d188_10 : decode cX8_turn 10 = .ok (.aload_n 0, 1) := by decide +kernel
theorem d188_11 : decode cX8_turn 11 = .ok (.getfield 22, 3) := by decide +kernel
theorem d188_14 : decode cX8_turn 14 = .ok (.aload_n 0, 1) := by decide +kernel
theorem d188_15 : decode cX8_turn 15 = .ok (.getfield 12, 3) := by decide +kernel
theorem d188_18 : decode cX8_turn 18 = .ok (.invokevirtual 326, 3) := by decide +kernel
theorem d188_21 : decode cX8_turn 21 = .ok (.aload_n 0, 1) := by decide +kernel
theorem d188_22 : decode cX8_turn 22 = .ok (.getfield 12, 3) := by decide +kernel
theorem d188_25 : decode cX8_turn 25 = .ok (.iload_n 1, 1) := by decide +kernel
theorem d188_26 : decode cX8_turn 26 = .ok (.iload_n 2, 1) := by decide +kernel
theorem d188_27 : decode cX8_turn 27 = .ok (.invokevirtual 286, 3) := by decide +kernel
theorem d188_30 : decode cX8_turn 30 = .ok (.aload_n 0, 1) := by decide +kernel
theorem d188_31 : decode cX8_turn 31 = .ok (.getfield 12, 3) := by decide +kernel
theorem d188_34 : decode cX8_turn 34 = .ok (.getfield 87, 3) := by decide +kernel
theorem d188_37 : decode cX8_turn 37 = .ok (.iload_n 1, 1) := by decide +kernel
theorem d188_38 : decode cX8_turn 38 = .ok (.iload_n 2, 1) := by decide +kernel
theorem d188_39 : decode cX8_turn 39 = .ok (.aload_n 0, 1) := by decide +kernel
theorem d188_40 : decode cX8_turn 40 = .ok (.getfield 12, 3) := by decide +kernel
theorem d188_43 : decode cX8_turn 43 = .ok (.getfield 96, 3) := by decide +kernel
theorem d188_46 : decode cX8_turn 46 = .ok (.invokevirtual 353, 3) := by decide +kernel
theorem d188_49 : decode cX8_turn 49 = .ok (.aload_n 0, 1) := by decide +kernel
theorem d188_50 : decode cX8_turn 50 = .ok (.getfield 12, 3) := by decide +kernel
theorem d188_53 : decode cX8_turn 53 = .ok (.iload_n 1, 1) := by decide +kernel
theorem d188_54 : decode cX8_turn 54 = .ok (.invokevirtual 252, 3) := by decide +kernel
theorem d188_57 : decode cX8_turn 57 = .ok (.ireturn, 1) := by decide +kernel
theorem v188_0 {w : PW} {Q : PO → PW → Prop} {x1 : Int} {x2 : Int} (hs : Sh w) (hx1 : bd x1) (hx2 : bd x2) (h : (bd ((gI w 1 1) - 1)) ∧ ((0 ≤ x1 ∧ x1 < gI w 1 1) → (bd ((gI w 1 0) - 1)) ∧ ((0 ≤ x2 ∧ x2 < gI w 1 0) → pC 164 [.ref 27, .ref 1] w (kV fun w3 => Sh w3 ∧ pC 143 [.ref 1, iv x1, iv x2] w3 (kV fun w5 => Sh w5 ∧ pC 187 [.ref (1 + 4), iv x1, iv x2, iv (gI w5 1 0)] w5 (kV fun w7 => Sh w7 ∧ pC 58 [.ref 1, iv x1] w7 (kI fun u10 w9 => Sh w9 ∧ Q (.inl (some (iv u10))) w9))))) ∧ (¬ (0 ≤ x2 ∧ x2 < gI w 1 0) → Q (.inr 1) w)) ∧ (¬ (0 ≤ x1 ∧ x1 < gI w 1 1) → Q (.inr 1) w)) : pX 188 0 [some (.ref 0), some (iv x1), some (iv x2)] [] w Q :=
  w_f b188 d188_0 rfl rfl rfl <| w_f b188 d188_1 rfl rfl rfl <| w_cc b188 d188_2 rfl (pcl_v (n := 1) rfl rfl rfl (by decide +kernel) (sh_isOb hs (tlt 0 rfl) tbC_0) rfl rfl) rfl <| c77 hs hx1 h.1 (fun c1 => w_f b188 d188_5 rfl rfl rfl <| w_f b188 d188_6 rfl rfl rfl <| w_cc b188 d188_7 rfl (pcl_v (n := 1) rfl rfl rfl (by decide +kernel) (sh_isOb hs (tlt 0 rfl) tbC_0) rfl rfl) rfl <| c78 hs hx2 (h.2.1 c1).1 (fun c2 => w_f b188 d188_10 rfl rfl rfl <| w_gr b188 d188_11 rfl rfl hs (tlt 0 rfl) tbC_0 rfl (by decide) <| w_f b188 d188_14 rfl rfl rfl <| w_gr b188 d188_15 rfl rfl hs (tlt 0 rfl) tbC_0 rfl (bxr0 (bxc 1 rfl)) <| w_c b188 d188_18 rfl (pcl_v (n := 1) rfl rfl rfl (by decide +kernel) (sh_isOb hs (tlt 27 rfl) tbC_27) rfl rfl) rfl _ (hK_V fun w3 hkw3 => w_f b188 d188_21 rfl rfl rfl <| w_gr b188 d188_22 rfl rfl hkw3.1 (tlt 0 rfl) tbC_0 rfl (bxr0 (bxc 1 rfl)) <| w_f b188 d188_25 rfl rfl rfl <| w_f b188 d188_26 rfl rfl rfl <| w_c b188 d188_27 rfl (pcl_v (n := 2) rfl rfl rfl (by decide +kernel) (sh_isOb hkw3.1 (bx00 (bxc 1 rfl)) (tb0 (bxc 1 rfl))) rfl rfl) rfl _ (hK_V fun w5 hkw5 => w_f b188 d188_30 rfl rfl rfl <| w_gr b188 d188_31 rfl rfl hkw5.1 (tlt 0 rfl) tbC_0 rfl (bxr0 (bxc 1 rfl)) <| w_gr b188 d188_34 rfl rfl hkw5.1 (bx00 (bxc 1 rfl)) (tb0 (bxc 1 rfl)) rfl (bxr (bxc 1 rfl) 4 rfl) <| w_f b188 d188_37 rfl rfl rfl <| w_f b188 d188_38 rfl rfl rfl <| w_f b188 d188_39 rfl rfl rfl <| w_gr b188 d188_40 rfl rfl hkw5.1 (tlt 0 rfl) tbC_0 rfl (bxr0 (bxc 1 rfl)) <| w_gi b188 d188_43 rfl rfl hkw5.1 (bx00 (bxc 1 rfl)) (tb0 (bxc 1 rfl)) rfl <| w_c b188 d188_46 rfl (pcl_v (n := 3) rfl rfl rfl (by decide +kernel) (sh_isOb hkw5.1 (bxk (bxc 1 rfl) 4 rfl) (tb4 (bxc 1 rfl))) rfl rfl) rfl _ (hK_V fun w7 hkw7 => w_f b188 d188_49 rfl rfl rfl <| w_gr b188 d188_50 rfl rfl hkw7.1 (tlt 0 rfl) tbC_0 rfl (bxr0 (bxc 1 rfl)) <| w_f b188 d188_53 rfl rfl rfl <| w_c b188 d188_54 rfl (pcl_v (n := 1) rfl rfl rfl (by decide +kernel) (sh_isOb hkw7.1 (bx00 (bxc 1 rfl)) (tb0 (bxc 1 rfl))) rfl rfl) rfl _ (hK_I fun u10 w9 hbu10 hkw9 => w_ri b188 d188_57 r188 hkw9.2) hkw7.2) hkw5.2) hkw3.2) ((h.2.1 c1).2.1 c2)) (fun c2 => (h.2.1 c1).2.2 c2)) (fun c1 => h.2.2 c1)
theorem e188 {w : PW} {Q : PO → PW → Prop} {x1 : Int} {x2 : Int} (hs : Sh w) (hx1 : bd x1) (hx2 : bd x2) (h : (bd ((gI w 1 1) - 1)) ∧ ((0 ≤ x1 ∧ x1 < gI w 1 1) → (bd ((gI w 1 0) - 1)) ∧ ((0 ≤ x2 ∧ x2 < gI w 1 0) → pC 164 [.ref 27, .ref 1] w (kV fun w3 => Sh w3 ∧ pC 143 [.ref 1, iv x1, iv x2] w3 (kV fun w5 => Sh w5 ∧ pC 187 [.ref (1 + 4), iv x1, iv x2, iv (gI w5 1 0)] w5 (kV fun w7 => Sh w7 ∧ pC 58 [.ref 1, iv x1] w7 (kI fun u10 w9 => Sh w9 ∧ Q (.inl (some (iv u10))) w9))))) ∧ (¬ (0 ≤ x2 ∧ x2 < gI w 1 0) → Q (.inr 1) w)) ∧ (¬ (0 ≤ x1 ∧ x1 < gI w 1 1) → Q (.inr 1) w)) : pC 188 [.ref 0, iv x1, iv x2] w Q :=
  (pC_in (Nat.le_of_ble_eq_true rfl) rfl Q).mpr (v188_0 hs hx1 hx2 h)
/-! 193: PinBarrel.reverse(I)I -/
theorem b193 : mB 193 = cX8_reverse := rfl
theorem r193 : mR 193 = (some .int) := rfl
theorem d193_0 : decode cX8_reverse 0 = .ok (.aload_n 0, 1) := by decide +kernel
theorem d193_1 : decode cX8_reverse 1 = .ok (.iload_n 1, 1) := by decide +kernel
theorem d193_2 : decode cX8_reverse 2 = .ok (.invokevirtual 189, 3) := by decide +kernel
theorem d193_5 : decode cX8_reverse 5 = .ok (.aload_n 0, 1) := by decide +kernel
theorem d193_6 : decode cX8_reverse 6 = .ok (.getfield 22, 3) := by decide +kernel
theorem d193_9 : decode cX8_reverse 9 = .ok (.aload_n 0, 1) := by decide +kernel
theorem d193_10 : decode cX8_reverse 10 = .ok (.getfield 12, 3) := by decide +kernel
theorem d193_13 : decode cX8_reverse 13 = .ok (.invokevirtual 326, 3) := by decide +kernel
theorem d193_16 : decode cX8_reverse 16 = .ok (.aload_n 0, 1) := by decide +kernel
theorem d193_17 : decode cX8_reverse 17 = .ok (.getfield 12, 3) := by decide +kernel
theorem d193_20 : decode cX8_reverse 20 = .ok (.iload_n 1, 1) := by decide +kernel
theorem d193_21 : decode cX8_reverse 21 = .ok (.invokevirtual 356, 3) := by decide +kernel
theorem d193_24 : decode cX8_reverse 24 = .ok (.aload_n 0, 1) := by decide +kernel
theorem d193_25 : decode cX8_reverse 25 = .ok (.getfield 12, 3) := by decide +kernel
theorem d193_28 : decode cX8_reverse 28 = .ok (.getfield 87, 3) := by decide +kernel
theorem d193_31 : decode cX8_reverse 31 = .ok (.iload_n 1, 1) := by decide +kernel
theorem d193_32 : decode cX8_reverse 32 = .ok (.aload_n 0, 1) := by decide +kernel
theorem d193_33 : decode cX8_reverse 33 = .ok (.getfield 12, 3) := by decide +kernel
theorem d193_36 : decode cX8_reverse 36 = .ok (.getfield 96, 3) := by decide +kernel
theorem d193_39 : decode cX8_reverse 39 = .ok (.invokevirtual 359, 3) := by decide +kernel
theorem d193_42 : decode cX8_reverse 42 = .ok (.aload_n 0, 1) := by decide +kernel
theorem d193_43 : decode cX8_reverse 43 = .ok (.getfield 12, 3) := by decide +kernel
theorem d193_46 : decode cX8_reverse 46 = .ok (.iload_n 1, 1) := by decide +kernel
theorem d193_47 : decode cX8_reverse 47 = .ok (.invokevirtual 252, 3) := by decide +kernel
theorem d193_50 : decode cX8_reverse 50 = .ok (.ireturn, 1) := by decide +kernel
theorem v193_0 {w : PW} {Q : PO → PW → Prop} {x1 : Int} (hs : Sh w) (hx1 : bd x1) (h : (bd ((gI w 1 1) - 1)) ∧ ((0 ≤ x1 ∧ x1 < gI w 1 1) → pC 164 [.ref 27, .ref 1] w (kV fun w2 => Sh w2 ∧ pC 191 [.ref 1, iv x1] w2 (kV fun w4 => Sh w4 ∧ pC 192 [.ref (1 + 4), iv x1, iv (gI w4 1 0)] w4 (kV fun w6 => Sh w6 ∧ pC 58 [.ref 1, iv x1] w6 (kI fun u9 w8 => Sh w8 ∧ Q (.inl (some (iv u9))) w8))))) ∧ (¬ (0 ≤ x1 ∧ x1 < gI w 1 1) → Q (.inr 1) w)) : pX 193 0 [some (.ref 0), some (iv x1)] [] w Q :=
  w_f b193 d193_0 rfl rfl rfl <| w_f b193 d193_1 rfl rfl rfl <| w_cc b193 d193_2 rfl (pcl_v (n := 1) rfl rfl rfl (by decide +kernel) (sh_isOb hs (tlt 0 rfl) tbC_0) rfl rfl) rfl <| c77 hs hx1 h.1 (fun c1 => w_f b193 d193_5 rfl rfl rfl <| w_gr b193 d193_6 rfl rfl hs (tlt 0 rfl) tbC_0 rfl (by decide) <| w_f b193 d193_9 rfl rfl rfl <| w_gr b193 d193_10 rfl rfl hs (tlt 0 rfl) tbC_0 rfl (bxr0 (bxc 1 rfl)) <| w_c b193 d193_13 rfl (pcl_v (n := 1) rfl rfl rfl (by decide +kernel) (sh_isOb hs (tlt 27 rfl) tbC_27) rfl rfl) rfl _ (hK_V fun w2 hkw2 => w_f b193 d193_16 rfl rfl rfl <| w_gr b193 d193_17 rfl rfl hkw2.1 (tlt 0 rfl) tbC_0 rfl (bxr0 (bxc 1 rfl)) <| w_f b193 d193_20 rfl rfl rfl <| w_c b193 d193_21 rfl (pcl_v (n := 1) rfl rfl rfl (by decide +kernel) (sh_isOb hkw2.1 (bx00 (bxc 1 rfl)) (tb0 (bxc 1 rfl))) rfl rfl) rfl _ (hK_V fun w4 hkw4 => w_f b193 d193_24 rfl rfl rfl <| w_gr b193 d193_25 rfl rfl hkw4.1 (tlt 0 rfl) tbC_0 rfl (bxr0 (bxc 1 rfl)) <| w_gr b193 d193_28 rfl rfl hkw4.1 (bx00 (bxc 1 rfl)) (tb0 (bxc 1 rfl)) rfl (bxr (bxc 1 rfl) 4 rfl) <| w_f b193 d193_31 rfl rfl rfl <| w_f b193 d193_32 rfl rfl rfl <| w_gr b193 d193_33 rfl rfl hkw4.1 (tlt 0 rfl) tbC_0 rfl (bxr0 (bxc 1 rfl)) <| w_gi b193 d193_36 rfl rfl hkw4.1 (bx00 (bxc 1 rfl)) (tb0 (bxc 1 rfl)) rfl <| w_c b193 d193_39 rfl (pcl_v (n := 2) rfl rfl rfl (by decide +kernel) (sh_isOb hkw4.1 (bxk (bxc 1 rfl) 4 rfl) (tb4 (bxc 1 rfl))) rfl rfl) rfl _ (hK_V fun w6 hkw6 => w_f b193 d193_42 rfl rfl rfl <| w_gr b193 d193_43 rfl rfl hkw6.1 (tlt 0 rfl) tbC_0 rfl (bxr0 (bxc 1 rfl)) <| w_f b193 d193_46 rfl rfl rfl <| w_c b193 d193_47 rfl (pcl_v (n := 1) rfl rfl rfl (by decide +kernel) (sh_isOb hkw6.1 (bx00 (bxc 1 rfl)) (tb0 (bxc 1 rfl))) rfl rfl) rfl _ (hK_I fun u9 w8 hbu9 hkw8 => w_ri b193 d193_50 r193 hkw8.2) hkw6.2) hkw4.2) hkw2.2) (h.2.1 c1)) (fun c1 => h.2.2 c1)
theorem e193 {w : PW} {Q : PO → PW → Prop} {x1 : Int} (hs : Sh w) (hx1 : bd x1) (h : (bd ((gI w 1 1) - 1)) ∧ ((0 ≤ x1 ∧ x1 < gI w 1 1) → pC 164 [.ref 27, .ref 1] w (kV fun w2 => Sh w2 ∧ pC 191 [.ref 1, iv x1] w2 (kV fun w4 => Sh w4 ∧ pC 192 [.ref (1 + 4), iv x1, iv (gI w4 1 0)] w4 (kV fun w6 => Sh w6 ∧ pC 58 [.ref 1, iv x1] w6 (kI fun u9 w8 => Sh w8 ∧ Q (.inl (some (iv u9))) w8))))) ∧ (¬ (0 ≤ x1 ∧ x1 < gI w 1 1) → Q (.inr 1) w)) : pC 193 [.ref 0, iv x1] w Q :=
  (pC_in (Nat.le_of_ble_eq_true rfl) rfl Q).mpr (v193_0 hs hx1 h)
/-! 195: PinBarrel.setSpeed(I)I -/
theorem b195 : mB 195 = cX8_setSpeed := rfl
theorem r195 : mR 195 = (some .int) := rfl
theorem d195_0 : decode cX8_setSpeed 0 = .ok (.aload_n 0, 1) := by decide +kernel
theorem d195_1 : decode cX8_setSpeed 1 = .ok (.iload_n 1, 1) := by decide +kernel
theorem d195_2 : decode cX8_setSpeed 2 = .ok (.iconst 1, 1) := by decide +kernel
theorem d195_3 : decode cX8_setSpeed 3 = .ok (.iconst 4, 1) := by decide +kernel
theorem d195_4 : decode cX8_setSpeed 4 = .ok (.invokevirtual 223, 3) := by decide +kernel
theorem d195_7 : decode cX8_setSpeed 7 = .ok (.aload_n 0, 1) := by decide +kernel
theorem d195_8 : decode cX8_setSpeed 8 = .ok (.getfield 22, 3) := by decide +kernel
theorem d195_11 : decode cX8_setSpeed 11 = .ok (.aload_n 0, 1) := by decide +kernel
theorem d195_12 : decode cX8_setSpeed 12 = .ok (.getfield 12, 3) := by decide +kernel
theorem d195_15 : decode cX8_setSpeed 15 = .ok (.invokevirtual 326, 3) := by decide +kernel
theorem d195_18 : decode cX8_setSpeed 18 = .ok (.aload_n 0, 1) := by decide +kernel
theorem d195_19 : decode cX8_setSpeed 19 = .ok (.getfield 12, 3) := by decide +kernel
theorem d195_22 : decode cX8_setSpeed 22 = .ok (.getfield 105, 3) := by decide +kernel
theorem d195_25 : decode cX8_setSpeed 25 = .ok (.istore_n 2, 1) := by decide +kernel
theorem d195_26 : decode cX8_setSpeed 26 = .ok (.aload_n 0, 1) := by decide +kernel
theorem d195_27 : decode cX8_setSpeed 27 = .ok (.getfield 12, 3) := by decide +kernel
theorem d195_30 : decode cX8_setSpeed 30 = .ok (.iload_n 1, 1) := by decide +kernel
theorem d195_31 : decode cX8_setSpeed 31 = .ok (.putfield 105, 3) := by decide +kernel
theorem d195_34 : decode cX8_setSpeed 34 = .ok (.iload_n 2, 1) := by decide +kernel
theorem d195_35 : decode cX8_setSpeed 35 = .ok (.ireturn, 1) := by decide +kernel
theorem v195_0 {w : PW} {Q : PO → PW → Prop} {x1 : Int} (hs : Sh w) (hx1 : bd x1) (h : ((1 ≤ x1 ∧ x1 ≤ 4) → pC 164 [.ref 27, .ref 1] w (kV fun w2 => Sh w2 ∧ ∀ w4 : PW, w4 = sI w2 1 3 x1 → Q (.inl (some (iv (gI w2 1 3)))) w4)) ∧ (¬ (1 ≤ x1 ∧ x1 ≤ 4) → Q (.inr 1) w)) : pX 195 0 [some (.ref 0), some (iv x1), none] [] w Q :=
  w_f b195 d195_0 rfl rfl rfl <| w_f b195 d195_1 rfl rfl rfl <| w_f b195 d195_2 rfl rfl rfl <| w_f b195 d195_3 rfl rfl rfl <| w_cc b195 d195_4 rfl (pcl_v (n := 3) rfl rfl rfl (by decide +kernel) (sh_isOb hs (tlt 0 rfl) tbC_0) rfl rfl) rfl <| c76 hs hx1 ⟨by decide, by decide⟩ ⟨by decide, by decide⟩ (fun c1 => w_f b195 d195_7 rfl rfl rfl <| w_gr b195 d195_8 rfl rfl hs (tlt 0 rfl) tbC_0 rfl (by decide) <| w_f b195 d195_11 rfl rfl rfl <| w_gr b195 d195_12 rfl rfl hs (tlt 0 rfl) tbC_0 rfl (bxr0 (bxc 1 rfl)) <| w_c b195 d195_15 rfl (pcl_v (n := 1) rfl rfl rfl (by decide +kernel) (sh_isOb hs (tlt 27 rfl) tbC_27) rfl rfl) rfl _ (hK_V fun w2 hkw2 => w_f b195 d195_18 rfl rfl rfl <| w_gr b195 d195_19 rfl rfl hkw2.1 (tlt 0 rfl) tbC_0 rfl (bxr0 (bxc 1 rfl)) <| w_gi b195 d195_22 rfl rfl hkw2.1 (bx00 (bxc 1 rfl)) (tb0 (bxc 1 rfl)) rfl <| w_f b195 d195_25 rfl rfl rfl <| w_f b195 d195_26 rfl rfl rfl <| w_gr b195 d195_27 rfl rfl hkw2.1 (tlt 0 rfl) tbC_0 rfl (bxr0 (bxc 1 rfl)) <| w_f b195 d195_30 rfl rfl rfl <| w_pi b195 d195_31 rfl rfl hkw2.1 (bx00 (bxc 1 rfl)) (tb0 (bxc 1 rfl)) rfl rfl rfl <| w_f b195 d195_34 rfl rfl rfl <| w_ri b195 d195_35 r195 (hkw2.2 _ rfl)) (h.1 c1)) (fun c1 => h.2 c1)
theorem e195 {w : PW} {Q : PO → PW → Prop} {x1 : Int} (hs : Sh w) (hx1 : bd x1) (h : ((1 ≤ x1 ∧ x1 ≤ 4) → pC 164 [.ref 27, .ref 1] w (kV fun w2 => Sh w2 ∧ ∀ w4 : PW, w4 = sI w2 1 3 x1 → Q (.inl (some (iv (gI w2 1 3)))) w4)) ∧ (¬ (1 ≤ x1 ∧ x1 ≤ 4) → Q (.inr 1) w)) : pC 195 [.ref 0, iv x1] w Q :=
  (pC_in (Nat.le_of_ble_eq_true rfl) rfl Q).mpr (v195_0 hs hx1 h)
/-! 197: PinBarrel.setGap(I)I -/
theorem b197 : mB 197 = cX8_setGap := rfl
theorem r197 : mR 197 = (some .int) := rfl
theorem d197_0 : decode cX8_setGap 0 = .ok (.aload_n 0, 1) := by decide +kernel
theorem d197_1 : decode cX8_setGap 1 = .ok (.iload_n 1, 1) := by decide +kernel
theorem d197_2 : decode cX8_setGap 2 = .ok (.iconst 0, 1) := by decide +kernel
theorem d197_3 : decode cX8_setGap 3 = .ok (.iconst 3, 1) := by decide +kernel
theorem d197_4 : decode cX8_setGap 4 = .ok (.invokevirtual 223, 3) := by decide +kernel
theorem d197_7 : decode cX8_setGap 7 = .ok (.aload_n 0, 1) := by decide +kernel
theorem d197_8 : decode cX8_setGap 8 = .ok (.getfield 22, 3) := by decide +kernel
theorem d197_11 : decode cX8_setGap 11 = .ok (.aload_n 0, 1) := by decide +kernel
theorem d197_12 : decode cX8_setGap 12 = .ok (.getfield 12, 3) := by decide +kernel
theorem d197_15 : decode cX8_setGap 15 = .ok (.invokevirtual 326, 3) := by decide +kernel
theorem d197_18 : decode cX8_setGap 18 = .ok (.aload_n 0, 1) := by decide +kernel
theorem d197_19 : decode cX8_setGap 19 = .ok (.getfield 12, 3) := by decide +kernel
theorem d197_22 : decode cX8_setGap 22 = .ok (.getfield 102, 3) := by decide +kernel
theorem d197_25 : decode cX8_setGap 25 = .ok (.istore_n 2, 1) := by decide +kernel
theorem d197_26 : decode cX8_setGap 26 = .ok (.aload_n 0, 1) := by decide +kernel
theorem d197_27 : decode cX8_setGap 27 = .ok (.getfield 12, 3) := by decide +kernel
theorem d197_30 : decode cX8_setGap 30 = .ok (.iload_n 1, 1) := by decide +kernel
theorem d197_31 : decode cX8_setGap 31 = .ok (.putfield 102, 3) := by decide +kernel
theorem d197_34 : decode cX8_setGap 34 = .ok (.iload_n 2, 1) := by decide +kernel
theorem d197_35 : decode cX8_setGap 35 = .ok (.ireturn, 1) := by decide +kernel
theorem v197_0 {w : PW} {Q : PO → PW → Prop} {x1 : Int} (hs : Sh w) (hx1 : bd x1) (h : ((0 ≤ x1 ∧ x1 ≤ 3) → pC 164 [.ref 27, .ref 1] w (kV fun w2 => Sh w2 ∧ ∀ w4 : PW, w4 = sI w2 1 2 x1 → Q (.inl (some (iv (gI w2 1 2)))) w4)) ∧ (¬ (0 ≤ x1 ∧ x1 ≤ 3) → Q (.inr 1) w)) : pX 197 0 [some (.ref 0), some (iv x1), none] [] w Q :=
  w_f b197 d197_0 rfl rfl rfl <| w_f b197 d197_1 rfl rfl rfl <| w_f b197 d197_2 rfl rfl rfl <| w_f b197 d197_3 rfl rfl rfl <| w_cc b197 d197_4 rfl (pcl_v (n := 3) rfl rfl rfl (by decide +kernel) (sh_isOb hs (tlt 0 rfl) tbC_0) rfl rfl) rfl <| c76 hs hx1 ⟨by decide, by decide⟩ ⟨by decide, by decide⟩ (fun c1 => w_f b197 d197_7 rfl rfl rfl <| w_gr b197 d197_8 rfl rfl hs (tlt 0 rfl) tbC_0 rfl (by decide) <| w_f b197 d197_11 rfl rfl rfl <| w_gr b197 d197_12 rfl rfl hs (tlt 0 rfl) tbC_0 rfl (bxr0 (bxc 1 rfl)) <| w_c b197 d197_15 rfl (pcl_v (n := 1) rfl rfl rfl (by decide +kernel) (sh_isOb hs (tlt 27 rfl) tbC_27) rfl rfl) rfl _ (hK_V fun w2 hkw2 => w_f b197 d197_18 rfl rfl rfl <| w_gr b197 d197_19 rfl rfl hkw2.1 (tlt 0 rfl) tbC_0 rfl (bxr0 (bxc 1 rfl)) <| w_gi b197 d197_22 rfl rfl hkw2.1 (bx00 (bxc 1 rfl)) (tb0 (bxc 1 rfl)) rfl <| w_f b197 d197_25 rfl rfl rfl <| w_f b197 d197_26 rfl rfl rfl <| w_gr b197 d197_27 rfl rfl hkw2.1 (tlt 0 rfl) tbC_0 rfl (bxr0 (bxc 1 rfl)) <| w_f b197 d197_30 rfl rfl rfl <| w_pi b197 d197_31 rfl rfl hkw2.1 (bx00 (bxc 1 rfl)) (tb0 (bxc 1 rfl)) rfl rfl rfl <| w_f b197 d197_34 rfl rfl rfl <| w_ri b197 d197_35 r197 (hkw2.2 _ rfl)) (h.1 c1)) (fun c1 => h.2 c1)
theorem e197 {w : PW} {Q : PO → PW → Prop} {x1 : Int} (hs : Sh w) (hx1 : bd x1) (h : ((0 ≤ x1 ∧ x1 ≤ 3) → pC 164 [.ref 27, .ref 1] w (kV fun w2 => Sh w2 ∧ ∀ w4 : PW, w4 = sI w2 1 2 x1 → Q (.inl (some (iv (gI w2 1 2)))) w4)) ∧ (¬ (0 ≤ x1 ∧ x1 ≤ 3) → Q (.inr 1) w)) : pC 197 [.ref 0, iv x1] w Q :=
  (pC_in (Nat.le_of_ble_eq_true rfl) rfl Q).mpr (v197_0 hs hx1 h)
/-! 199: PinBarrel.shift(I)I -/
theorem b199 : mB 199 = cX8_shift := rfl
theorem r199 : mR 199 = (some .int) := rfl
theorem d199_0 : decode cX8_shift 0 = .ok (.aload_n 0, 1) := by decide +kernel
theorem d199_1 : decode cX8_shift 1 = .ok (.iload_n 1, 1) := by decide +kernel
theorem d199_2 : decode cX8_shift 2 = .ok (.invokevirtual 189, 3) := by decide +kernel
theorem d199_5 : decode cX8_shift 5 = .ok (.aload_n 0, 1) := by decide +kernel
theorem d199_6 : decode cX8_shift 6 = .ok (.getfield 22, 3) := by decide +kernel
theorem d199_9 : decode cX8_shift 9 = .ok (.aload_n 0, 1) := by decide +kernel
theorem d199_10 : decode cX8_shift 10 = .ok (.getfield 12, 3) := by decide +kernel
theorem d199_13 : decode cX8_shift 13 = .ok (.invokevirtual 326, 3) := by decide +kernel
theorem d199_16 : decode cX8_shift 16 = .ok (.aload_n 0, 1) := by decide +kernel
theorem d199_17 : decode cX8_shift 17 = .ok (.getfield 12, 3) := by decide +kernel
theorem d199_20 : decode cX8_shift 20 = .ok (.getfield 115, 3) := by decide +kernel
theorem d199_23 : decode cX8_shift 23 = .ok (.getfield 119, 3) := by decide +kernel
theorem d199_26 : decode cX8_shift 26 = .ok (.istore_n 2, 1) := by decide +kernel
theorem d199_27 : decode cX8_shift 27 = .ok (.aload_n 0, 1) := by decide +kernel
theorem d199_28 : decode cX8_shift 28 = .ok (.getfield 12, 3) := by decide +kernel
theorem d199_31 : decode cX8_shift 31 = .ok (.getfield 115, 3) := by decide +kernel
theorem d199_34 : decode cX8_shift 34 = .ok (.iload_n 1, 1) := by decide +kernel
theorem d199_35 : decode cX8_shift 35 = .ok (.putfield 119, 3) := by decide +kernel
theorem d199_38 : decode cX8_shift 38 = .ok (.iload_n 2, 1) := by decide +kernel
theorem d199_39 : decode cX8_shift 39 = .ok (.ireturn, 1) := by decide +kernel
theorem v199_0 {w : PW} {Q : PO → PW → Prop} {x1 : Int} (hs : Sh w) (hx1 : bd x1) (h : (bd ((gI w 1 1) - 1)) ∧ ((0 ≤ x1 ∧ x1 < gI w 1 1) → pC 164 [.ref 27, .ref 1] w (kV fun w2 => Sh w2 ∧ ∀ w4 : PW, w4 = sI w2 (1 + 8) 0 x1 → Q (.inl (some (iv (gI w2 (1 + 8) 0)))) w4)) ∧ (¬ (0 ≤ x1 ∧ x1 < gI w 1 1) → Q (.inr 1) w)) : pX 199 0 [some (.ref 0), some (iv x1), none] [] w Q :=
  w_f b199 d199_0 rfl rfl rfl <| w_f b199 d199_1 rfl rfl rfl <| w_cc b199 d199_2 rfl (pcl_v (n := 1) rfl rfl rfl (by decide +kernel) (sh_isOb hs (tlt 0 rfl) tbC_0) rfl rfl) rfl <| c77 hs hx1 h.1 (fun c1 => w_f b199 d199_5 rfl rfl rfl <| w_gr b199 d199_6 rfl rfl hs (tlt 0 rfl) tbC_0 rfl (by decide) <| w_f b199 d199_9 rfl rfl rfl <| w_gr b199 d199_10 rfl rfl hs (tlt 0 rfl) tbC_0 rfl (bxr0 (bxc 1 rfl)) <| w_c b199 d199_13 rfl (pcl_v (n := 1) rfl rfl rfl (by decide +kernel) (sh_isOb hs (tlt 27 rfl) tbC_27) rfl rfl) rfl _ (hK_V fun w2 hkw2 => w_f b199 d199_16 rfl rfl rfl <| w_gr b199 d199_17 rfl rfl hkw2.1 (tlt 0 rfl) tbC_0 rfl (bxr0 (bxc 1 rfl)) <| w_gr b199 d199_20 rfl rfl hkw2.1 (bx00 (bxc 1 rfl)) (tb0 (bxc 1 rfl)) rfl (bxr (bxc 1 rfl) 8 rfl) <| w_gi b199 d199_23 rfl rfl hkw2.1 (bxk (bxc 1 rfl) 8 rfl) (tb8 (bxc 1 rfl)) rfl <| w_f b199 d199_26 rfl rfl rfl <| w_f b199 d199_27 rfl rfl rfl <| w_gr b199 d199_28 rfl rfl hkw2.1 (tlt 0 rfl) tbC_0 rfl (bxr0 (bxc 1 rfl)) <| w_gr b199 d199_31 rfl rfl hkw2.1 (bx00 (bxc 1 rfl)) (tb0 (bxc 1 rfl)) rfl (bxr (bxc 1 rfl) 8 rfl) <| w_f b199 d199_34 rfl rfl rfl <| w_pi b199 d199_35 rfl rfl hkw2.1 (bxk (bxc 1 rfl) 8 rfl) (tb8 (bxc 1 rfl)) rfl rfl rfl <| w_f b199 d199_38 rfl rfl rfl <| w_ri b199 d199_39 r199 (hkw2.2 _ rfl)) (h.2.1 c1)) (fun c1 => h.2.2 c1)
theorem e199 {w : PW} {Q : PO → PW → Prop} {x1 : Int} (hs : Sh w) (hx1 : bd x1) (h : (bd ((gI w 1 1) - 1)) ∧ ((0 ≤ x1 ∧ x1 < gI w 1 1) → pC 164 [.ref 27, .ref 1] w (kV fun w2 => Sh w2 ∧ ∀ w4 : PW, w4 = sI w2 (1 + 8) 0 x1 → Q (.inl (some (iv (gI w2 (1 + 8) 0)))) w4)) ∧ (¬ (0 ≤ x1 ∧ x1 < gI w 1 1) → Q (.inr 1) w)) : pC 199 [.ref 0, iv x1] w Q :=
  (pC_in (Nat.le_of_ble_eq_true rfl) rfl Q).mpr (v199_0 hs hx1 h)
/-! 201: PinBarrel.run(I)I -/
theorem b201 : mB 201 = cX8_run := rfl
theorem r201 : mR 201 = (some .int) := rfl
theorem d201_0 : decode cX8_run 0 = .ok (.aload_n 0, 1) := by decide +kernel
theorem d201_1 : decode cX8_run 1 = .ok (.iload_n 1, 1) := by decide +kernel
theorem d201_2 : decode cX8_run 2 = .ok (.iconst 1, 1) := by decide +kernel
theorem d201_3 : decode cX8_run 3 = .ok (.sipush 200, 3) := by decide +kernel
theorem d201_6 : decode cX8_run 6 = .ok (.invokevirtual 223, 3) := by decide +kernel
theorem d201_9 : decode cX8_run 9 = .ok (.aload_n 0, 1) := by decide +kernel
theorem d201_10 : decode cX8_run 10 = .ok (.getfield 12, 3) := by decide +kernel
theorem d201_13 : decode cX8_run 13 = .ok (.getfield 115, 3) := by decide +kernel
theorem d201_16 : decode cX8_run 16 = .ok (.getfield 127, 3) := by decide +kernel
theorem d201_19 : decode cX8_run 19 = .ok (.iload_n 1, 1) := by decide +kernel
theorem d201_20 : decode cX8_run 20 = .ok (.iadd, 1) := by decide +kernel
theorem d201_21 : decode cX8_run 21 = .ok (.ldc_w 362, 3) := by decide +kernel
theorem d201_24 : decode cX8_run 24 = .ok (.if_icmp .le 6, 3) := by decide +kernel
theorem d201_27 : decode cX8_run 27 = .ok (.bipush (-2), 2) := by decide +kernel
theorem d201_29 : decode cX8_run 29 = .ok (.ireturn, 1) := by decide +kernel
theorem d201_30 : decode cX8_run 30 = .ok (.aload_n 0, 1) := by decide +kernel
theorem d201_31 : decode cX8_run 31 = .ok (.getfield 22, 3) := by decide +kernel
theorem d201_34 : decode cX8_run 34 = .ok (.aload_n 0, 1) := by decide +kernel
theorem d201_35 : decode cX8_run 35 = .ok (.getfield 12, 3) := by decide +kernel
theorem d201_38 : decode cX8_run 38 = .ok (.invokevirtual 326, 3) := by decide +kernel
theorem d201_41 : decode cX8_run 41 = .ok (.aload_n 0, 1) := by decide +kernel
theorem d201_42 : decode cX8_run 42 = .ok (.getfield 12, 3) := by decide +kernel
theorem d201_45 : decode cX8_run 45 = .ok (.getfield 115, 3) := by decide +kernel
theorem d201_48 : decode cX8_run 48 = .ok (.getfield 130, 3) := by decide +kernel
theorem d201_51 : decode cX8_run 51 = .ok (.istore_n 2, 1) := by decide +kernel
theorem d201_52 : decode cX8_run 52 = .ok (.aload_n 0, 1) := by decide +kernel
theorem d201_53 : decode cX8_run 53 = .ok (.getfield 12, 3) := by decide +kernel
theorem d201_56 : decode cX8_run 56 = .ok (.iload_n 1, 1) := by decide +kernel
theorem d201_57 : decode cX8_run 57 = .ok (.invokevirtual 317, 3) := by decide +kernel
theorem d201_60 : decode cX8_run 60 = .ok (.aload_n 0, 1) := by decide +kernel
theorem d201_61 : decode cX8_run 61 = .ok (.getfield 12, 3) := by decide +kernel
theorem d201_64 : decode cX8_run 64 = .ok (.getfield 115, 3) := by decide +kernel
theorem d201_67 : decode cX8_run 67 = .ok (.getfield 130, 3) := by decide +kernel
theorem d201_70 : decode cX8_run 70 = .ok (.iload_n 2, 1) := by decide +kernel
theorem d201_71 : decode cX8_run 71 = .ok (.isub, 1) := by decide +kernel
theorem d201_72 : decode cX8_run 72 = .ok (.ireturn, 1) := by decide +kernel
theorem v201_0 {w : PW} {Q : PO → PW → Prop} {x1 : Int} (hs : Sh w) (hx1 : bd x1) (h : ((1 ≤ x1 ∧ x1 ≤ 200) → (bd ((gI w (1 + 8) 2) + x1)) ∧ (((gI w (1 + 8) 2) + x1) ≤ 100000 → pC 164 [.ref 27, .ref 1] w (kV fun w3 => Sh w3 ∧ pC 48 [.ref 1, iv x1] w3 (kV fun w5 => Sh w5 ∧ Q (.inl (some (iv ((gI w5 (1 + 8) 3) - (gI w3 (1 + 8) 3))))) w5))) ∧ (100000 < ((gI w (1 + 8) 2) + x1) → Q (.inl (some (iv ((-2))))) w)) ∧ (¬ (1 ≤ x1 ∧ x1 ≤ 200) → Q (.inr 1) w)) : pX 201 0 [some (.ref 0), some (iv x1), none] [] w Q :=
  w_f b201 d201_0 rfl rfl rfl <| w_f b201 d201_1 rfl rfl rfl <| w_f b201 d201_2 rfl rfl rfl <| w_f b201 d201_3 rfl rfl rfl <| w_cc b201 d201_6 rfl (pcl_v (n := 3) rfl rfl rfl (by decide +kernel) (sh_isOb hs (tlt 0 rfl) tbC_0) rfl rfl) rfl <| c76 hs hx1 ⟨by decide, by decide⟩ ⟨by decide, by decide⟩ (fun c1 => w_f b201 d201_9 rfl rfl rfl <| w_gr b201 d201_10 rfl rfl hs (tlt 0 rfl) tbC_0 rfl (bxr0 (bxc 1 rfl)) <| w_gr b201 d201_13 rfl rfl hs (bx00 (bxc 1 rfl)) (tb0 (bxc 1 rfl)) rfl (bxr (bxc 1 rfl) 8 rfl) <| w_gi b201 d201_16 rfl rfl hs (bxk (bxc 1 rfl) 8 rfl) (tb8 (bxc 1 rfl)) rfl <| w_f b201 d201_19 rfl rfl rfl <| w_f b201 d201_20 rfl (pf_iadd (gI w (1 + 8) 2) x1) rfl <| w_ldcwI b201 d201_21 rfl rfl <| w_icle b201 d201_24 rfl rfl (by decide +kernel) (h.1 c1).1 ⟨by decide, by decide⟩ (fun c2 => w_f b201 d201_30 rfl rfl rfl <| w_gr b201 d201_31 rfl rfl hs (tlt 0 rfl) tbC_0 rfl (by decide) <| w_f b201 d201_34 rfl rfl rfl <| w_gr b201 d201_35 rfl rfl hs (tlt 0 rfl) tbC_0 rfl (bxr0 (bxc 1 rfl)) <| w_c b201 d201_38 rfl (pcl_v (n := 1) rfl rfl rfl (by decide +kernel) (sh_isOb hs (tlt 27 rfl) tbC_27) rfl rfl) rfl _ (hK_V fun w3 hkw3 => w_f b201 d201_41 rfl rfl rfl <| w_gr b201 d201_42 rfl rfl hkw3.1 (tlt 0 rfl) tbC_0 rfl (bxr0 (bxc 1 rfl)) <| w_gr b201 d201_45 rfl rfl hkw3.1 (bx00 (bxc 1 rfl)) (tb0 (bxc 1 rfl)) rfl (bxr (bxc 1 rfl) 8 rfl) <| w_gi b201 d201_48 rfl rfl hkw3.1 (bxk (bxc 1 rfl) 8 rfl) (tb8 (bxc 1 rfl)) rfl <| w_f b201 d201_51 rfl rfl rfl <| w_f b201 d201_52 rfl rfl rfl <| w_gr b201 d201_53 rfl rfl hkw3.1 (tlt 0 rfl) tbC_0 rfl (bxr0 (bxc 1 rfl)) <| w_f b201 d201_56 rfl rfl rfl <| w_c b201 d201_57 rfl (pcl_v (n := 1) rfl rfl rfl (by decide +kernel) (sh_isOb hkw3.1 (bx00 (bxc 1 rfl)) (tb0 (bxc 1 rfl))) rfl rfl) rfl _ (hK_V fun w5 hkw5 => w_f b201 d201_60 rfl rfl rfl <| w_gr b201 d201_61 rfl rfl hkw5.1 (tlt 0 rfl) tbC_0 rfl (bxr0 (bxc 1 rfl)) <| w_gr b201 d201_64 rfl rfl hkw5.1 (bx00 (bxc 1 rfl)) (tb0 (bxc 1 rfl)) rfl (bxr (bxc 1 rfl) 8 rfl) <| w_gi b201 d201_67 rfl rfl hkw5.1 (bxk (bxc 1 rfl) 8 rfl) (tb8 (bxc 1 rfl)) rfl <| w_f b201 d201_70 rfl rfl rfl <| w_f b201 d201_71 rfl (pf_isub _ _) rfl <| w_ri b201 d201_72 r201 hkw5.2) hkw3.2) ((h.1 c1).2.1 c2)) (fun c2 => w_f b201 d201_27 rfl rfl rfl <| w_ri b201 d201_29 r201 ((h.1 c1).2.2 c2))) (fun c1 => h.2 c1)
theorem e201 {w : PW} {Q : PO → PW → Prop} {x1 : Int} (hs : Sh w) (hx1 : bd x1) (h : ((1 ≤ x1 ∧ x1 ≤ 200) → (bd ((gI w (1 + 8) 2) + x1)) ∧ (((gI w (1 + 8) 2) + x1) ≤ 100000 → pC 164 [.ref 27, .ref 1] w (kV fun w3 => Sh w3 ∧ pC 48 [.ref 1, iv x1] w3 (kV fun w5 => Sh w5 ∧ Q (.inl (some (iv ((gI w5 (1 + 8) 3) - (gI w3 (1 + 8) 3))))) w5))) ∧ (100000 < ((gI w (1 + 8) 2) + x1) → Q (.inl (some (iv ((-2))))) w)) ∧ (¬ (1 ≤ x1 ∧ x1 ≤ 200) → Q (.inr 1) w)) : pC 201 [.ref 0, iv x1] w Q :=
  (pC_in (Nat.le_of_ble_eq_true rfl) rfl Q).mpr (v201_0 hs hx1 h)
def sa165 (m : Row) (x1 x2 x3 : Int) : AR := aP (0 ≤ x1 ∧ x1 < m 1) 1 (aP (0 ≤ x2 ∧ x2 < m 0) 1 (aP (0 ≤ x3 ∧ x3 ≤ 23) 1 (aQ (m 5 < 60) (rI (m 5), some (rNote m x1 x2 x3)) (rI (-2), none))))
theorem c165 {w : PW} {Q : PO → PW → Prop} {H : Nat → Row} {n : Nat} {m : Row} {x1 x2 x3 : Int} (hs : Sh w) (hB : BR w 1 m) (hH : HR w H n) (hx1 : bd x1) (hx2 : bd x2) (hx3 : bd x3) (h : ∀ w2, AO w H n m (sa165 m x1 x2 x3).2 w2 → Q (sa165 m x1 x2 x3).1 w2) : pC 165 [.ref 0, iv x1, iv x2, iv x3] w Q := by
  have h0 := hB.ok.s
  have h1 := hB.ok.u
  have no := AO.no hs hB hH
  refine e165 hs hx1 hx2 hx3 ?_
  rw [hB.u, hB.s, hB.n]
  refine ⟨⟨by omega, by omega⟩, fun q1 => ⟨⟨by omega, by omega⟩, fun q2 => ⟨fun q3 => ⟨fun q4 => ?_, fun q4 => ?_⟩, fun q3 => ap_f (ap_t (ap_t h q1) q2) q3 w no⟩, fun q2 => ap_f (ap_t h q1) q2 w no⟩, fun q1 => ap_f h q1 w no⟩
  · refine c164 hs hB hH (fun w2 s2 H2 k2 => ⟨s2, ?_⟩)
    have hB2 : BR w2 1 m := hB.cells (fun k hk => k2 _ (by omega) (by omega))
    refine c26 s2 hB2 q4 q1 q2 ⟨q3.1, by omega⟩ (fun w3 s3 b3 k3 => ⟨s3, ?_⟩)
    have e : gI w3 (1 + 4) 0 - 1 = m 5 := by rw [b3.n, rNote_5]; omega
    rw [e]
    exact aq_t (ap_t (ap_t (ap_t h q1) q2) q3) q4 w3 (AO.yes s3 H2 k2 b3 k3)
  · exact aq_f (ap_t (ap_t (ap_t h q1) q2) q3) (by omega) w no
def sa168 (m : Row) (x : Int) : AR := aP (0 ≤ x ∧ x < m 5) 2 (rI (m 5 - 1), some (rDrop m x.toNat))
theorem c168 {w : PW} {Q : PO → PW → Prop} {H : Nat → Row} {n : Nat} {m : Row} {x1 : Int} (hs : Sh w) (hB : BR w 1 m) (hH : HR w H n) (hx1 : bd x1) (h : ∀ w2, AO w H n m (sa168 m x1).2 w2 → Q (sa168 m x1).1 w2) : pC 168 [.ref 0, iv x1] w Q := by
  have no := AO.no hs hB hH
  refine e168 hs hx1 ?_
  rw [show gI w 5 0 = m 5 from hB.n]
  refine ⟨fun q1 => ?_, fun q1 => ap_f h q1 w no⟩
  refine c164 hs hB hH (fun w2 s2 H2 k2 => ⟨s2, ?_⟩)
  have hB2 : BR w2 1 m := hB.cells (fun k hk => k2 _ (by omega) (by omega))
  have h2 := ap_t h q1
  obtain ⟨x, rfl⟩ := nat_of q1.1
  refine c167 s2 hB2 q1.2 (fun w3 s3 b3 k3 => ⟨s3, ?_⟩)
  rw [b3.n, rDrop_5]
  exact h2 w3 (AO.yes s3 H2 k2 b3 k3)
def sa170 (m : Row) (x1 x2 : Int) : AR := aP (0 ≤ x1 ∧ x1 ≤ 23) 1 (aP (1 ≤ x2 ∧ x2 ≤ 12) 1 (aQ (m 4 < 12) (rI (m 4), some (rTooth m x1 x2)) (rI (-2), none)))
theorem c170 {w : PW} {Q : PO → PW → Prop} {H : Nat → Row} {n : Nat} {m : Row} {x1 x2 : Int} (hs : Sh w) (hB : BR w 1 m) (hH : HR w H n) (hx1 : bd x1) (hx2 : bd x2) (h : ∀ w2, AO w H n m (sa170 m x1 x2).2 w2 → Q (sa170 m x1 x2).1 w2) : pC 170 [.ref 0, iv x1, iv x2] w Q := by
  have no := AO.no hs hB hH
  refine e170 hs hx1 hx2 ?_
  rw [hB.t]
  refine ⟨fun q1 => ⟨fun q2 => ⟨fun q3 => ?_, fun q3 => ?_⟩, fun q2 => ap_f (ap_t h q1) q2 w no⟩, fun q1 => ap_f h q1 w no⟩
  · refine c164 hs hB hH (fun w2 s2 H2 k2 => ⟨s2, ?_⟩)
    have hB2 : BR w2 1 m := hB.cells (fun k hk => k2 _ (by omega) (by omega))
    refine c24 s2 hB2 q3 ⟨q1.1, by omega⟩ q2 (fun w3 s3 b3 k3 => ⟨s3, ?_⟩)
    have e : gI w3 1 4 - 1 = m 4 := by rw [b3.t, rTooth_4]; omega
    rw [e]
    exact aq_t (ap_t (ap_t h q1) q2) q3 w3 (AO.yes s3 H2 k2 b3 k3)
  · exact aq_f (ap_t (ap_t h q1) q2) (by omega) w no
def sa172 (m : Row) (x1 x2 : Int) : AR := aP (0 ≤ x1 ∧ x1 < m 4) 2 (aP (1 ≤ x2 ∧ x2 ≤ 12) 1 (rI (rT m x1.toNat 1), some (rOne m (12 + 5 * x1.toNat) x2)))
theorem c172 {w : PW} {Q : PO → PW → Prop} {H : Nat → Row} {n : Nat} {m : Row} {x1 x2 : Int} (hs : Sh w) (hB : BR w 1 m) (hH : HR w H n) (hx1 : bd x1) (hx2 : bd x2) (h : ∀ w2, AO w H n m (sa172 m x1 x2).2 w2 → Q (sa172 m x1 x2).1 w2) : pC 172 [.ref 0, iv x1, iv x2] w Q := by
  have no := AO.no hs hB hH
  have h4 := hB.ok.t
  refine e172 hs hx1 hx2 ?_
  rw [hB.t]
  refine ⟨fun q1 => ⟨fun q2 => ?_, fun q2 => ap_f (ap_t h q1) q2 w no⟩, fun q1 => ap_f h q1 w no⟩
  refine c164 hs hB hH (fun w2 s2 H2 k2 => ⟨s2, ⟨by omega, by omega⟩, ⟨by omega, by omega⟩, fun w3 e3 => ?_⟩)
  have hB2 : BR w2 1 m := hB.cells (fun k hk => k2 _ (by omega) (by omega))
  obtain ⟨s3, b3, k3⟩ := brOne (f := 2) (J := 12 + 5 * x1.toNat) hB2 s2 (Or.inr (Or.inr (Or.inr ⟨rfl, by omega, rfl⟩))) (rOne_ok hB.ok (Or.inr (Or.inr (Or.inr ⟨x1.toNat, by omega, Or.inr rfl⟩))) (by omega) (by omega) (by omega) (fun k hk => by omega) (fun k hk => q2)) hx2 (slt_a (tb2 bx1)) e3
  rw [(hB2.T (t := x1.toNat) (by omega)).2.1]
  exact ap_t (ap_t h q1) q2 w3 (AO.yes s3 H2 k2 b3 (fun c hc => k3 c (by omega)))
def sa174 (m : Row) (x1 x2 : Int) : AR := aP (0 ≤ x1 ∧ x1 < m 4) 2 (aP (0 ≤ x2 ∧ x2 ≤ 23) 1 (rI (rT m x1.toNat 0), some (rOne m (11 + 5 * x1.toNat) x2)))
theorem c174 {w : PW} {Q : PO → PW → Prop} {H : Nat → Row} {n : Nat} {m : Row} {x1 x2 : Int} (hs : Sh w) (hB : BR w 1 m) (hH : HR w H n) (hx1 : bd x1) (hx2 : bd x2) (h : ∀ w2, AO w H n m (sa174 m x1 x2).2 w2 → Q (sa174 m x1 x2).1 w2) : pC 174 [.ref 0, iv x1, iv x2] w Q := by
  have no := AO.no hs hB hH
  have h4 := hB.ok.t
  refine e174 hs hx1 hx2 ?_
  rw [hB.t]
  refine ⟨fun q1 => ⟨fun q2 => ?_, fun q2 => ap_f (ap_t h q1) q2 w no⟩, fun q1 => ap_f h q1 w no⟩
  refine c164 hs hB hH (fun w2 s2 H2 k2 => ⟨s2, ⟨by omega, by omega⟩, ⟨by omega, by omega⟩, fun w3 e3 => ?_⟩)
  have hB2 : BR w2 1 m := hB.cells (fun k hk => k2 _ (by omega) (by omega))
  obtain ⟨s3, b3, k3⟩ := brOne (f := 1) (J := 11 + 5 * x1.toNat) hB2 s2 (Or.inr (Or.inr (Or.inl ⟨rfl, by omega, rfl⟩))) (rOne_ok hB.ok (Or.inr (Or.inr (Or.inr ⟨x1.toNat, by omega, Or.inl rfl⟩))) (by omega) (by omega) (by omega) (fun k hk => by omega) (fun k hk => by omega)) hx2 (slt_a (tb1 bx1)) e3
  rw [(hB2.T (t := x1.toNat) (by omega)).1]
  exact ap_t (ap_t h q1) q2 w3 (AO.yes s3 H2 k2 b3 (fun c hc => k3 c (by omega)))
def sa176 (m : Row) (x1 x2 x3 x4 : Int) : AR := aP (0 ≤ x1 ∧ x1 < m 1) 1 (aP (0 ≤ x2 ∧ x2 < m 0) 1 (aP (0 ≤ x3 ∧ x3 < m 4) 2 (rI (if rPin m x1.toNat x2.toNat x3.toNat = true then 1 else 0), some (rPut m x1.toNat x2.toNat (rOn m x1.toNat x2.toNat x3.toNat x4)))))
theorem c176 {w : PW} {Q : PO → PW → Prop} {H : Nat → Row} {n : Nat} {m : Row} {x1 x2 x3 x4 : Int} (hs : Sh w) (hB : BR w 1 m) (hH : HR w H n) (hx1 : bd x1) (hx2 : bd x2) (hx3 : bd x3) (hx4 : bd x4) (h : ∀ w2, AO w H n m (sa176 m x1 x2 x3 x4).2 w2 → Q (sa176 m x1 x2 x3 x4).1 w2) : pC 176 [.ref 0, iv x1, iv x2, iv x3, iv x4] w Q := by
  have no := AO.no hs hB hH
  have h0 := hB.ok.s
  have h1 := hB.ok.u
  have h4 := hB.ok.t
  refine e176 hs hx1 hx2 hx3 hx4 ?_
  rw [hB.u, hB.s, hB.t]
  refine ⟨⟨by omega, by omega⟩, fun q1 => ⟨⟨by omega, by omega⟩, fun q2 => ⟨fun q3 => ?_, fun q3 => ap_f (ap_t (ap_t h q1) q2) q3 w no⟩, fun q2 => ap_f (ap_t h q1) q2 w no⟩, fun q1 => ap_f h q1 w no⟩
  refine c164 hs hB hH (fun w2 s2 H2 k2 => ⟨s2, ?_⟩)
  have hB2 : BR w2 1 m := hB.cells (fun k hk => k2 _ (by omega) (by omega))
  have h2 := ap_t (ap_t (ap_t h q1) q2) q3
  obtain ⟨t, rfl⟩ := nat_of q3.1
  rw [hB2.u, hB2.pin q1 q2 q3.2]
  obtain ⟨u, rfl⟩ := nat_of q1.1
  obtain ⟨s, rfl⟩ := nat_of q2.1
  refine ⟨hB2.tb q1 (by omega), by omega, c31 s2 hB2 q1.2 q2.2 q3.2 hx4 (fun w3 s3 b3 k3 => ⟨s3, ?_⟩)⟩
  exact h2 w3 (AO.yes s3 H2 k2 b3 k3)
theorem l178_27 {w : PW} {Q : PO → PW → Prop} {u : Nat} {m : Row} {z : Int} (hB : BR w 1 m) (hu : (u : Int) < m 1) (hz : bd z) (h : ∀ w2, TrI (fun _ => 0) w w2 1 u (m 1).toNat (m 4).toNat → Q (.inl (some (iv z))) w2) : ∀ k i : Nat, i + k = (m 4).toNat → ∀ w', TrI (fun _ => 0) w w' 1 u (m 1).toNat i → pX 178 27 [some (.ref 0), some (iv (u : Nat)), some (iv z), some (iv (i : Nat))] [] w' Q := by
  have h4 := hB.ok.t
  have h1 := hB.ok.u
  intro k
  induction k with
  | zero =>
    intro i hi w' hI
    obtain ⟨b0, b1, b4⟩ := hI.br hB
    refine v178_27 hI.1 (bdk (by omega)) hz (bdk (by omega)) ?_
    rw [b4]
    refine ⟨fun _ => ?_, fun q => by omega⟩
    rw [show i = (m 4).toNat from by omega] at hI
    exact h w' hI
  | succ k ih =>
    intro i hi w' hI
    obtain ⟨b0, b1, b4⟩ := hI.br hB
    have hb := hB.lPb hu (show i < 12 by omega)
    refine v178_27 hI.1 (bdk (by omega)) hz (bdk (by omega)) ?_
    rw [b4, b1]
    refine ⟨fun q => by omega, fun _ => ⟨hb.1, hb.2, fun w2 e2 => ?_⟩⟩
    have hN := hI.s hB hu (by omega)
    rw [← e2] at hN
    exact ih (i + 1) (by omega) w2 hN
def sa178 (m : Row) (x : Int) : AR := aU m x (rI (sPins m x.toNat), some (rClrP m x.toNat))
theorem c178 {w : PW} {Q : PO → PW → Prop} {H : Nat → Row} {n : Nat} {m : Row} {x1 : Int} (hs : Sh w) (hB : BR w 1 m) (hH : HR w H n) (hx1 : bd x1) (h : ∀ w2, AO w H n m (sa178 m x1).2 w2 → Q (sa178 m x1).1 w2) : pC 178 [.ref 0, iv x1] w Q := by
  have no := AO.no hs hB hH
  have h1 := hB.ok.u
  refine e178 hs hx1 ?_
  rw [hB.u]
  refine ⟨⟨by omega, by omega⟩, fun q1 => ?_, fun q1 => ap_f h q1 w no⟩
  refine c164 hs hB hH (fun w2 s2 H2 k2 => ⟨s2, ?_⟩)
  have hB2 : BR w2 1 m := hB.cells (fun k hk => k2 _ (by omega) (by omega))
  have h2 := ap_t h q1
  obtain ⟨u, rfl⟩ := nat_of q1.1
  rw [Int.toNat_natCast] at h2
  have hp := sPins_bd hB.ok u
  have hz : bd (sPins m u) := ⟨by omega, by omega⟩
  refine c58 s2 hB2 q1.2 (kI_iv hz ⟨s2, ?_⟩)
  refine l178_27 hB2 q1.2 hz (fun w3 hI => h2 w3 (AO.yes hI.1 H2 k2 (hI.fin hB2 q1.2 (fun s hs9 => ⟨bd0, fun t ht q => by rw [tI_0] at q; exact absurd q (by decide)⟩) (fun t s ht hs9 => by rw [tL_0, tI_0, Bool.and_false])) (fun c hc => hI.2.1 c (by omega)))) _ 0 (Nat.zero_add _) w2 (TrI.z s2)
def sTrB (m : Row) (x y : Int) (i : Nat) : Bool := decide (rN m i 0 = x) && !decide (0 ≤ rN m i 2 + y ∧ rN m i 2 + y < 24)
theorem sTrB_iff {m : Row} {x y : Int} (h5 : 0 ≤ m 5) : cnt (sTrB m x y) (m 5).toNat = 0 ↔ ∀ i : Nat, (i : Int) < m 5 → rN m i 0 = x → 0 ≤ rN m i 2 + y ∧ rN m i 2 + y < 24 := by
  constructor
  · intro h i hi q
    by_cases q2 : 0 ≤ rN m i 2 + y ∧ rN m i 2 + y < 24
    · exact q2
    · have := cnt_pos (P := sTrB m x y) (i := i) (n := (m 5).toNat) (by omega) (by unfold sTrB; rw [decide_eq_true q, decide_eq_false q2]; rfl)
      omega
  · intro h
    refine cnt_zero (fun i hi => ?_)
    unfold sTrB
    by_cases q : rN m i 0 = x
    · rw [decide_eq_true (h i (by omega) q), Bool.not_true, Bool.and_false]
    · rw [decide_eq_false q, Bool.false_and]
def sa185 (m : Row) (x y : Int) : AR := aU m x (aP (-23 ≤ y ∧ y ≤ 23) 1 (aQ (cnt (sTrB m x y) (m 5).toNat = 0) (rI (sNotes (rSetN m x 2 (fun z => z + y)) x : Nat), some (rSetN m x 2 (fun z => z + y))) (rI (-3), none)))
theorem c185 {w : PW} {Q : PO → PW → Prop} {H : Nat → Row} {n : Nat} {m : Row} {x1 x2 : Int} (hs : Sh w) (hB : BR w 1 m) (hH : HR w H n) (hx1 : bd x1) (hx2 : bd x2) (h : ∀ w2, AO w H n m (sa185 m x1 x2).2 w2 → Q (sa185 m x1 x2).1 w2) : pC 185 [.ref 0, iv x1, iv x2] w Q := by
  have no := AO.no hs hB hH
  have h1 := hB.ok.u
  have h5 := hB.ok.n
  refine e185 hs hx1 hx2 ?_
  rw [hB.u]
  refine ⟨⟨by omega, by omega⟩, fun q1 => ⟨fun q2 => ?_, fun q2 => ap_f (ap_t h q1) q2 w no⟩, fun q1 => ap_f h q1 w no⟩
  have h2 := ap_t (ap_t h q1) q2
  refine c183 hs hB hx1 q2 (fun q => kI_iv bd0 ⟨hs, fun z => absurd rfl z, fun _ => aq_f h2 (fun z => q ((sTrB_iff h5.1).mp z)) w no⟩) (fun q => kI_iv ⟨by decide, by decide⟩ ⟨hs, fun _ => ?_, fun z => absurd z (by decide)⟩)
  refine c164 hs hB hH (fun w2 s2 H2 k2 => ⟨s2, ?_⟩)
  have hB2 : BR w2 1 m := hB.cells (fun k hk => k2 _ (by omega) (by omega))
  refine c184 s2 hB2 hx1 q2 q (fun w3 s3 b3 k3 => ⟨s3, c106 s3 b3 hx1 (kI_iv ?_ ⟨s3, ?_⟩)⟩)
  · have e1 : sNotes (rSetN m x1 2 (fun z => z + x2)) x1 ≤ _ := cnt_le _ _
    have e5 := b3.ok.n
    exact ⟨by omega, by omega⟩
  · exact aq_t h2 ((sTrB_iff h5.1).mpr q) w3 (AO.yes s3 H2 k2 b3 (fun c hc => k3 c (by omega)))
def sTurnR (m : Row) (x y : Int) : Row := rSetN (rMoveP m x.toNat y.toNat) x 1 (fun z => wrp (z + y) (rMoveP m x.toNat y.toNat 0))
def sa188 (m : Row) (x y : Int) : AR := aU m x (aP (0 ≤ y ∧ y < m 0) 1 (rI (sPins (sTurnR m x y) x.toNat), some (sTurnR m x y)))
theorem c188 {w : PW} {Q : PO → PW → Prop} {H : Nat → Row} {n : Nat} {m : Row} {x1 x2 : Int} (hs : Sh w) (hB : BR w 1 m) (hH : HR w H n) (hx1 : bd x1) (hx2 : bd x2) (h : ∀ w2, AO w H n m (sa188 m x1 x2).2 w2 → Q (sa188 m x1 x2).1 w2) : pC 188 [.ref 0, iv x1, iv x2] w Q := by
  have no := AO.no hs hB hH
  have h1 := hB.ok.u
  have h0 := hB.ok.s
  refine e188 hs hx1 hx2 ?_
  rw [hB.u, hB.s]
  refine ⟨⟨by omega, by omega⟩, fun q1 => ⟨⟨by omega, by omega⟩, fun q2 => ?_, fun q2 => ap_f (ap_t h q1) q2 w no⟩, fun q1 => ap_f h q1 w no⟩
  have h2 := ap_t (ap_t h q1) q2
  refine c164 hs hB hH (fun w2 s2 H2 k2 => ⟨s2, ?_⟩)
  have hB2 : BR w2 1 m := hB.cells (fun k hk => k2 _ (by omega) (by omega))
  obtain ⟨u, rfl⟩ := nat_of q1.1
  obtain ⟨y, rfl⟩ := nat_of q2.1
  have em : rMoveP m u y 0 = m 0 := by unfold rMoveP; exact rSetP_lo (by decide)
  have em1 : rMoveP m u y 1 = m 1 := by unfold rMoveP; exact rSetP_lo (by decide)
  refine c143 s2 hB2 q1.2 q2.2 (fun w3 s3 b3 k3 => ⟨s3, ?_⟩)
  rw [b3.s]
  refine c187 s3 b3 hx1 (by rw [em]; exact q2) (fun w4 s4 b4 k4 => ⟨s4, ?_⟩)
  have hu4 : (u : Int) < sTurnR m u y 1 := by
    have : sTurnR m u y 1 = m 1 := by unfold sTurnR; rw [rSetN_lo (by decide)]; exact em1
    rw [this]; exact q1.2
  have hp := sPins_bd b4.ok u
  refine c58 s4 b4 hu4 (kI_iv ⟨by omega, by omega⟩ ⟨s4, ?_⟩)
  exact h2 w4 (AO.yes s4 H2 k2 b4 (fun c hc => by rw [k4 c (by omega), k3 c (by omega)]))
def sRevR (m : Row) (x : Int) : Row := rSetN (rMirP m x.toNat) x 1 (fun z => rMirP m x.toNat 0 - 1 - z)
def sa193 (m : Row) (x : Int) : AR := aU m x (rI (sPins (sRevR m x) x.toNat), some (sRevR m x))
theorem c193 {w : PW} {Q : PO → PW → Prop} {H : Nat → Row} {n : Nat} {m : Row} {x1 : Int} (hs : Sh w) (hB : BR w 1 m) (hH : HR w H n) (hx1 : bd x1) (h : ∀ w2, AO w H n m (sa193 m x1).2 w2 → Q (sa193 m x1).1 w2) : pC 193 [.ref 0, iv x1] w Q := by
  have no := AO.no hs hB hH
  have h1 := hB.ok.u
  refine e193 hs hx1 ?_
  rw [hB.u]
  refine ⟨⟨by omega, by omega⟩, fun q1 => ?_, fun q1 => ap_f h q1 w no⟩
  have h2 := ap_t h q1
  refine c164 hs hB hH (fun w2 s2 H2 k2 => ⟨s2, ?_⟩)
  have hB2 : BR w2 1 m := hB.cells (fun k hk => k2 _ (by omega) (by omega))
  obtain ⟨u, rfl⟩ := nat_of q1.1
  have em1 : rMirP m u 1 = m 1 := by unfold rMirP; exact rSetP_lo (by decide)
  refine c191 s2 hB2 q1.2 (fun w3 s3 b3 k3 => ⟨s3, ?_⟩)
  rw [b3.s]
  refine c192 s3 b3 hx1 (fun w4 s4 b4 k4 => ⟨s4, ?_⟩)
  have hu4 : (u : Int) < sRevR m u 1 := by
    have : sRevR m u 1 = m 1 := by unfold sRevR; rw [rSetN_lo (by decide)]; exact em1
    rw [this]; exact q1.2
  have hp := sPins_bd b4.ok u
  refine c58 s4 b4 hu4 (kI_iv ⟨by omega, by omega⟩ ⟨s4, ?_⟩)
  exact h2 w4 (AO.yes s4 H2 k2 b4 (fun c hc => by rw [k4 c (by omega), k3 c (by omega)]))
def sa195 (m : Row) (x : Int) : AR := aP (1 ≤ x ∧ x ≤ 4) 1 (rI (m 3), some (rOne m 3 x))
theorem c195 {w : PW} {Q : PO → PW → Prop} {H : Nat → Row} {n : Nat} {m : Row} {x1 : Int} (hs : Sh w) (hB : BR w 1 m) (hH : HR w H n) (hx1 : bd x1) (h : ∀ w2, AO w H n m (sa195 m x1).2 w2 → Q (sa195 m x1).1 w2) : pC 195 [.ref 0, iv x1] w Q := by
  have no := AO.no hs hB hH
  refine e195 hs hx1 ⟨fun q1 => ?_, fun q1 => ap_f h q1 w no⟩
  refine c164 hs hB hH (fun w2 s2 H2 k2 => ⟨s2, fun w3 e3 => ?_⟩)
  have hB2 : BR w2 1 m := hB.cells (fun k hk => k2 _ (by omega) (by omega))
  obtain ⟨s3, b3, k3⟩ := brOne (f := 0) (J := 3) hB2 s2 (Or.inl ⟨rfl, Or.inr rfl, rfl⟩) (rOne_ok hB.ok (Or.inr (Or.inl rfl)) (by omega) (fun _ => q1) (by omega) (fun k hk => by omega) (fun k hk => by omega)) hx1 (slt_o (tb0 bx1) rfl) e3
  rw [hB2.v]
  exact ap_t h q1 w3 (AO.yes s3 H2 k2 b3 (fun c hc => k3 c (by omega)))
def sa197 (m : Row) (x : Int) : AR := aP (0 ≤ x ∧ x ≤ 3) 1 (rI (m 2), some (rOne m 2 x))
theorem c197 {w : PW} {Q : PO → PW → Prop} {H : Nat → Row} {n : Nat} {m : Row} {x1 : Int} (hs : Sh w) (hB : BR w 1 m) (hH : HR w H n) (hx1 : bd x1) (h : ∀ w2, AO w H n m (sa197 m x1).2 w2 → Q (sa197 m x1).1 w2) : pC 197 [.ref 0, iv x1] w Q := by
  have no := AO.no hs hB hH
  refine e197 hs hx1 ⟨fun q1 => ?_, fun q1 => ap_f h q1 w no⟩
  refine c164 hs hB hH (fun w2 s2 H2 k2 => ⟨s2, fun w3 e3 => ?_⟩)
  have hB2 : BR w2 1 m := hB.cells (fun k hk => k2 _ (by omega) (by omega))
  obtain ⟨s3, b3, k3⟩ := brOne (f := 0) (J := 2) hB2 s2 (Or.inl ⟨rfl, Or.inl rfl, rfl⟩) (rOne_ok hB.ok (Or.inl rfl) (fun _ => q1) (by omega) (by omega) (fun k hk => by omega) (fun k hk => by omega)) hx1 (slt_o (tb0 bx1) rfl) e3
  rw [hB2.g]
  exact ap_t h q1 w3 (AO.yes s3 H2 k2 b3 (fun c hc => k3 c (by omega)))
def sa199 (m : Row) (x : Int) : AR := aU m x (rI (m 6), some (rOne m 6 x))
theorem c199 {w : PW} {Q : PO → PW → Prop} {H : Nat → Row} {n : Nat} {m : Row} {x1 : Int} (hs : Sh w) (hB : BR w 1 m) (hH : HR w H n) (hx1 : bd x1) (h : ∀ w2, AO w H n m (sa199 m x1).2 w2 → Q (sa199 m x1).1 w2) : pC 199 [.ref 0, iv x1] w Q := by
  have no := AO.no hs hB hH
  have h1 := hB.ok.u
  refine e199 hs hx1 ?_
  rw [hB.u]
  refine ⟨⟨by omega, by omega⟩, fun q1 => ?_, fun q1 => ap_f h q1 w no⟩
  refine c164 hs hB hH (fun w2 s2 H2 k2 => ⟨s2, fun w3 e3 => ?_⟩)
  have hB2 : BR w2 1 m := hB.cells (fun k hk => k2 _ (by omega) (by omega))
  obtain ⟨s3, b3, k3⟩ := brOne (f := 8) (J := 6) hB2 s2 (Or.inr (Or.inl ⟨rfl, rfl, rfl⟩)) (rOne_ok hB.ok (Or.inr (Or.inr (Or.inl rfl))) (by omega) (by omega) (fun _ => q1) (fun k hk => by omega) (fun k hk => by omega)) hx1 (slt_o (tb8 bx1) rfl) e3
  rw [hB2.pu]
  exact ap_t h q1 w3 (AO.yes s3 H2 k2 b3 (fun c hc => k3 c (by omega)))
def sa201 (m : Row) (x : Int) : AR := aP (1 ≤ x ∧ x ≤ 200) 1 (aQ (m 8 + x ≤ 100000) (rI (rRun m x.toNat 9 - m 9), some (rRun m x.toNat)) (rI (-2), none))
theorem c201 {w : PW} {Q : PO → PW → Prop} {H : Nat → Row} {n : Nat} {m : Row} {x1 : Int} (hs : Sh w) (hB : BR w 1 m) (hF : m 9 ≤ 12 * m 8) (hH : HR w H n) (hx1 : bd x1) (h : ∀ w2, AO w H n m (sa201 m x1).2 w2 → Q (sa201 m x1).1 w2) : pC 201 [.ref 0, iv x1] w Q := by
  have no := AO.no hs hB hH
  have h8 := hB.ok.pt
  refine e201 hs hx1 ?_
  rw [hB.pt]
  refine ⟨fun q1 => ⟨⟨by omega, by omega⟩, fun q2 => ?_, fun q2 => aq_f (ap_t h q1) (by omega) w no⟩, fun q1 => ap_f h q1 w no⟩
  have h2 := aq_t (ap_t h q1) q2
  refine c164 hs hB hH (fun w2 s2 H2 k2 => ⟨s2, ?_⟩)
  have hB2 : BR w2 1 m := hB.cells (fun k hk => k2 _ (by omega) (by omega))
  obtain ⟨x, rfl⟩ := nat_of (show 0 ≤ x1 by omega)
  refine c48 s2 hB2 hF (by omega) (by omega) (fun w3 s3 b3 k3 => ⟨s3, ?_⟩)
  rw [b3.pp, hB2.pp]
  exact h2 w3 (AO.yes s3 H2 k2 b3 k3)

