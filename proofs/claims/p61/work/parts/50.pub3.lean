/-! THE CLASS's FACE: layouts, predictions -/
/-- of the class nothing but the draft and the search has changed -/
def CF (w w' : PW) : Prop := Sh w' ∧ ∀ c, ¬ (14 ≤ c ∧ c < 27) → ¬ (139 ≤ c ∧ c ≤ 142) → w'.2.2 c = w.2.2 c
theorem CF.rf {w : PW} (hs : Sh w) : CF w w := ⟨hs, fun _ _ _ => rfl⟩
theorem CF.sf {w w1 w2 : PW} (h : CF w w1) (s2 : Sh w2) (hF : SF w1 w2) : CF w w2 := ⟨s2, fun c h1 h2 => (hF c h2).trans (h.2 c h1 h2)⟩
theorem CF.ob {w w1 w2 : PW} (h : CF w w1) (s2 : Sh w2) (hO : OB 14 w1 w2) : CF w w2 := ⟨s2, fun c h1 h2 => (hO c h1).trans (h.2 c h1 h2)⟩
theorem CF.b1 {w w' : PW} {m : Row} (h : CF w w') (hB : BR w 1 m) : BR w' 1 m := hB.cells (fun k hk => h.2 _ (by omega) (by omega))
theorem bx14 : bx 14 := bxc 14 rfl
/-! 125: PinBarrel.tries(I)I -/
theorem b125 : mB 125 = cX8_tries := rfl
theorem r125 : mR 125 = (some .int) := rfl
theorem d125_0 : decode cX8_tries 0 = .ok (.aload_n 0, 1) := by decide +kernel
theorem d125_1 : decode cX8_tries 1 = .ok (.iload_n 1, 1) := by decide +kernel
theorem d125_2 : decode cX8_tries 2 = .ok (.invokevirtual 189, 3) := by decide +kernel
theorem d125_5 : decode cX8_tries 5 = .ok (.aload_n 0, 1) := by decide +kernel
theorem d125_6 : decode cX8_tries 6 = .ok (.getfield 51, 3) := by decide +kernel
theorem d125_9 : decode cX8_tries 9 = .ok (.aload_n 0, 1) := by decide +kernel
theorem d125_10 : decode cX8_tries 10 = .ok (.getfield 12, 3) := by decide +kernel
theorem d125_13 : decode cX8_tries 13 = .ok (.iload_n 1, 1) := by decide +kernel
theorem d125_14 : decode cX8_tries 14 = .ok (.iconst (-1), 1) := by decide +kernel
theorem d125_15 : decode cX8_tries 15 = .ok (.invokevirtual 259, 3) := by decide +kernel
theorem d125_18 : decode cX8_tries 18 = .ok (.aload_n 0, 1) := by decide +kernel
theorem d125_19 : decode cX8_tries 19 = .ok (.getfield 51, 3) := by decide +kernel
theorem d125_22 : decode cX8_tries 22 = .ok (.getfield 263, 3) := by decide +kernel
theorem d125_25 : decode cX8_tries 25 = .ok (.bipush (-2), 2) := by decide +kernel
theorem d125_27 : decode cX8_tries 27 = .ok (.if_icmp .ne 8, 3) := by decide +kernel
theorem d125_30 : decode cX8_tries 30 = .ok (.bipush (-2), 2) := by decide +kernel
theorem d125_32 : decode cX8_tries 32 = .ok (.goto 10, 3) := by decide +kernel
theorem d125_35 : decode cX8_tries 35 = .ok (.aload_n 0, 1) := by decide +kernel
theorem d125_36 : decode cX8_tries 36 = .ok (.getfield 51, 3) := by decide +kernel
theorem d125_39 : decode cX8_tries 39 = .ok (.getfield 266, 3) := by decide +kernel
theorem d125_42 : decode cX8_tries 42 = .ok (.ireturn, 1) := by decide +kernel
theorem v125_0 {w : PW} {Q : PO → PW → Prop} {x1 : Int} (hs : Sh w) (hx1 : bd x1) (h : (bd ((gI w 1 1) - 1)) ∧ ((0 ≤ x1 ∧ x1 < gI w 1 1) → pC 124 [.ref 139, .ref 1, iv x1, iv ((-1))] w (kV fun w2 => Sh w2 ∧ ((gI w2 139 0) ≠ ((-2)) → Q (.inl (some (iv (gI w2 139 1)))) w2) ∧ ((gI w2 139 0) = ((-2)) → Q (.inl (some (iv ((-2))))) w2))) ∧ (¬ (0 ≤ x1 ∧ x1 < gI w 1 1) → Q (.inr 1) w)) : pX 125 0 [some (.ref 0), some (iv x1)] [] w Q :=
  w_f b125 d125_0 rfl rfl rfl <| w_f b125 d125_1 rfl rfl rfl <| w_cc b125 d125_2 rfl (pcl_v (n := 1) rfl rfl rfl (by decide +kernel) (sh_isOb hs (tlt 0 rfl) tbC_0) rfl rfl) rfl <| c77 hs hx1 h.1 (fun c1 => w_f b125 d125_5 rfl rfl rfl <| w_gr b125 d125_6 rfl rfl hs (tlt 0 rfl) tbC_0 rfl (by decide) <| w_f b125 d125_9 rfl rfl rfl <| w_gr b125 d125_10 rfl rfl hs (tlt 0 rfl) tbC_0 rfl (bxr0 (bxc 1 rfl)) <| w_f b125 d125_13 rfl rfl rfl <| w_f b125 d125_14 rfl rfl rfl <| w_c b125 d125_15 rfl (pcl_v (n := 3) rfl rfl rfl (by decide +kernel) (sh_isOb hs (tlt 139 rfl) tbC_139) rfl rfl) rfl _ (hK_V fun w2 hkw2 => w_f b125 d125_18 rfl rfl rfl <| w_gr b125 d125_19 rfl rfl hkw2.1 (tlt 0 rfl) tbC_0 rfl (by decide) <| w_gi b125 d125_22 rfl rfl hkw2.1 (tlt 139 rfl) tbC_139 rfl <| w_f b125 d125_25 rfl rfl rfl <| w_icne b125 d125_27 rfl rfl (by decide +kernel) (bd_gI _ _ _) ⟨by decide, by decide⟩ (fun c4 => w_f b125 d125_35 rfl rfl rfl <| w_gr b125 d125_36 rfl rfl hkw2.1 (tlt 0 rfl) tbC_0 rfl (by decide) <| w_gi b125 d125_39 rfl rfl hkw2.1 (tlt 139 rfl) tbC_139 rfl <| w_ri b125 d125_42 r125 (hkw2.2.1 c4)) (fun c4 => w_f b125 d125_30 rfl rfl rfl <| w_j b125 d125_32 rfl (by decide +kernel) <| w_ri b125 d125_42 r125 (hkw2.2.2 c4))) (h.2.1 c1)) (fun c1 => h.2.2 c1)
theorem e125 {w : PW} {Q : PO → PW → Prop} {x1 : Int} (hs : Sh w) (hx1 : bd x1) (h : (bd ((gI w 1 1) - 1)) ∧ ((0 ≤ x1 ∧ x1 < gI w 1 1) → pC 124 [.ref 139, .ref 1, iv x1, iv ((-1))] w (kV fun w2 => Sh w2 ∧ ((gI w2 139 0) ≠ ((-2)) → Q (.inl (some (iv (gI w2 139 1)))) w2) ∧ ((gI w2 139 0) = ((-2)) → Q (.inl (some (iv ((-2))))) w2))) ∧ (¬ (0 ≤ x1 ∧ x1 < gI w 1 1) → Q (.inr 1) w)) : pC 125 [.ref 0, iv x1] w Q :=
  (pC_in (Nat.le_of_ble_eq_true rfl) rfl Q).mpr (v125_0 hs hx1 h)
/-! 127: PinBarrel.canLay(I)I -/
theorem b127 : mB 127 = cX8_canLay := rfl
theorem r127 : mR 127 = (some .int) := rfl
theorem d127_0 : decode cX8_canLay 0 = .ok (.aload_n 0, 1) := by decide +kernel
theorem d127_1 : decode cX8_canLay 1 = .ok (.iload_n 1, 1) := by decide +kernel
theorem d127_2 : decode cX8_canLay 2 = .ok (.invokevirtual 189, 3) := by decide +kernel
theorem d127_5 : decode cX8_canLay 5 = .ok (.aload_n 0, 1) := by decide +kernel
theorem d127_6 : decode cX8_canLay 6 = .ok (.getfield 51, 3) := by decide +kernel
theorem d127_9 : decode cX8_canLay 9 = .ok (.aload_n 0, 1) := by decide +kernel
theorem d127_10 : decode cX8_canLay 10 = .ok (.getfield 12, 3) := by decide +kernel
theorem d127_13 : decode cX8_canLay 13 = .ok (.iload_n 1, 1) := by decide +kernel
theorem d127_14 : decode cX8_canLay 14 = .ok (.iconst (-1), 1) := by decide +kernel
theorem d127_15 : decode cX8_canLay 15 = .ok (.invokevirtual 259, 3) := by decide +kernel
theorem d127_18 : decode cX8_canLay 18 = .ok (.aload_n 0, 1) := by decide +kernel
theorem d127_19 : decode cX8_canLay 19 = .ok (.getfield 51, 3) := by decide +kernel
theorem d127_22 : decode cX8_canLay 22 = .ok (.getfield 263, 3) := by decide +kernel
theorem d127_25 : decode cX8_canLay 25 = .ok (.ireturn, 1) := by decide +kernel
theorem v127_0 {w : PW} {Q : PO → PW → Prop} {x1 : Int} (hs : Sh w) (hx1 : bd x1) (h : (bd ((gI w 1 1) - 1)) ∧ ((0 ≤ x1 ∧ x1 < gI w 1 1) → pC 124 [.ref 139, .ref 1, iv x1, iv ((-1))] w (kV fun w2 => Sh w2 ∧ Q (.inl (some (iv (gI w2 139 0)))) w2)) ∧ (¬ (0 ≤ x1 ∧ x1 < gI w 1 1) → Q (.inr 1) w)) : pX 127 0 [some (.ref 0), some (iv x1)] [] w Q :=
  w_f b127 d127_0 rfl rfl rfl <| w_f b127 d127_1 rfl rfl rfl <| w_cc b127 d127_2 rfl (pcl_v (n := 1) rfl rfl rfl (by decide +kernel) (sh_isOb hs (tlt 0 rfl) tbC_0) rfl rfl) rfl <| c77 hs hx1 h.1 (fun c1 => w_f b127 d127_5 rfl rfl rfl <| w_gr b127 d127_6 rfl rfl hs (tlt 0 rfl) tbC_0 rfl (by decide) <| w_f b127 d127_9 rfl rfl rfl <| w_gr b127 d127_10 rfl rfl hs (tlt 0 rfl) tbC_0 rfl (bxr0 (bxc 1 rfl)) <| w_f b127 d127_13 rfl rfl rfl <| w_f b127 d127_14 rfl rfl rfl <| w_c b127 d127_15 rfl (pcl_v (n := 3) rfl rfl rfl (by decide +kernel) (sh_isOb hs (tlt 139 rfl) tbC_139) rfl rfl) rfl _ (hK_V fun w2 hkw2 => w_f b127 d127_18 rfl rfl rfl <| w_gr b127 d127_19 rfl rfl hkw2.1 (tlt 0 rfl) tbC_0 rfl (by decide) <| w_gi b127 d127_22 rfl rfl hkw2.1 (tlt 139 rfl) tbC_139 rfl <| w_ri b127 d127_25 r127 hkw2.2) (h.2.1 c1)) (fun c1 => h.2.2 c1)
theorem e127 {w : PW} {Q : PO → PW → Prop} {x1 : Int} (hs : Sh w) (hx1 : bd x1) (h : (bd ((gI w 1 1) - 1)) ∧ ((0 ≤ x1 ∧ x1 < gI w 1 1) → pC 124 [.ref 139, .ref 1, iv x1, iv ((-1))] w (kV fun w2 => Sh w2 ∧ Q (.inl (some (iv (gI w2 139 0)))) w2)) ∧ (¬ (0 ≤ x1 ∧ x1 < gI w 1 1) → Q (.inr 1) w)) : pC 127 [.ref 0, iv x1] w Q :=
  (pC_in (Nat.le_of_ble_eq_true rfl) rfl Q).mpr (v127_0 hs hx1 h)
/-! 131: PinBarrel.laidOn(I)I -/
theorem b131 : mB 131 = cX8_laidOn := rfl
theorem r131 : mR 131 = (some .int) := rfl
theorem d131_0 : decode cX8_laidOn 0 = .ok (.aload_n 0, 1) := by decide +kernel
theorem d131_1 : decode cX8_laidOn 1 = .ok (.iload_n 1, 1) := by decide +kernel
theorem d131_2 : decode cX8_laidOn 2 = .ok (.invokevirtual 178, 3) := by decide +kernel
theorem d131_5 : decode cX8_laidOn 5 = .ok (.aload_n 0, 1) := by decide +kernel
theorem d131_6 : decode cX8_laidOn 6 = .ok (.getfield 51, 3) := by decide +kernel
theorem d131_9 : decode cX8_laidOn 9 = .ok (.aload_n 0, 1) := by decide +kernel
theorem d131_10 : decode cX8_laidOn 10 = .ok (.getfield 12, 3) := by decide +kernel
theorem d131_13 : decode cX8_laidOn 13 = .ok (.aload_n 0, 1) := by decide +kernel
theorem d131_14 : decode cX8_laidOn 14 = .ok (.getfield 12, 3) := by decide +kernel
theorem d131_17 : decode cX8_laidOn 17 = .ok (.getfield 87, 3) := by decide +kernel
theorem d131_20 : decode cX8_laidOn 20 = .ok (.getfield 181, 3) := by decide +kernel
theorem d131_23 : decode cX8_laidOn 23 = .ok (.iload_n 1, 1) := by decide +kernel
theorem d131_24 : decode cX8_laidOn 24 = .ok (.iaload, 1) := by decide +kernel
theorem d131_25 : decode cX8_laidOn 25 = .ok (.iconst (-1), 1) := by decide +kernel
theorem d131_26 : decode cX8_laidOn 26 = .ok (.invokevirtual 259, 3) := by decide +kernel
theorem d131_29 : decode cX8_laidOn 29 = .ok (.aload_n 0, 1) := by decide +kernel
theorem d131_30 : decode cX8_laidOn 30 = .ok (.getfield 51, 3) := by decide +kernel
theorem d131_33 : decode cX8_laidOn 33 = .ok (.invokevirtual 269, 3) := by decide +kernel
theorem d131_36 : decode cX8_laidOn 36 = .ok (.ifCond .eq 14, 3) := by decide +kernel
theorem d131_39 : decode cX8_laidOn 39 = .ok (.aload_n 0, 1) := by decide +kernel
theorem d131_40 : decode cX8_laidOn 40 = .ok (.getfield 51, 3) := by decide +kernel
theorem d131_43 : decode cX8_laidOn 43 = .ok (.iload_n 1, 1) := by decide +kernel
theorem d131_44 : decode cX8_laidOn 44 = .ok (.invokevirtual 273, 3) := by decide +kernel
theorem d131_47 : decode cX8_laidOn 47 = .ok (.goto 4, 3) := by decide +kernel
theorem d131_50 : decode cX8_laidOn 50 = .ok (.iconst (-1), 1) := by decide +kernel
theorem d131_51 : decode cX8_laidOn 51 = .ok (.ireturn, 1) := by decide +kernel
theorem v131_0 {w : PW} {Q : PO → PW → Prop} {x1 : Int} (hs : Sh w) (hx1 : bd x1) (h : ((0 ≤ x1 ∧ x1 < gI w 5 0) → (0 ≤ x1 ∧ x1 < 60) ∧ pC 124 [.ref 139, .ref 1, iv (gI w (1 + 5) x1.toNat), iv ((-1))] w (kV fun w2 => Sh w2 ∧ ((¬ (gI w2 139 0 = 1)) → Q (.inl (some (iv ((-1))))) w2) ∧ ((gI w2 139 0 = 1) → pC 130 [.ref 139, iv x1] w2 (kI fun u6 w5 => Sh w5 ∧ Q (.inl (some (iv u6))) w5)))) ∧ (¬ (0 ≤ x1 ∧ x1 < gI w 5 0) → Q (.inr 2) w)) : pX 131 0 [some (.ref 0), some (iv x1)] [] w Q :=
  w_f b131 d131_0 rfl rfl rfl <| w_f b131 d131_1 rfl rfl rfl <| w_cc b131 d131_2 rfl (pcl_v (n := 1) rfl rfl rfl (by decide +kernel) (sh_isOb hs (tlt 0 rfl) tbC_0) rfl rfl) rfl <| c71 hs hx1 (fun c1 => w_f b131 d131_5 rfl rfl rfl <| w_gr b131 d131_6 rfl rfl hs (tlt 0 rfl) tbC_0 rfl (by decide) <| w_f b131 d131_9 rfl rfl rfl <| w_gr b131 d131_10 rfl rfl hs (tlt 0 rfl) tbC_0 rfl (bxr0 (bxc 1 rfl)) <| w_f b131 d131_13 rfl rfl rfl <| w_gr b131 d131_14 rfl rfl hs (tlt 0 rfl) tbC_0 rfl (bxr0 (bxc 1 rfl)) <| w_gr b131 d131_17 rfl rfl hs (bx00 (bxc 1 rfl)) (tb0 (bxc 1 rfl)) rfl (bxr (bxc 1 rfl) 4 rfl) <| w_gr b131 d131_20 rfl rfl hs (bxk (bxc 1 rfl) 4 rfl) (tb4 (bxc 1 rfl)) rfl (bxr (bxc 1 rfl) 5 rfl) <| w_f b131 d131_23 rfl rfl rfl <| w_ial b131 d131_24 rfl hs (bxk (bxc 1 rfl) 5 rfl) (tb5 (bxc 1 rfl)) (bdix (n := 60) (h.1 c1).1 rfl) (h.1 c1).1 <| w_f b131 d131_25 rfl rfl rfl <| w_c b131 d131_26 rfl (pcl_v (n := 3) rfl rfl rfl (by decide +kernel) (sh_isOb hs (tlt 139 rfl) tbC_139) rfl rfl) rfl _ (hK_V fun w2 hkw2 => w_f b131 d131_29 rfl rfl rfl <| w_gr b131 d131_30 rfl rfl hkw2.1 (tlt 0 rfl) tbC_0 rfl (by decide) <| w_cc b131 d131_33 rfl (pcl_v (n := 0) rfl rfl rfl (by decide +kernel) (sh_isOb hkw2.1 (tlt 139 rfl) tbC_139) rfl rfl) rfl <| c129 hkw2.1 <| w_ifeqZ b131 d131_36 rfl rfl (by decide +kernel) (fun c4 => w_f b131 d131_50 rfl rfl rfl <| w_ri b131 d131_51 r131 (hkw2.2.1 c4)) (fun c4 => w_f b131 d131_39 rfl rfl rfl <| w_gr b131 d131_40 rfl rfl hkw2.1 (tlt 0 rfl) tbC_0 rfl (by decide) <| w_f b131 d131_43 rfl rfl rfl <| w_c b131 d131_44 rfl (pcl_v (n := 1) rfl rfl rfl (by decide +kernel) (sh_isOb hkw2.1 (tlt 139 rfl) tbC_139) rfl rfl) rfl _ (hK_I fun u6 w5 hbu6 hkw5 => w_j b131 d131_47 rfl (by decide +kernel) <| w_ri b131 d131_51 r131 hkw5.2) (hkw2.2.2 c4))) (h.1 c1).2) (fun c1 => h.2 c1)
theorem e131 {w : PW} {Q : PO → PW → Prop} {x1 : Int} (hs : Sh w) (hx1 : bd x1) (h : ((0 ≤ x1 ∧ x1 < gI w 5 0) → (0 ≤ x1 ∧ x1 < 60) ∧ pC 124 [.ref 139, .ref 1, iv (gI w (1 + 5) x1.toNat), iv ((-1))] w (kV fun w2 => Sh w2 ∧ ((¬ (gI w2 139 0 = 1)) → Q (.inl (some (iv ((-1))))) w2) ∧ ((gI w2 139 0 = 1) → pC 130 [.ref 139, iv x1] w2 (kI fun u6 w5 => Sh w5 ∧ Q (.inl (some (iv u6))) w5)))) ∧ (¬ (0 ≤ x1 ∧ x1 < gI w 5 0) → Q (.inr 2) w)) : pC 131 [.ref 0, iv x1] w Q :=
  (pC_in (Nat.le_of_ble_eq_true rfl) rfl Q).mpr (v131_0 hs hx1 h)
/-! 134: PinBarrel.spare(I)I -/
theorem b134 : mB 134 = cX8_spare := rfl
theorem r134 : mR 134 = (some .int) := rfl
theorem d134_0 : decode cX8_spare 0 = .ok (.aload_n 0, 1) := by decide +kernel
theorem d134_1 : decode cX8_spare 1 = .ok (.iload_n 1, 1) := by decide +kernel
theorem d134_2 : decode cX8_spare 2 = .ok (.invokevirtual 189, 3) := by decide +kernel
theorem d134_5 : decode cX8_spare 5 = .ok (.aload_n 0, 1) := by decide +kernel
theorem d134_6 : decode cX8_spare 6 = .ok (.getfield 51, 3) := by decide +kernel
theorem d134_9 : decode cX8_spare 9 = .ok (.aload_n 0, 1) := by decide +kernel
theorem d134_10 : decode cX8_spare 10 = .ok (.getfield 12, 3) := by decide +kernel
theorem d134_13 : decode cX8_spare 13 = .ok (.iload_n 1, 1) := by decide +kernel
theorem d134_14 : decode cX8_spare 14 = .ok (.iconst (-1), 1) := by decide +kernel
theorem d134_15 : decode cX8_spare 15 = .ok (.invokevirtual 259, 3) := by decide +kernel
theorem d134_18 : decode cX8_spare 18 = .ok (.aload_n 0, 1) := by decide +kernel
theorem d134_19 : decode cX8_spare 19 = .ok (.getfield 51, 3) := by decide +kernel
theorem d134_22 : decode cX8_spare 22 = .ok (.invokevirtual 269, 3) := by decide +kernel
theorem d134_25 : decode cX8_spare 25 = .ok (.ifCond .eq 25, 3) := by decide +kernel
theorem d134_28 : decode cX8_spare 28 = .ok (.iconst 1, 1) := by decide +kernel
theorem d134_29 : decode cX8_spare 29 = .ok (.aload_n 0, 1) := by decide +kernel
theorem d134_30 : decode cX8_spare 30 = .ok (.getfield 12, 3) := by decide +kernel
theorem d134_33 : decode cX8_spare 33 = .ok (.getfield 108, 3) := by decide +kernel
theorem d134_36 : decode cX8_spare 36 = .ok (.ishl, 1) := by decide +kernel
theorem d134_37 : decode cX8_spare 37 = .ok (.iconst 1, 1) := by decide +kernel
theorem d134_38 : decode cX8_spare 38 = .ok (.isub, 1) := by decide +kernel
theorem d134_39 : decode cX8_spare 39 = .ok (.aload_n 0, 1) := by decide +kernel
theorem d134_40 : decode cX8_spare 40 = .ok (.getfield 51, 3) := by decide +kernel
theorem d134_43 : decode cX8_spare 43 = .ok (.invokevirtual 276, 3) := by decide +kernel
theorem d134_46 : decode cX8_spare 46 = .ok (.isub, 1) := by decide +kernel
theorem d134_47 : decode cX8_spare 47 = .ok (.goto 4, 3) := by decide +kernel
theorem d134_50 : decode cX8_spare 50 = .ok (.iconst (-1), 1) := by decide +kernel
theorem d134_51 : decode cX8_spare 51 = .ok (.ireturn, 1) := by decide +kernel
theorem v134_0 {w : PW} {Q : PO → PW → Prop} {x1 : Int} (hs : Sh w) (hx1 : bd x1) (h : (bd ((gI w 1 1) - 1)) ∧ ((0 ≤ x1 ∧ x1 < gI w 1 1) → pC 124 [.ref 139, .ref 1, iv x1, iv ((-1))] w (kV fun w2 => Sh w2 ∧ ((¬ (gI w2 139 0 = 1)) → Q (.inl (some (iv ((-1))))) w2) ∧ ((gI w2 139 0 = 1) → pC 133 [.ref 139] w2 (kI fun u6 w5 => Sh w5 ∧ Q (.inl (some (iv (((iShl 1 (gI w2 1 4)) - 1) - u6)))) w5)))) ∧ (¬ (0 ≤ x1 ∧ x1 < gI w 1 1) → Q (.inr 1) w)) : pX 134 0 [some (.ref 0), some (iv x1)] [] w Q :=
  w_f b134 d134_0 rfl rfl rfl <| w_f b134 d134_1 rfl rfl rfl <| w_cc b134 d134_2 rfl (pcl_v (n := 1) rfl rfl rfl (by decide +kernel) (sh_isOb hs (tlt 0 rfl) tbC_0) rfl rfl) rfl <| c77 hs hx1 h.1 (fun c1 => w_f b134 d134_5 rfl rfl rfl <| w_gr b134 d134_6 rfl rfl hs (tlt 0 rfl) tbC_0 rfl (by decide) <| w_f b134 d134_9 rfl rfl rfl <| w_gr b134 d134_10 rfl rfl hs (tlt 0 rfl) tbC_0 rfl (bxr0 (bxc 1 rfl)) <| w_f b134 d134_13 rfl rfl rfl <| w_f b134 d134_14 rfl rfl rfl <| w_c b134 d134_15 rfl (pcl_v (n := 3) rfl rfl rfl (by decide +kernel) (sh_isOb hs (tlt 139 rfl) tbC_139) rfl rfl) rfl _ (hK_V fun w2 hkw2 => w_f b134 d134_18 rfl rfl rfl <| w_gr b134 d134_19 rfl rfl hkw2.1 (tlt 0 rfl) tbC_0 rfl (by decide) <| w_cc b134 d134_22 rfl (pcl_v (n := 0) rfl rfl rfl (by decide +kernel) (sh_isOb hkw2.1 (tlt 139 rfl) tbC_139) rfl rfl) rfl <| c129 hkw2.1 <| w_ifeqZ b134 d134_25 rfl rfl (by decide +kernel) (fun c4 => w_f b134 d134_50 rfl rfl rfl <| w_ri b134 d134_51 r134 (hkw2.2.1 c4)) (fun c4 => w_f b134 d134_28 rfl rfl rfl <| w_f b134 d134_29 rfl rfl rfl <| w_gr b134 d134_30 rfl rfl hkw2.1 (tlt 0 rfl) tbC_0 rfl (bxr0 (bxc 1 rfl)) <| w_gi b134 d134_33 rfl rfl hkw2.1 (bx00 (bxc 1 rfl)) (tb0 (bxc 1 rfl)) rfl <| w_f b134 d134_36 rfl (pf_ishl 1 _) rfl <| w_f b134 d134_37 rfl rfl rfl <| w_f b134 d134_38 rfl (pf_isub _ 1) rfl <| w_f b134 d134_39 rfl rfl rfl <| w_gr b134 d134_40 rfl rfl hkw2.1 (tlt 0 rfl) tbC_0 rfl (by decide) <| w_c b134 d134_43 rfl (pcl_v (n := 0) rfl rfl rfl (by decide +kernel) (sh_isOb hkw2.1 (tlt 139 rfl) tbC_139) rfl rfl) rfl _ (hK_I fun u6 w5 hbu6 hkw5 => w_f b134 d134_46 rfl (pf_isub _ _) rfl <| w_j b134 d134_47 rfl (by decide +kernel) <| w_ri b134 d134_51 r134 hkw5.2) (hkw2.2.2 c4))) (h.2.1 c1)) (fun c1 => h.2.2 c1)
theorem e134 {w : PW} {Q : PO → PW → Prop} {x1 : Int} (hs : Sh w) (hx1 : bd x1) (h : (bd ((gI w 1 1) - 1)) ∧ ((0 ≤ x1 ∧ x1 < gI w 1 1) → pC 124 [.ref 139, .ref 1, iv x1, iv ((-1))] w (kV fun w2 => Sh w2 ∧ ((¬ (gI w2 139 0 = 1)) → Q (.inl (some (iv ((-1))))) w2) ∧ ((gI w2 139 0 = 1) → pC 133 [.ref 139] w2 (kI fun u6 w5 => Sh w5 ∧ Q (.inl (some (iv (((iShl 1 (gI w2 1 4)) - 1) - u6)))) w5)))) ∧ (¬ (0 ≤ x1 ∧ x1 < gI w 1 1) → Q (.inr 1) w)) : pC 134 [.ref 0, iv x1] w Q :=
  (pC_in (Nat.le_of_ble_eq_true rfl) rfl Q).mpr (v134_0 hs hx1 h)
def sp125 (m : Row) (x : Int) : PO := spU m x (rI (if (sSeek m x (-1)).1 = -2 then -2 else ((sSeek m x (-1)).2.2.1 : Int)))
theorem c125 {w : PW} {Q : PO → PW → Prop} {m : Row} {x1 : Int} (hs : Sh w) (hB : BR w 1 m) (hx1 : bd x1) (h : ∀ w', CF w w' → Q (sp125 m x1) w') : pC 125 [.ref 0, iv x1] w Q := by
  have h1 := hB.ok.u
  refine e125 hs hx1 ?_
  rw [hB.u]
  refine ⟨⟨by omega, by omega⟩, fun q1 => ?_, fun q1 => sp_f (h w (CF.rf hs)) q1⟩
  have hr := fun w' hw => sp_t (h w' hw) q1
  obtain ⟨u, rfl⟩ := nat_of q1.1
  refine c124 hs hB q1.2 ⟨by decide, by decide⟩ (fun w2 s2 hF hK => ⟨s2, ?_⟩)
  have hw := hr w2 ((CF.rf hs).sf s2 hF)
  obtain ⟨k0, k1, -⟩ := hK
  rw [k0]
  exact ⟨fun q => by rw [if_neg q] at hw; rw [k1 q]; exact hw, fun q => by rw [if_pos q] at hw; exact hw⟩
def sp127 (m : Row) (x : Int) : PO := spU m x (rI (sSeek m x (-1)).1)
theorem c127 {w : PW} {Q : PO → PW → Prop} {m : Row} {x1 : Int} (hs : Sh w) (hB : BR w 1 m) (hx1 : bd x1) (h : ∀ w', CF w w' → Q (sp127 m x1) w') : pC 127 [.ref 0, iv x1] w Q := by
  have h1 := hB.ok.u
  refine e127 hs hx1 ?_
  rw [hB.u]
  refine ⟨⟨by omega, by omega⟩, fun q1 => ?_, fun q1 => sp_f (h w (CF.rf hs)) q1⟩
  have hr := fun w' hw => sp_t (h w' hw) q1
  obtain ⟨u, rfl⟩ := nat_of q1.1
  refine c124 hs hB q1.2 ⟨by decide, by decide⟩ (fun w2 s2 hF hK => ⟨s2, ?_⟩)
  have hw := hr w2 ((CF.rf hs).sf s2 hF)
  rw [hK.1]
  exact hw
def sp131 (m : Row) (x : Int) : PO := spN m x (rI (if (sSeek m (rN m x.toNat 0) (-1)).1 = 1 then (sSeek m (rN m x.toNat 0) (-1)).2.2.2 (fnd (fun i => decide (ordN m (rN m x.toNat 0) i = x.toNat)) (ordR m (rN m x.toNat 0))) else -1))
theorem c131 {w : PW} {Q : PO → PW → Prop} {m : Row} {x1 : Int} (hs : Sh w) (hB : BR w 1 m) (hx1 : bd x1) (h : ∀ w', CF w w' → Q (sp131 m x1) w') : pC 131 [.ref 0, iv x1] w Q := by
  have h5 := hB.ok.n
  have h4 := hB.ok.t
  refine e131 hs hx1 ?_
  rw [show gI w 5 0 = m 5 from hB.n]
  refine ⟨fun q1 => ?_, fun q1 => sp_f (h w (CF.rf hs)) q1⟩
  have hr := fun w' hw => sp_t (h w' hw) q1
  obtain ⟨k, rfl⟩ := nat_of q1.1
  rw [Int.toNat_natCast] at hr ⊢
  rw [show gI w (1 + 5) k = rN m k 0 from (hB.N q1.2).1]
  have hN := (hB.ok.N q1.2).1
  obtain ⟨u, hu⟩ := nat_of hN.1
  rw [hu] at hr hN ⊢
  refine ⟨⟨by omega, by omega⟩, c124 hs hB hN.2 ⟨by decide, by decide⟩ (fun w2 s2 hF hK => ⟨s2, ?_⟩)⟩
  have hw := hr w2 ((CF.rf hs).sf s2 hF)
  have k0 := hK.1
  rw [k0]
  refine ⟨fun q => by rw [if_neg q] at hw; exact hw, fun q => ?_⟩
  rw [if_pos q] at hw
  have hch := (hK.2.2.2.2 q).2.2
  obtain ⟨i, i1, i2⟩ := ordN_in (u := (u : Int)) (m 5).toNat k (by omega) hu
  have hfi : fnd (fun i => decide (ordN m u i = k)) (ordR m u) < ordR m u := by
    have := fnd_spec (fun i => decide (ordN m u i = k)) (ordR m u)
    rcases Nat.lt_or_ge (fnd (fun i => decide (ordN m u i = k)) (ordR m u)) (ordR m u) with q2 | q2
    · exact q2
    · have h9 := this.2.1 i (by have : i < ordR m u := i1; omega)
      rw [decide_eq_true (show ordN m u i = k from i2)] at h9
      cases h9
  have hb := hch.1 _ hfi
  exact c130 s2 hB.ok q1.2 hu hK q (kI_iv ⟨by omega, by omega⟩ ⟨s2, hw⟩)
/-- the teeth of a layout, as a set -/
def usedN (ch : Nat → Int) : Nat → Int
  | 0 => 0
  | k + 1 => iOr (usedN ch k) (iShl 1 (ch k))
theorem usedN_bits {ch : Nat → Int} {n : Nat} (h : ∀ k, k < n → 0 ≤ ch k ∧ ch k < 12) : bd (usedN ch n) ∧ ∀ t, t < 32 → tI (usedN ch n) t = decide (0 < cnt (fun k => decide (ch k = (t : Int))) n) := by
  induction n with
  | zero => exact ⟨bd0, fun t _ => by rw [show usedN ch 0 = 0 from rfl, tI_0]; rfl⟩
  | succ n ih =>
    have hn := h n (by omega)
    refine ⟨bd_toInt _, fun t ht => ?_⟩
    show tI (iOr (usedN ch n) (iShl 1 (ch n))) t = _
    rw [tI_or, (ih (fun k hk => h k (by omega))).2 t ht, tI_bit ⟨hn.1, by omega⟩ ht, cnt_s]
    by_cases e : ch n = (t : Int)
    · rw [decide_eq_true e, if_pos rfl, decide_eq_true (p := t = (ch n).toNat) (by omega), Bool.or_true, decide_eq_true (by omega)]
    · rw [decide_eq_false e, if_neg Bool.false_ne_true, decide_eq_false (p := t = (ch n).toNat) (by omega), Bool.or_false, Nat.add_zero]
theorem shl1 : ∀ t : Nat, t < 13 → iShl 1 (t : Nat) = ((2 ^ t : Nat) : Int) := by decide +kernel
theorem set_nat {z : Int} {n : Nat} (hn : n ≤ 12) (hz : bd z) (h : ∀ t, t < 32 → tI z t = true → t < n) : ∃ y : Nat, z = y ∧ y < 2 ^ n := by
  have h2 : (2 : Nat) ^ n ≤ 2 ^ 12 := Nat.pow_le_pow_right (by decide) hn
  have h0 : 0 < (2 : Nat) ^ n := Nat.pow_pos (by decide)
  have hlt : (Int32.ofInt z).toBitVec.toNat % 2 ^ n < 2 ^ n := Nat.mod_lt _ h0
  refine ⟨(Int32.ofInt z).toBitVec.toNat % 2 ^ n, tI_ext hz ⟨by omega, by omega⟩ (fun t ht => ?_), hlt⟩
  rw [tI_nat ht, Nat.testBit_mod_two_pow]
  show tI z t = (decide (t < n) && tI z t)
  cases q : tI z t with
  | false => rw [Bool.and_false]
  | true => rw [decide_eq_true (h t ht q)]; rfl
def sSpare (m : Row) (u : Int) : Int := iAnd (iShl 1 (m 4) - 1) (iXor (usedN (sSeek m u (-1)).2.2.2 (ordR m u)) (-1))
theorem spare_eq {n : Nat} {X : Int} (hn : n ≤ 12) (hX : bd X) (h : ∀ t, t < 32 → tI X t = true → t < n) : iShl 1 (n : Nat) - 1 - X = iAnd (iShl 1 (n : Nat) - 1) (iXor X (-1)) ∧ bd (iShl 1 (n : Nat) - 1 - X) := by
  obtain ⟨y, rfl, hy⟩ := set_nat hn hX h
  have h2 : (2 : Nat) ^ n ≤ 2 ^ 12 := Nat.pow_le_pow_right (by decide) hn
  rw [shl1 n (by omega)]
  have e1 : ((2 ^ n : Nat) : Int) - 1 - (y : Int) = ((2 ^ n - (y + 1) : Nat) : Int) := by omega
  have e2 : ((2 ^ n : Nat) : Int) - 1 = ((2 ^ n - 1 : Nat) : Int) := by omega
  rw [e1, e2]
  have hb : bd ((2 ^ n - (y + 1) : Nat) : Int) := ⟨by omega, by omega⟩
  refine ⟨tI_ext hb (bd_toInt _) (fun t ht => ?_), hb⟩
  show _ = tI (iAnd ((2 ^ n - 1 : Nat) : Int) (iXor (y : Int) (-1))) t
  rw [tI_and, tI_not ht, tI_nat ht, tI_nat ht, tI_nat ht, Nat.testBit_two_pow_sub_succ hy, Nat.testBit_two_pow_sub_one]
def sp134 (m : Row) (x : Int) : PO := spU m x (rI (if (sSeek m x (-1)).1 = 1 then sSpare m x else -1))
theorem c134 {w : PW} {Q : PO → PW → Prop} {m : Row} {x1 : Int} (hs : Sh w) (hB : BR w 1 m) (hx1 : bd x1) (h : ∀ w', CF w w' → Q (sp134 m x1) w') : pC 134 [.ref 0, iv x1] w Q := by
  have h1 := hB.ok.u
  have h4 := hB.ok.t
  refine e134 hs hx1 ?_
  rw [hB.u]
  refine ⟨⟨by omega, by omega⟩, fun q1 => ?_, fun q1 => sp_f (h w (CF.rf hs)) q1⟩
  have hr := fun w' hw => sp_t (h w' hw) q1
  obtain ⟨u, rfl⟩ := nat_of q1.1
  refine c124 hs hB q1.2 ⟨by decide, by decide⟩ (fun w2 s2 hF hK => ⟨s2, ?_⟩)
  have hw := hr w2 ((CF.rf hs).sf s2 hF)
  have k0 := hK.1
  rw [k0, (hF.br hB).t]
  refine ⟨fun q => by rw [if_neg q] at hw; exact hw, fun q => ?_⟩
  rw [if_pos q] at hw
  have hch := (hK.2.2.2.2 q).2.2
  have hub := usedN_bits (ch := (sSeek m u (-1)).2.2.2) (n := ordR m u) (fun k hk => ⟨(hch.1 k hk).1, by have := (hch.1 k hk).2; omega⟩)
  refine c133 s2 hB.ok hK q (fun X hX hXb => kI_iv hX ⟨s2, ?_⟩)
  have eX : X = usedN (sSeek m u (-1)).2.2.2 (ordR m u) := tI_ext hX hub.1 (fun t ht => by rw [hXb t ht, hub.2 t ht])
  obtain ⟨n, hn⟩ := nat_of h4.1
  have hlt : ∀ t, t < 32 → tI X t = true → t < n := by
    intro t ht hq
    rw [hXb t ht, decide_eq_true_eq, cnt_ex] at hq
    obtain ⟨k, hk, he⟩ := hq
    rw [decide_eq_true_eq] at he
    have := (hch.1 k hk).2
    omega
  unfold sSpare at hw
  rw [hn] at hw ⊢
  rw [(spare_eq (by omega) hX hlt).1, eX]
  exact hw
/-! 136: PinBarrel.fastest(I)I -/
theorem b136 : mB 136 = cX8_fastest := rfl
theorem r136 : mR 136 = (some .int) := rfl
theorem d136_0 : decode cX8_fastest 0 = .ok (.aload_n 0, 1) := by decide +kernel
theorem d136_1 : decode cX8_fastest 1 = .ok (.iload_n 1, 1) := by decide +kernel
theorem d136_2 : decode cX8_fastest 2 = .ok (.invokevirtual 189, 3) := by decide +kernel
theorem d136_5 : decode cX8_fastest 5 = .ok (.aload_n 0, 1) := by decide +kernel
theorem d136_6 : decode cX8_fastest 6 = .ok (.getfield 16, 3) := by decide +kernel
theorem d136_9 : decode cX8_fastest 9 = .ok (.aload_n 0, 1) := by decide +kernel
theorem d136_10 : decode cX8_fastest 10 = .ok (.getfield 12, 3) := by decide +kernel
theorem d136_13 : decode cX8_fastest 13 = .ok (.invokevirtual 80, 3) := by decide +kernel
theorem d136_16 : decode cX8_fastest 16 = .ok (.iconst 4, 1) := by decide +kernel
theorem d136_17 : decode cX8_fastest 17 = .ok (.istore_n 2, 1) := by decide +kernel
theorem d136_18 : decode cX8_fastest 18 = .ok (.iload_n 2, 1) := by decide +kernel
theorem d136_19 : decode cX8_fastest 19 = .ok (.iconst 1, 1) := by decide +kernel
theorem d136_20 : decode cX8_fastest 20 = .ok (.if_icmp .lt 42, 3) := by decide +kernel
theorem d136_23 : decode cX8_fastest 23 = .ok (.aload_n 0, 1) := by decide +kernel
theorem d136_24 : decode cX8_fastest 24 = .ok (.getfield 16, 3) := by decide +kernel
theorem d136_27 : decode cX8_fastest 27 = .ok (.iload_n 2, 1) := by decide +kernel
theorem d136_28 : decode cX8_fastest 28 = .ok (.putfield 105, 3) := by decide +kernel
theorem d136_31 : decode cX8_fastest 31 = .ok (.aload_n 0, 1) := by decide +kernel
theorem d136_32 : decode cX8_fastest 32 = .ok (.getfield 51, 3) := by decide +kernel
theorem d136_35 : decode cX8_fastest 35 = .ok (.aload_n 0, 1) := by decide +kernel
theorem d136_36 : decode cX8_fastest 36 = .ok (.getfield 16, 3) := by decide +kernel
theorem d136_39 : decode cX8_fastest 39 = .ok (.iload_n 1, 1) := by decide +kernel
theorem d136_40 : decode cX8_fastest 40 = .ok (.iconst (-1), 1) := by decide +kernel
theorem d136_41 : decode cX8_fastest 41 = .ok (.invokevirtual 259, 3) := by decide +kernel
theorem d136_44 : decode cX8_fastest 44 = .ok (.aload_n 0, 1) := by decide +kernel
theorem d136_45 : decode cX8_fastest 45 = .ok (.getfield 51, 3) := by decide +kernel
theorem d136_48 : decode cX8_fastest 48 = .ok (.invokevirtual 269, 3) := by decide +kernel
theorem d136_51 : decode cX8_fastest 51 = .ok (.ifCond .eq 5, 3) := by decide +kernel
theorem d136_54 : decode cX8_fastest 54 = .ok (.iload_n 2, 1) := by decide +kernel
theorem d136_55 : decode cX8_fastest 55 = .ok (.ireturn, 1) := by decide +kernel
theorem d136_56 : decode cX8_fastest 56 = .ok (.iinc 2 (-1), 3) := by decide +kernel
theorem d136_59 : decode cX8_fastest 59 = .ok (.goto (-41), 3) := by decide +kernel
theorem d136_62 : decode cX8_fastest 62 = .ok (.iconst (-1), 1) := by decide +kernel
theorem d136_63 : decode cX8_fastest 63 = .ok (.ireturn, 1) := by decide +kernel
theorem v136_0 {w : PW} {Q : PO → PW → Prop} {x1 : Int} (hs : Sh w) (hx1 : bd x1) (h : (bd ((gI w 1 1) - 1)) ∧ ((0 ≤ x1 ∧ x1 < gI w 1 1) → pC 37 [.ref 14, .ref 1] w (kV fun w2 => Sh w2 ∧ pX 136 18 [some (.ref 0), some (iv x1), some (iv 4)] [] w2 Q)) ∧ (¬ (0 ≤ x1 ∧ x1 < gI w 1 1) → Q (.inr 1) w)) : pX 136 0 [some (.ref 0), some (iv x1), none] [] w Q :=
  w_f b136 d136_0 rfl rfl rfl <| w_f b136 d136_1 rfl rfl rfl <| w_cc b136 d136_2 rfl (pcl_v (n := 1) rfl rfl rfl (by decide +kernel) (sh_isOb hs (tlt 0 rfl) tbC_0) rfl rfl) rfl <| c77 hs hx1 h.1 (fun c1 => w_f b136 d136_5 rfl rfl rfl <| w_gr b136 d136_6 rfl rfl hs (tlt 0 rfl) tbC_0 rfl (bxr0 (bxc 14 rfl)) <| w_f b136 d136_9 rfl rfl rfl <| w_gr b136 d136_10 rfl rfl hs (tlt 0 rfl) tbC_0 rfl (bxr0 (bxc 1 rfl)) <| w_c b136 d136_13 rfl (pcl_v (n := 1) rfl rfl rfl (by decide +kernel) (sh_isOb hs (bx00 (bxc 14 rfl)) (tb0 (bxc 14 rfl))) rfl rfl) rfl _ (hK_V fun w2 hkw2 => w_f b136 d136_16 rfl rfl rfl <| w_f b136 d136_17 rfl rfl rfl <| hkw2.2) (h.2.1 c1)) (fun c1 => h.2.2 c1)
theorem e136 {w : PW} {Q : PO → PW → Prop} {x1 : Int} (hs : Sh w) (hx1 : bd x1) (h : (bd ((gI w 1 1) - 1)) ∧ ((0 ≤ x1 ∧ x1 < gI w 1 1) → pC 37 [.ref 14, .ref 1] w (kV fun w2 => Sh w2 ∧ pX 136 18 [some (.ref 0), some (iv x1), some (iv 4)] [] w2 Q)) ∧ (¬ (0 ≤ x1 ∧ x1 < gI w 1 1) → Q (.inr 1) w)) : pC 136 [.ref 0, iv x1] w Q :=
  (pC_in (Nat.le_of_ble_eq_true rfl) rfl Q).mpr (v136_0 hs hx1 h)
theorem v136_18 {w : PW} {Q : PO → PW → Prop} {x1 : Int} {x2 : Int} (hs : Sh w) (hx1 : bd x1) (hx2 : bd x2) (h : (x2 < 1 → Q (.inl (some (iv ((-1))))) w) ∧ (1 ≤ x2 → ∀ w2 : PW, w2 = sI w 14 3 x2 → pC 124 [.ref 139, .ref 14, iv x1, iv ((-1))] w2 (kV fun w3 => Sh w3 ∧ ((¬ (gI w3 139 0 = 1)) → pX 136 18 [some (.ref 0), some (iv x1), some (iv (x2 + (-1)))] [] w3 Q) ∧ ((gI w3 139 0 = 1) → Q (.inl (some (iv x2))) w3)))) : pX 136 18 [some (.ref 0), some (iv x1), some (iv x2)] [] w Q :=
  w_f b136 d136_18 rfl rfl rfl <| w_f b136 d136_19 rfl rfl rfl <| w_iclt b136 d136_20 rfl rfl (by decide +kernel) hx2 ⟨by decide, by decide⟩ (fun c1 => w_f b136 d136_62 rfl rfl rfl <| w_ri b136 d136_63 r136 (h.1 c1)) (fun c1 => w_f b136 d136_23 rfl rfl rfl <| w_gr b136 d136_24 rfl rfl hs (tlt 0 rfl) tbC_0 rfl (bxr0 (bxc 14 rfl)) <| w_f b136 d136_27 rfl rfl rfl <| w_pi b136 d136_28 rfl rfl hs (bx00 (bxc 14 rfl)) (tb0 (bxc 14 rfl)) rfl rfl rfl <| w_f b136 d136_31 rfl rfl rfl <| w_gr b136 d136_32 rfl rfl (Sh_sI hs (slt_o (tb0 (bxc 14 rfl)) rfl)) (tlt 0 rfl) tbC_0 rfl (by decide) <| w_f b136 d136_35 rfl rfl rfl <| w_gr b136 d136_36 rfl rfl (Sh_sI hs (slt_o (tb0 (bxc 14 rfl)) rfl)) (tlt 0 rfl) tbC_0 rfl (bxr0 (bxc 14 rfl)) <| w_f b136 d136_39 rfl rfl rfl <| w_f b136 d136_40 rfl rfl rfl <| w_c b136 d136_41 rfl (pcl_v (n := 3) rfl rfl rfl (by decide +kernel) (sh_isOb (Sh_sI hs (slt_o (tb0 (bxc 14 rfl)) rfl)) (tlt 139 rfl) tbC_139) rfl rfl) rfl _ (hK_V fun w3 hkw3 => w_f b136 d136_44 rfl rfl rfl <| w_gr b136 d136_45 rfl rfl hkw3.1 (tlt 0 rfl) tbC_0 rfl (by decide) <| w_cc b136 d136_48 rfl (pcl_v (n := 0) rfl rfl rfl (by decide +kernel) (sh_isOb hkw3.1 (tlt 139 rfl) tbC_139) rfl rfl) rfl <| c129 hkw3.1 <| w_ifeqZ b136 d136_51 rfl rfl (by decide +kernel) (fun c5 => w_f b136 d136_56 rfl (pf_iinc rfl rfl) rfl <| w_j b136 d136_59 rfl (by decide +kernel) <| (hkw3.2.1 c5)) (fun c5 => w_f b136 d136_54 rfl rfl rfl <| w_ri b136 d136_55 r136 (hkw3.2.2 c5))) ((h.2 c1) _ rfl))
/-! 138: PinBarrel.needed(I)I -/
theorem b138 : mB 138 = cX8_needed := rfl
theorem r138 : mR 138 = (some .int) := rfl
theorem d138_0 : decode cX8_needed 0 = .ok (.aload_n 0, 1) := by decide +kernel
theorem d138_1 : decode cX8_needed 1 = .ok (.iload_n 1, 1) := by decide +kernel
theorem d138_2 : decode cX8_needed 2 = .ok (.invokevirtual 189, 3) := by decide +kernel
theorem d138_5 : decode cX8_needed 5 = .ok (.aload_n 0, 1) := by decide +kernel
theorem d138_6 : decode cX8_needed 6 = .ok (.getfield 51, 3) := by decide +kernel
theorem d138_9 : decode cX8_needed 9 = .ok (.aload_n 0, 1) := by decide +kernel
theorem d138_10 : decode cX8_needed 10 = .ok (.getfield 12, 3) := by decide +kernel
theorem d138_13 : decode cX8_needed 13 = .ok (.iload_n 1, 1) := by decide +kernel
theorem d138_14 : decode cX8_needed 14 = .ok (.iconst (-1), 1) := by decide +kernel
theorem d138_15 : decode cX8_needed 15 = .ok (.invokevirtual 259, 3) := by decide +kernel
theorem d138_18 : decode cX8_needed 18 = .ok (.aload_n 0, 1) := by decide +kernel
theorem d138_19 : decode cX8_needed 19 = .ok (.getfield 51, 3) := by decide +kernel
theorem d138_22 : decode cX8_needed 22 = .ok (.invokevirtual 269, 3) := by decide +kernel
theorem d138_25 : decode cX8_needed 25 = .ok (.ifCond .ne 5, 3) := by decide +kernel
theorem d138_28 : decode cX8_needed 28 = .ok (.iconst (-1), 1) := by decide +kernel
theorem d138_29 : decode cX8_needed 29 = .ok (.ireturn, 1) := by decide +kernel
theorem d138_30 : decode cX8_needed 30 = .ok (.aload_n 0, 1) := by decide +kernel
theorem d138_31 : decode cX8_needed 31 = .ok (.getfield 51, 3) := by decide +kernel
theorem d138_34 : decode cX8_needed 34 = .ok (.invokevirtual 276, 3) := by decide +kernel
theorem d138_37 : decode cX8_needed 37 = .ok (.istore_n 2, 1) := by decide +kernel
theorem d138_38 : decode cX8_needed 38 = .ok (.iconst 0, 1) := by decide +kernel
theorem d138_39 : decode cX8_needed 39 = .ok (.istore_n 3, 1) := by decide +kernel
theorem d138_40 : decode cX8_needed 40 = .ok (.iload_n 3, 1) := by decide +kernel
theorem d138_41 : decode cX8_needed 41 = .ok (.aload_n 0, 1) := by decide +kernel
theorem d138_42 : decode cX8_needed 42 = .ok (.getfield 12, 3) := by decide +kernel
theorem d138_45 : decode cX8_needed 45 = .ok (.getfield 108, 3) := by decide +kernel
theorem d138_48 : decode cX8_needed 48 = .ok (.if_icmp .ge 42, 3) := by decide +kernel
theorem d138_51 : decode cX8_needed 51 = .ok (.iload_n 2, 1) := by decide +kernel
theorem d138_52 : decode cX8_needed 52 = .ok (.iload_n 3, 1) := by decide +kernel
theorem d138_53 : decode cX8_needed 53 = .ok (.ishr, 1) := by decide +kernel
theorem d138_54 : decode cX8_needed 54 = .ok (.iconst 1, 1) := by decide +kernel
theorem d138_55 : decode cX8_needed 55 = .ok (.iand, 1) := by decide +kernel
theorem d138_56 : decode cX8_needed 56 = .ok (.ifCond .eq 28, 3) := by decide +kernel
theorem d138_59 : decode cX8_needed 59 = .ok (.aload_n 0, 1) := by decide +kernel
theorem d138_60 : decode cX8_needed 60 = .ok (.getfield 51, 3) := by decide +kernel
theorem d138_63 : decode cX8_needed 63 = .ok (.aload_n 0, 1) := by decide +kernel
theorem d138_64 : decode cX8_needed 64 = .ok (.getfield 12, 3) := by decide +kernel
theorem d138_67 : decode cX8_needed 67 = .ok (.iload_n 1, 1) := by decide +kernel
theorem d138_68 : decode cX8_needed 68 = .ok (.iload_n 3, 1) := by decide +kernel
theorem d138_69 : decode cX8_needed 69 = .ok (.invokevirtual 259, 3) := by decide +kernel
theorem d138_72 : decode cX8_needed 72 = .ok (.aload_n 0, 1) := by decide +kernel
theorem d138_73 : decode cX8_needed 73 = .ok (.getfield 51, 3) := by decide +kernel
theorem d138_76 : decode cX8_needed 76 = .ok (.invokevirtual 269, 3) := by decide +kernel
theorem d138_79 : decode cX8_needed 79 = .ok (.ifCond .ne 5, 3) := by decide +kernel
theorem d138_82 : decode cX8_needed 82 = .ok (.iload_n 3, 1) := by decide +kernel
theorem d138_83 : decode cX8_needed 83 = .ok (.ireturn, 1) := by decide +kernel
theorem d138_84 : decode cX8_needed 84 = .ok (.iinc 3 1, 3) := by decide +kernel
theorem d138_87 : decode cX8_needed 87 = .ok (.goto (-47), 3) := by decide +kernel
theorem d138_90 : decode cX8_needed 90 = .ok (.iconst (-1), 1) := by decide +kernel
theorem d138_91 : decode cX8_needed 91 = .ok (.ireturn, 1) := by decide +kernel
theorem v138_0 {w : PW} {Q : PO → PW → Prop} {x1 : Int} (hs : Sh w) (hx1 : bd x1) (h : (bd ((gI w 1 1) - 1)) ∧ ((0 ≤ x1 ∧ x1 < gI w 1 1) → pC 124 [.ref 139, .ref 1, iv x1, iv ((-1))] w (kV fun w2 => Sh w2 ∧ ((gI w2 139 0 = 1) → pC 133 [.ref 139] w2 (kI fun u6 w5 => Sh w5 ∧ pX 138 40 [some (.ref 0), some (iv x1), some (iv u6), some (iv 0)] [] w5 Q)) ∧ ((¬ (gI w2 139 0 = 1)) → Q (.inl (some (iv ((-1))))) w2))) ∧ (¬ (0 ≤ x1 ∧ x1 < gI w 1 1) → Q (.inr 1) w)) : pX 138 0 [some (.ref 0), some (iv x1), none, none] [] w Q :=
  w_f b138 d138_0 rfl rfl rfl <| w_f b138 d138_1 rfl rfl rfl <| w_cc b138 d138_2 rfl (pcl_v (n := 1) rfl rfl rfl (by decide +kernel) (sh_isOb hs (tlt 0 rfl) tbC_0) rfl rfl) rfl <| c77 hs hx1 h.1 (fun c1 => w_f b138 d138_5 rfl rfl rfl <| w_gr b138 d138_6 rfl rfl hs (tlt 0 rfl) tbC_0 rfl (by decide) <| w_f b138 d138_9 rfl rfl rfl <| w_gr b138 d138_10 rfl rfl hs (tlt 0 rfl) tbC_0 rfl (bxr0 (bxc 1 rfl)) <| w_f b138 d138_13 rfl rfl rfl <| w_f b138 d138_14 rfl rfl rfl <| w_c b138 d138_15 rfl (pcl_v (n := 3) rfl rfl rfl (by decide +kernel) (sh_isOb hs (tlt 139 rfl) tbC_139) rfl rfl) rfl _ (hK_V fun w2 hkw2 => w_f b138 d138_18 rfl rfl rfl <| w_gr b138 d138_19 rfl rfl hkw2.1 (tlt 0 rfl) tbC_0 rfl (by decide) <| w_cc b138 d138_22 rfl (pcl_v (n := 0) rfl rfl rfl (by decide +kernel) (sh_isOb hkw2.1 (tlt 139 rfl) tbC_139) rfl rfl) rfl <| c129 hkw2.1 <| w_ifneZ b138 d138_25 rfl rfl (by decide +kernel) (fun c4 => w_f b138 d138_30 rfl rfl rfl <| w_gr b138 d138_31 rfl rfl hkw2.1 (tlt 0 rfl) tbC_0 rfl (by decide) <| w_c b138 d138_34 rfl (pcl_v (n := 0) rfl rfl rfl (by decide +kernel) (sh_isOb hkw2.1 (tlt 139 rfl) tbC_139) rfl rfl) rfl _ (hK_I fun u6 w5 hbu6 hkw5 => w_f b138 d138_37 rfl rfl rfl <| w_f b138 d138_38 rfl rfl rfl <| w_f b138 d138_39 rfl rfl rfl <| hkw5.2) (hkw2.2.1 c4)) (fun c4 => w_f b138 d138_28 rfl rfl rfl <| w_ri b138 d138_29 r138 (hkw2.2.2 c4))) (h.2.1 c1)) (fun c1 => h.2.2 c1)
theorem e138 {w : PW} {Q : PO → PW → Prop} {x1 : Int} (hs : Sh w) (hx1 : bd x1) (h : (bd ((gI w 1 1) - 1)) ∧ ((0 ≤ x1 ∧ x1 < gI w 1 1) → pC 124 [.ref 139, .ref 1, iv x1, iv ((-1))] w (kV fun w2 => Sh w2 ∧ ((gI w2 139 0 = 1) → pC 133 [.ref 139] w2 (kI fun u6 w5 => Sh w5 ∧ pX 138 40 [some (.ref 0), some (iv x1), some (iv u6), some (iv 0)] [] w5 Q)) ∧ ((¬ (gI w2 139 0 = 1)) → Q (.inl (some (iv ((-1))))) w2))) ∧ (¬ (0 ≤ x1 ∧ x1 < gI w 1 1) → Q (.inr 1) w)) : pC 138 [.ref 0, iv x1] w Q :=
  (pC_in (Nat.le_of_ble_eq_true rfl) rfl Q).mpr (v138_0 hs hx1 h)
theorem v138_40 {w : PW} {Q : PO → PW → Prop} {x1 : Int} {x2 : Int} {x3 : Int} (hs : Sh w) (hx1 : bd x1) (hx2 : bd x2) (hx3 : bd x3) (h : ((gI w 1 4) ≤ x3 → Q (.inl (some (iv ((-1))))) w) ∧ (x3 < (gI w 1 4) → ((iAnd (iShr x2 x3) 1) = 0 → pX 138 40 [some (.ref 0), some (iv x1), some (iv x2), some (iv (x3 + 1))] [] w Q) ∧ ((iAnd (iShr x2 x3) 1) ≠ 0 → pC 124 [.ref 139, .ref 1, iv x1, iv x3] w (kV fun w3 => Sh w3 ∧ ((gI w3 139 0 = 1) → pX 138 40 [some (.ref 0), some (iv x1), some (iv x2), some (iv (x3 + 1))] [] w3 Q) ∧ ((¬ (gI w3 139 0 = 1)) → Q (.inl (some (iv x3))) w3))))) : pX 138 40 [some (.ref 0), some (iv x1), some (iv x2), some (iv x3)] [] w Q :=
  w_f b138 d138_40 rfl rfl rfl <| w_f b138 d138_41 rfl rfl rfl <| w_gr b138 d138_42 rfl rfl hs (tlt 0 rfl) tbC_0 rfl (bxr0 (bxc 1 rfl)) <| w_gi b138 d138_45 rfl rfl hs (bx00 (bxc 1 rfl)) (tb0 (bxc 1 rfl)) rfl <| w_icge b138 d138_48 rfl rfl (by decide +kernel) hx3 (bd_gI _ _ _) (fun c1 => w_f b138 d138_90 rfl rfl rfl <| w_ri b138 d138_91 r138 (h.1 c1)) (fun c1 => w_f b138 d138_51 rfl rfl rfl <| w_f b138 d138_52 rfl rfl rfl <| w_f b138 d138_53 rfl (pf_ishr x2 x3) rfl <| w_f b138 d138_54 rfl rfl rfl <| w_f b138 d138_55 rfl (pf_iand (iShr x2 x3) 1) rfl <| w_ifeq b138 d138_56 rfl rfl (by decide +kernel) (bd_toInt _) (fun c2 => w_f b138 d138_84 rfl (pf_iinc rfl rfl) rfl <| w_j b138 d138_87 rfl (by decide +kernel) <| ((h.2 c1).1 c2)) (fun c2 => w_f b138 d138_59 rfl rfl rfl <| w_gr b138 d138_60 rfl rfl hs (tlt 0 rfl) tbC_0 rfl (by decide) <| w_f b138 d138_63 rfl rfl rfl <| w_gr b138 d138_64 rfl rfl hs (tlt 0 rfl) tbC_0 rfl (bxr0 (bxc 1 rfl)) <| w_f b138 d138_67 rfl rfl rfl <| w_f b138 d138_68 rfl rfl rfl <| w_c b138 d138_69 rfl (pcl_v (n := 3) rfl rfl rfl (by decide +kernel) (sh_isOb hs (tlt 139 rfl) tbC_139) rfl rfl) rfl _ (hK_V fun w3 hkw3 => w_f b138 d138_72 rfl rfl rfl <| w_gr b138 d138_73 rfl rfl hkw3.1 (tlt 0 rfl) tbC_0 rfl (by decide) <| w_cc b138 d138_76 rfl (pcl_v (n := 0) rfl rfl rfl (by decide +kernel) (sh_isOb hkw3.1 (tlt 139 rfl) tbC_139) rfl rfl) rfl <| c129 hkw3.1 <| w_ifneZ b138 d138_79 rfl rfl (by decide +kernel) (fun c5 => w_f b138 d138_84 rfl (pf_iinc rfl rfl) rfl <| w_j b138 d138_87 rfl (by decide +kernel) <| (hkw3.2.1 c5)) (fun c5 => w_f b138 d138_82 rfl rfl rfl <| w_ri b138 d138_83 r138 (hkw3.2.2 c5))) ((h.2 c1).2 c2)))
/-- the greatest speed, sought from above -/
def sFast (m : Row) (u : Int) : Nat → Int
  | 0 => -1
  | v + 1 => if (sSeek (mset m 3 ((v + 1 : Nat) : Int)) u (-1)).1 = 1 then ((v + 1 : Nat) : Int) else sFast m u v
def sp136 (m : Row) (x : Int) : PO := spU m x (rI (sFast m x 4))
theorem mset_mset {m : Row} {k : Nat} {a b : Int} : mset (mset m k a) k b = mset m k b := by
  funext j
  unfold mset
  split <;> rfl
theorem l136 {w : PW} {Q : PO → PW → Prop} {m : Row} {u : Nat} (hB : BR w 1 m) (hu : (u : Int) < m 1) (h : ∀ w', CF w w' → Q (rI (sFast m u 4)) w') : ∀ v : Nat, v ≤ 4 → sFast m u v = sFast m u 4 → ∀ w1 : PW, Sh w1 → CF w w1 → (∃ z, BR w1 14 (mset m 3 z)) → pX 136 18 [some (.ref 0), some (iv (u : Nat)), some (iv (v : Nat))] [] w1 Q := by
  have h1 := hB.ok.u
  intro v
  induction v with
  | zero =>
    intro _ he w1 s1 hC _
    refine v136_18 s1 (bdk (by omega)) (bdk (by omega)) ⟨fun _ => ?_, fun q => by omega⟩
    have := h w1 hC
    rw [← he] at this
    exact this
  | succ v ih =>
    intro hv he w1 s1 hC hD
    obtain ⟨z, hD⟩ := hD
    refine v136_18 s1 (bdk (by omega)) (bdk (by omega)) ⟨fun q => by omega, fun _ w2 e2 => ?_⟩
    have hok : RowOK (mset (mset m 3 z) 3 ((v + 1 : Nat) : Int)) := mset_ok hD.ok (Or.inr (Or.inl ⟨rfl, by omega, by omega⟩))
    obtain ⟨s2, b2, o2⟩ := setW s1 hD e2 hok (bdk (by omega)) (Or.inl ⟨rfl, rfl, Or.inr rfl⟩)
    rw [mset_mset] at b2
    have hC2 := hC.ob s2 o2
    have hu2 : (u : Int) < mset m 3 ((v + 1 : Nat) : Int) 1 := by rw [mset_ne (by decide)]; exact hu
    refine c124 s2 b2 hu2 ⟨by decide, by decide⟩ (fun w3 s3 hF hK => ⟨s3, ?_⟩)
    have hC3 := hC2.sf s3 hF
    rw [hK.1]
    refine ⟨fun q => ?_, fun q => ?_⟩
    · rw [show (((v + 1 : Nat) : Int) + (-1)) = (v : Int) from by omega]
      exact ih (by omega) (by rw [← he]; exact (if_neg q).symm) w3 s3 hC3 ⟨_, hF.br b2⟩
    · have := h w3 hC3
      rw [← he, show sFast m u (v + 1) = ((v + 1 : Nat) : Int) from if_pos q] at this
      exact this
theorem c136 {w : PW} {Q : PO → PW → Prop} {m : Row} {x1 : Int} (hs : Sh w) (hB : BR w 1 m) (hx1 : bd x1) (h : ∀ w', CF w w' → Q (sp136 m x1) w') : pC 136 [.ref 0, iv x1] w Q := by
  have h1 := hB.ok.u
  refine e136 hs hx1 ?_
  rw [hB.u]
  refine ⟨⟨by omega, by omega⟩, fun q1 => ?_, fun q1 => sp_f (h w (CF.rf hs)) q1⟩
  have hr := fun w' hw => sp_t (h w' hw) q1
  obtain ⟨u, rfl⟩ := nat_of q1.1
  refine c37 hs bx14 hB (by decide) (fun w2 s2 b2 o2 => ⟨s2, l136 hB q1.2 hr 4 (Nat.le_refl _) rfl w2 s2 ((CF.rf hs).ob s2 o2) ⟨m 3, ?_⟩⟩)
  have : mset m 3 (m 3) = m := by funext j; unfold mset; split
                                  · rename_i e; rw [e]
                                  · rfl
  rw [this]
  exact b2
/-- the lowest tooth in use without which nothing is found -/
def sNeedP (m : Row) (u : Int) (t : Nat) : Bool := tI (usedN (sSeek m u (-1)).2.2.2 (ordR m u)) t && decide ((sSeek m u t).1 ≠ 1)
def sp138 (m : Row) (x : Int) : PO := spU m x (rI (if (sSeek m x (-1)).1 = 1 then (if fnd (sNeedP m x) (m 4).toNat < (m 4).toNat then (fnd (sNeedP m x) (m 4).toNat : Int) else -1) else -1))
theorem iAnd1 {X : Int} {t : Nat} (ht : t < 32) : (iAnd (iShr X (t : Nat)) 1 = 0 ↔ tI X t = false) := by
  rw [tI_one (by omega), Int.toNat_natCast]
  cases tI X t with
  | true => exact ⟨fun h => absurd h (by decide), fun h => absurd h (by decide)⟩
  | false => exact ⟨fun _ => rfl, fun _ => rfl⟩
theorem l138 {w : PW} {Q : PO → PW → Prop} {m : Row} {u : Nat} {X : Int} (hB : BR w 1 m) (hu : (u : Int) < m 1) (hX : bd X) (hXe : X = usedN (sSeek m u (-1)).2.2.2 (ordR m u)) (h : ∀ w', CF w w' → Q (rI (if fnd (sNeedP m u) (m 4).toNat < (m 4).toNat then (fnd (sNeedP m u) (m 4).toNat : Int) else -1)) w') : ∀ n i : Nat, i + n = (m 4).toNat → (∀ j, j < i → sNeedP m u j = false) → ∀ w1 : PW, Sh w1 → CF w w1 → pX 138 40 [some (.ref 0), some (iv (u : Nat)), some (iv X), some (iv (i : Nat))] [] w1 Q := by
  have h1 := hB.ok.u
  have h4 := hB.ok.t
  intro n
  induction n with
  | zero =>
    intro i hi hI w1 s1 hC
    refine v138_40 s1 (bdk (by omega)) hX (bdk (by omega)) ?_
    rw [(hC.b1 hB).t]
    refine ⟨fun _ => ?_, fun q => by omega⟩
    have e : fnd (sNeedP m u) (m 4).toNat = i := fnd_eq hI (fun q => absurd q (by omega)) (by omega)
    have := h w1 hC
    rw [e, if_neg (by omega)] at this
    exact this
  | succ n ih =>
    intro i hi hI w1 s1 hC
    have b1 := hC.b1 hB
    have hnx : sNeedP m u i = false → ∀ j, j < i + 1 → sNeedP m u j = false := fun q j hj => by
      by_cases e : j = i
      · rw [e]; exact q
      · exact hI j (by omega)
    refine v138_40 s1 (bdk (by omega)) hX (bdk (by omega)) ?_
    rw [b1.t]
    refine ⟨fun q => by omega, fun _ => ⟨fun q => ?_, fun q => c124 s1 b1 hu (bdk (by omega)) (fun w3 s3 hF hK => ⟨s3, ?_⟩)⟩⟩
    · refine ih (i + 1) (by omega) (hnx ?_) w1 s1 hC
      have := (iAnd1 (by omega)).mp q
      unfold sNeedP
      rw [← hXe, this, Bool.false_and]
    · have hC3 := hC.sf s3 hF
      have hbit : tI X i = true := by
        cases q2 : tI X i with
        | true => rfl
        | false => exact absurd ((iAnd1 (by omega)).mpr q2) q
      rw [hK.1]
      refine ⟨fun q2 => ?_, fun q2 => ?_⟩
      · refine ih (i + 1) (by omega) (hnx ?_) w3 s3 hC3
        unfold sNeedP
        rw [decide_eq_false (fun z => z q2), Bool.and_false]
      · have e : fnd (sNeedP m u) (m 4).toNat = i := fnd_eq hI (fun _ => by
          unfold sNeedP
          rw [← hXe, hbit, decide_eq_true q2]; rfl) (by omega)
        have := h w3 hC3
        rw [e, if_pos (by omega)] at this
        exact this
theorem c138 {w : PW} {Q : PO → PW → Prop} {m : Row} {x1 : Int} (hs : Sh w) (hB : BR w 1 m) (hx1 : bd x1) (h : ∀ w', CF w w' → Q (sp138 m x1) w') : pC 138 [.ref 0, iv x1] w Q := by
  have h1 := hB.ok.u
  have h4 := hB.ok.t
  refine e138 hs hx1 ?_
  rw [hB.u]
  refine ⟨⟨by omega, by omega⟩, fun q1 => ?_, fun q1 => sp_f (h w (CF.rf hs)) q1⟩
  have hr := fun w' hw => sp_t (h w' hw) q1
  obtain ⟨u, rfl⟩ := nat_of q1.1
  refine c124 hs hB q1.2 ⟨by decide, by decide⟩ (fun w2 s2 hF hK => ⟨s2, ?_⟩)
  have hC := (CF.rf hs).sf s2 hF
  rw [hK.1]
  refine ⟨fun q => ?_, fun q => by have hw := hr w2 hC; rw [if_neg q] at hw; exact hw⟩
  have hch := (hK.2.2.2.2 q).2.2
  have hub := usedN_bits (ch := (sSeek m u (-1)).2.2.2) (n := ordR m u) (fun k hk => ⟨(hch.1 k hk).1, by have := (hch.1 k hk).2; omega⟩)
  refine c133 s2 hB.ok hK q (fun X hX hXb => kI_iv hX ⟨s2, ?_⟩)
  have eX : X = usedN (sSeek m u (-1)).2.2.2 (ordR m u) := tI_ext hX hub.1 (fun t ht => by rw [hXb t ht, hub.2 t ht])
  exact l138 hB q1.2 hX eX (fun w' hw => by have := hr w' hw; rw [if_pos q] at this; exact this) (m 4).toNat 0 (Nat.zero_add _) (fun j hj => absurd hj (Nat.not_lt_zero j)) w2 s2 hC
/-- does one more tooth of a pitch help, as the class asks -/
def sWantP (m : Row) (u : Int) (p : Nat) : Bool := if 0 < sUses m u p then decide ((sSeek (rTooth m p 1) u (-1)).1 = 1) else decide ((sSeek m u (-1)).1 = 1)
def sp141 (m : Row) (x : Int) : PO := spU m x (rI (if m 4 < 12 then (if fnd (sWantP m x) 24 < 24 then (fnd (sWantP m x) 24 : Int) else -1) else -1))
