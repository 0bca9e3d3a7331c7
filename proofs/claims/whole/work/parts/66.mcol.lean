/-! THE MODEL: collisions -/
/-! 255: PinBarrelModel.seeksCollision(I)I -/
theorem b255 : mB 255 = cX9_seeksCollision := rfl
theorem r255 : mR 255 = (some .int) := rfl
theorem p255 (a b : Nat) : phi 255 a ≤ phi 255 b := Nat.le_refl 0
theorem d255_0 : decode cX9_seeksCollision 0 = .ok (.iconst 0, 1) := by decide +kernel
theorem d255_1 : decode cX9_seeksCollision 1 = .ok (.istore_n 2, 1) := by decide +kernel
theorem d255_2 : decode cX9_seeksCollision 2 = .ok (.iconst 0, 1) := by decide +kernel
theorem d255_3 : decode cX9_seeksCollision 3 = .ok (.istore_n 3, 1) := by decide +kernel
theorem d255_4 : decode cX9_seeksCollision 4 = .ok (.iload_n 3, 1) := by decide +kernel
theorem d255_5 : decode cX9_seeksCollision 5 = .ok (.iconst 1, 1) := by decide +kernel
theorem d255_6 : decode cX9_seeksCollision 6 = .ok (.iadd, 1) := by decide +kernel
theorem d255_7 : decode cX9_seeksCollision 7 = .ok (.aload_n 0, 1) := by decide +kernel
theorem d255_8 : decode cX9_seeksCollision 8 = .ok (.invokevirtual 259, 3) := by decide +kernel
theorem d255_11 : decode cX9_seeksCollision 11 = .ok (.if_icmp .ge 123, 3) := by decide +kernel
theorem d255_14 : decode cX9_seeksCollision 14 = .ok (.iconst 0, 1) := by decide +kernel
theorem d255_15 : decode cX9_seeksCollision 15 = .ok (.istore 4, 2) := by decide +kernel
theorem d255_17 : decode cX9_seeksCollision 17 = .ok (.iload 4, 2) := by decide +kernel
theorem d255_19 : decode cX9_seeksCollision 19 = .ok (.aload_n 0, 1) := by decide +kernel
theorem d255_20 : decode cX9_seeksCollision 20 = .ok (.getfield 9, 3) := by decide +kernel
theorem d255_23 : decode cX9_seeksCollision 23 = .ok (.iconst 0, 1) := by decide +kernel
theorem d255_24 : decode cX9_seeksCollision 24 = .ok (.iaload, 1) := by decide +kernel
theorem d255_25 : decode cX9_seeksCollision 25 = .ok (.if_icmp .ge 103, 3) := by decide +kernel
theorem d255_28 : decode cX9_seeksCollision 28 = .ok (.aload_n 0, 1) := by decide +kernel
theorem d255_29 : decode cX9_seeksCollision 29 = .ok (.iload_n 3, 1) := by decide +kernel
theorem d255_30 : decode cX9_seeksCollision 30 = .ok (.iload 4, 2) := by decide +kernel
theorem d255_32 : decode cX9_seeksCollision 32 = .ok (.invokevirtual 262, 3) := by decide +kernel
theorem d255_35 : decode cX9_seeksCollision 35 = .ok (.ifCond .ne 6, 3) := by decide +kernel
theorem d255_38 : decode cX9_seeksCollision 38 = .ok (.goto 84, 3) := by decide +kernel
theorem d255_41 : decode cX9_seeksCollision 41 = .ok (.iconst 0, 1) := by decide +kernel
theorem d255_42 : decode cX9_seeksCollision 42 = .ok (.istore 5, 2) := by decide +kernel
theorem d255_44 : decode cX9_seeksCollision 44 = .ok (.iload 5, 2) := by decide +kernel
theorem d255_46 : decode cX9_seeksCollision 46 = .ok (.aload_n 0, 1) := by decide +kernel
theorem d255_47 : decode cX9_seeksCollision 47 = .ok (.getfield 9, 3) := by decide +kernel
theorem d255_50 : decode cX9_seeksCollision 50 = .ok (.iconst 0, 1) := by decide +kernel
theorem d255_51 : decode cX9_seeksCollision 51 = .ok (.iaload, 1) := by decide +kernel
theorem d255_52 : decode cX9_seeksCollision 52 = .ok (.if_icmp .ge 70, 3) := by decide +kernel
theorem d255_55 : decode cX9_seeksCollision 55 = .ok (.aload_n 0, 1) := by decide +kernel
theorem d255_56 : decode cX9_seeksCollision 56 = .ok (.iload_n 3, 1) := by decide +kernel
theorem d255_57 : decode cX9_seeksCollision 57 = .ok (.iconst 1, 1) := by decide +kernel
theorem d255_58 : decode cX9_seeksCollision 58 = .ok (.iadd, 1) := by decide +kernel
theorem d255_59 : decode cX9_seeksCollision 59 = .ok (.iload 5, 2) := by decide +kernel
theorem d255_61 : decode cX9_seeksCollision 61 = .ok (.invokevirtual 262, 3) := by decide +kernel
theorem d255_64 : decode cX9_seeksCollision 64 = .ok (.ifCond .eq 52, 3) := by decide +kernel
theorem d255_67 : decode cX9_seeksCollision 67 = .ok (.aload_n 0, 1) := by decide +kernel
theorem d255_68 : decode cX9_seeksCollision 68 = .ok (.iload 4, 2) := by decide +kernel
theorem d255_70 : decode cX9_seeksCollision 70 = .ok (.iload 5, 2) := by decide +kernel
theorem d255_72 : decode cX9_seeksCollision 72 = .ok (.aload_n 0, 1) := by decide +kernel
theorem d255_73 : decode cX9_seeksCollision 73 = .ok (.getfield 9, 3) := by decide +kernel
theorem d255_76 : decode cX9_seeksCollision 76 = .ok (.iconst 2, 1) := by decide +kernel
theorem d255_77 : decode cX9_seeksCollision 77 = .ok (.iaload, 1) := by decide +kernel
theorem d255_78 : decode cX9_seeksCollision 78 = .ok (.invokevirtual 265, 3) := by decide +kernel
theorem d255_81 : decode cX9_seeksCollision 81 = .ok (.ifCond .ne 6, 3) := by decide +kernel
theorem d255_84 : decode cX9_seeksCollision 84 = .ok (.goto 32, 3) := by decide +kernel
theorem d255_87 : decode cX9_seeksCollision 87 = .ok (.aload_n 0, 1) := by decide +kernel
theorem d255_88 : decode cX9_seeksCollision 88 = .ok (.iload_n 3, 1) := by decide +kernel
theorem d255_89 : decode cX9_seeksCollision 89 = .ok (.putfield 268, 3) := by decide +kernel
theorem d255_92 : decode cX9_seeksCollision 92 = .ok (.aload_n 0, 1) := by decide +kernel
theorem d255_93 : decode cX9_seeksCollision 93 = .ok (.iload 4, 2) := by decide +kernel
theorem d255_95 : decode cX9_seeksCollision 95 = .ok (.putfield 271, 3) := by decide +kernel
theorem d255_98 : decode cX9_seeksCollision 98 = .ok (.aload_n 0, 1) := by decide +kernel
theorem d255_99 : decode cX9_seeksCollision 99 = .ok (.iload 5, 2) := by decide +kernel
theorem d255_101 : decode cX9_seeksCollision 101 = .ok (.putfield 274, 3) := by decide +kernel
theorem d255_104 : decode cX9_seeksCollision 104 = .ok (.iload_n 2, 1) := by decide +kernel
theorem d255_105 : decode cX9_seeksCollision 105 = .ok (.iload_n 1, 1) := by decide +kernel
theorem d255_106 : decode cX9_seeksCollision 106 = .ok (.if_icmp .ne 7, 3) := by decide +kernel
theorem d255_109 : decode cX9_seeksCollision 109 = .ok (.iload_n 2, 1) := by decide +kernel
theorem d255_110 : decode cX9_seeksCollision 110 = .ok (.iconst 1, 1) := by decide +kernel
theorem d255_111 : decode cX9_seeksCollision 111 = .ok (.iadd, 1) := by decide +kernel
theorem d255_112 : decode cX9_seeksCollision 112 = .ok (.ireturn, 1) := by decide +kernel
theorem d255_113 : decode cX9_seeksCollision 113 = .ok (.iinc 2 1, 3) := by decide +kernel
theorem d255_116 : decode cX9_seeksCollision 116 = .ok (.iinc 5 1, 3) := by decide +kernel
theorem d255_119 : decode cX9_seeksCollision 119 = .ok (.goto (-75), 3) := by decide +kernel
theorem d255_122 : decode cX9_seeksCollision 122 = .ok (.iinc 4 1, 3) := by decide +kernel
theorem d255_125 : decode cX9_seeksCollision 125 = .ok (.goto (-108), 3) := by decide +kernel
theorem d255_128 : decode cX9_seeksCollision 128 = .ok (.iinc 3 1, 3) := by decide +kernel
theorem d255_131 : decode cX9_seeksCollision 131 = .ok (.goto (-127), 3) := by decide +kernel
theorem d255_134 : decode cX9_seeksCollision 134 = .ok (.iload_n 2, 1) := by decide +kernel
theorem d255_135 : decode cX9_seeksCollision 135 = .ok (.ireturn, 1) := by decide +kernel
theorem v255_0 {w : PW} {Q : PO → PW → Prop} {x1 : Int} (hs : Sh w) (hx1 : bd x1) (h : pX 255 4 [some (.ref 169), some (iv x1), some (iv 0), some (iv 0), none, none] [] w Q) : pX 255 0 [some (.ref 169), some (iv x1), none, none, none, none] [] w Q :=
  w_f b255 d255_0 rfl rfl rfl <| w_f b255 d255_1 rfl rfl rfl <| w_f b255 d255_2 rfl rfl rfl <| w_f b255 d255_3 rfl rfl rfl <| h
theorem e255 {w : PW} {Q : PO → PW → Prop} {x1 : Int} (hs : Sh w) (hx1 : bd x1) (h : pX 255 4 [some (.ref 169), some (iv x1), some (iv 0), some (iv 0), none, none] [] w Q) : pC 255 [.ref 169, iv x1] w Q :=
  (pC_in (Nat.le_of_ble_eq_true rfl) rfl Q).mpr (v255_0 hs hx1 h)
theorem v255_4 {w : PW} {Q : PO → PW → Prop} {x1 : Int} {x2 : Int} {x3 : Int} {o4 : Option Value} {o5 : Option Value} (hs : Sh w) (hx1 : bd x1) (hx2 : bd x2) (hx3 : bd x3) (ho4 : pc2 o4 = false) (ho5 : pc2 o5 = false) (h : (bd (x3 + 1)) ∧ (bd ((gI w 170 1) * (gI w 170 4))) ∧ (((gI w 170 1) * (gI w 170 4)) ≤ (x3 + 1) → Q (.inl (some (iv x2))) w) ∧ ((x3 + 1) < ((gI w 170 1) * (gI w 170 4)) → pX 255 17 [some (.ref 169), some (iv x1), some (iv x2), some (iv x3), some (iv 0), o5] [] w Q)) : pX 255 4 [some (.ref 169), some (iv x1), some (iv x2), some (iv x3), o4, o5] [] w Q :=
  w_f b255 d255_4 rfl rfl rfl <| w_f b255 d255_5 rfl rfl rfl <| w_f b255 d255_6 rfl (pf_iadd x3 1) rfl <| w_f b255 d255_7 rfl rfl rfl <| w_cc b255 d255_8 rfl (pcl_v (n := 0) rfl rfl rfl (by decide +kernel) (sh_isOb hs (tlt 169 rfl) tbC_169) rfl rfl) rfl <| c249 hs <| w_icge b255 d255_11 rfl rfl (p255 _ _) h.1 h.2.1 (fun c1 => w_f b255 d255_134 rfl rfl rfl <| w_ri b255 d255_135 r255 (h.2.2.1 c1)) (fun c1 => w_f b255 d255_14 rfl rfl rfl <| w_f b255 d255_15 rfl rfl rfl <| (h.2.2.2 c1))
theorem v255_17 {w : PW} {Q : PO → PW → Prop} {x1 : Int} {x2 : Int} {x3 : Int} {x4 : Int} {o5 : Option Value} (hs : Sh w) (hx1 : bd x1) (hx2 : bd x2) (hx3 : bd x3) (hx4 : bd x4) (ho5 : pc2 o5 = false) (h : ((gI w 170 0) ≤ x4 → pX 255 4 [some (.ref 169), some (iv x1), some (iv x2), some (iv (x3 + 1)), some (iv x4), o5] [] w Q) ∧ (x4 < (gI w 170 0) → (1 ≤ gI w 170 1 ∧ gI w 170 1 ≤ 3) ∧ (0 ≤ x3 ∧ x3 < 12 * gI w 170 1) ∧ (0 ≤ x4 ∧ x4 < 64) ∧ ((mOn w x3 x4 = true) → pX 255 44 [some (.ref 169), some (iv x1), some (iv x2), some (iv x3), some (iv x4), some (iv 0)] [] w Q) ∧ ((¬ (mOn w x3 x4 = true)) → pX 255 17 [some (.ref 169), some (iv x1), some (iv x2), some (iv x3), some (iv (x4 + 1)), o5] [] w Q))) : pX 255 17 [some (.ref 169), some (iv x1), some (iv x2), some (iv x3), some (iv x4), o5] [] w Q :=
  w_f b255 d255_17 rfl rfl rfl <| w_f b255 d255_19 rfl rfl rfl <| w_gr b255 d255_20 rfl rfl hs (tlt 169 rfl) tbC_169 rfl (by decide) <| w_f b255 d255_23 rfl rfl rfl <| w_ial b255 d255_24 rfl hs (tlt 170 rfl) tbC_170 (bdix (n := 843) ⟨by decide, by decide⟩ rfl) ⟨by decide, by decide⟩ <| w_icge b255 d255_25 rfl rfl (p255 _ _) hx4 (bd_gI _ _ _) (fun c1 => w_f b255 d255_128 rfl (pf_iinc rfl rfl) rfl <| w_j b255 d255_131 rfl (p255 _ _) <| (h.1 c1)) (fun c1 => w_f b255 d255_28 rfl rfl rfl <| w_f b255 d255_29 rfl rfl rfl <| w_f b255 d255_30 rfl rfl rfl <| w_cc b255 d255_32 rfl (pcl_v (n := 2) rfl rfl rfl (by decide +kernel) (sh_isOb hs (tlt 169 rfl) tbC_169) rfl rfl) rfl <| c252 hs hx3 hx4 (h.2 c1).1 (h.2 c1).2.1 (h.2 c1).2.2.1 <| w_ifneZ b255 d255_35 rfl rfl (p255 _ _) (fun c2 => w_f b255 d255_41 rfl rfl rfl <| w_f b255 d255_42 rfl rfl rfl <| ((h.2 c1).2.2.2.1 c2)) (fun c2 => w_j b255 d255_38 rfl (p255 _ _) <| w_f b255 d255_122 rfl (pf_iinc rfl rfl) rfl <| w_j b255 d255_125 rfl (p255 _ _) <| ((h.2 c1).2.2.2.2 c2)))
theorem v255_44 {w : PW} {Q : PO → PW → Prop} {x1 : Int} {x2 : Int} {x3 : Int} {x4 : Int} {x5 : Int} (hs : Sh w) (hx1 : bd x1) (hx2 : bd x2) (hx3 : bd x3) (hx4 : bd x4) (hx5 : bd x5) (h : ((gI w 170 0) ≤ x5 → pX 255 17 [some (.ref 169), some (iv x1), some (iv x2), some (iv x3), some (iv (x4 + 1)), some (iv x5)] [] w Q) ∧ (x5 < (gI w 170 0) → (bd (x3 + 1)) ∧ (1 ≤ gI w 170 1 ∧ gI w 170 1 ≤ 3) ∧ (0 ≤ (x3 + 1) ∧ (x3 + 1) < 12 * gI w 170 1) ∧ (0 ≤ x5 ∧ x5 < 64) ∧ ((¬ (mOn w (x3 + 1) x5 = true)) → pX 255 44 [some (.ref 169), some (iv x1), some (iv x2), some (iv x3), some (iv x4), some (iv (x5 + 1))] [] w Q) ∧ ((mOn w (x3 + 1) x5 = true) → (0 < gI w 170 0 ∧ gI w 170 0 ≤ 64) ∧ (0 ≤ x4 ∧ x4 < gI w 170 0) ∧ (0 ≤ x5 ∧ x5 < gI w 170 0) ∧ ((nearI (gI w 170 0) x4 x5 (gI w 170 2) = true) → ∀ w4 : PW, w4 = sI w 169 21 x3 → ∀ w5 : PW, w5 = sI w4 169 22 x4 → ∀ w6 : PW, w6 = sI w5 169 23 x5 → (x2 ≠ x1 → pX 255 44 [some (.ref 169), some (iv x1), some (iv (x2 + 1)), some (iv x3), some (iv x4), some (iv (x5 + 1))] [] w6 Q) ∧ (x2 = x1 → Q (.inl (some (iv (x2 + 1)))) w6)) ∧ ((¬ (nearI (gI w 170 0) x4 x5 (gI w 170 2) = true)) → pX 255 44 [some (.ref 169), some (iv x1), some (iv x2), some (iv x3), some (iv x4), some (iv (x5 + 1))] [] w Q)))) : pX 255 44 [some (.ref 169), some (iv x1), some (iv x2), some (iv x3), some (iv x4), some (iv x5)] [] w Q :=
  w_f b255 d255_44 rfl rfl rfl <| w_f b255 d255_46 rfl rfl rfl <| w_gr b255 d255_47 rfl rfl hs (tlt 169 rfl) tbC_169 rfl (by decide) <| w_f b255 d255_50 rfl rfl rfl <| w_ial b255 d255_51 rfl hs (tlt 170 rfl) tbC_170 (bdix (n := 843) ⟨by decide, by decide⟩ rfl) ⟨by decide, by decide⟩ <| w_icge b255 d255_52 rfl rfl (p255 _ _) hx5 (bd_gI _ _ _) (fun c1 => w_f b255 d255_122 rfl (pf_iinc rfl rfl) rfl <| w_j b255 d255_125 rfl (p255 _ _) <| (h.1 c1)) (fun c1 => w_f b255 d255_55 rfl rfl rfl <| w_f b255 d255_56 rfl rfl rfl <| w_f b255 d255_57 rfl rfl rfl <| w_f b255 d255_58 rfl (pf_iadd x3 1) rfl <| w_f b255 d255_59 rfl rfl rfl <| w_cc b255 d255_61 rfl (pcl_v (n := 2) rfl rfl rfl (by decide +kernel) (sh_isOb hs (tlt 169 rfl) tbC_169) rfl rfl) rfl <| c252 hs (h.2 c1).1 hx5 (h.2 c1).2.1 (h.2 c1).2.2.1 (h.2 c1).2.2.2.1 <| w_ifeqZ b255 d255_64 rfl rfl (p255 _ _) (fun c2 => w_f b255 d255_116 rfl (pf_iinc rfl rfl) rfl <| w_j b255 d255_119 rfl (p255 _ _) <| ((h.2 c1).2.2.2.2.1 c2)) (fun c2 => w_f b255 d255_67 rfl rfl rfl <| w_f b255 d255_68 rfl rfl rfl <| w_f b255 d255_70 rfl rfl rfl <| w_f b255 d255_72 rfl rfl rfl <| w_gr b255 d255_73 rfl rfl hs (tlt 169 rfl) tbC_169 rfl (by decide) <| w_f b255 d255_76 rfl rfl rfl <| w_ial b255 d255_77 rfl hs (tlt 170 rfl) tbC_170 (bdix (n := 843) ⟨by decide, by decide⟩ rfl) ⟨by decide, by decide⟩ <| w_cc b255 d255_78 rfl (pcl_v (n := 3) rfl rfl rfl (by decide +kernel) (sh_isOb hs (tlt 169 rfl) tbC_169) rfl rfl) rfl <| c254 hs hx4 hx5 (bd_gI _ _ _) ((h.2 c1).2.2.2.2.2 c2).1 ((h.2 c1).2.2.2.2.2 c2).2.1 ((h.2 c1).2.2.2.2.2 c2).2.2.1 <| w_ifneZ b255 d255_81 rfl rfl (p255 _ _) (fun c3 => w_f b255 d255_87 rfl rfl rfl <| w_f b255 d255_88 rfl rfl rfl <| w_pi b255 d255_89 rfl rfl hs (tlt 169 rfl) tbC_169 rfl rfl rfl <| w_f b255 d255_92 rfl rfl rfl <| w_f b255 d255_93 rfl rfl rfl <| w_pi b255 d255_95 rfl rfl (Sh_sI hs (slt_o tbC_169 rfl)) (tlt 169 rfl) tbC_169 rfl rfl rfl <| w_f b255 d255_98 rfl rfl rfl <| w_f b255 d255_99 rfl rfl rfl <| w_pi b255 d255_101 rfl rfl (Sh_sI (Sh_sI hs (slt_o tbC_169 rfl)) (slt_o tbC_169 rfl)) (tlt 169 rfl) tbC_169 rfl rfl rfl <| w_f b255 d255_104 rfl rfl rfl <| w_f b255 d255_105 rfl rfl rfl <| w_icne b255 d255_106 rfl rfl (p255 _ _) hx2 hx1 (fun c7 => w_f b255 d255_113 rfl (pf_iinc rfl rfl) rfl <| w_f b255 d255_116 rfl (pf_iinc rfl rfl) rfl <| w_j b255 d255_119 rfl (p255 _ _) <| (((((((h.2 c1).2.2.2.2.2 c2).2.2.2.1 c3) _ rfl) _ rfl) _ rfl).1 c7)) (fun c7 => w_f b255 d255_109 rfl rfl rfl <| w_f b255 d255_110 rfl rfl rfl <| w_f b255 d255_111 rfl (pf_iadd x2 1) rfl <| w_ri b255 d255_112 r255 (((((((h.2 c1).2.2.2.2.2 c2).2.2.2.1 c3) _ rfl) _ rfl) _ rfl).2 c7))) (fun c3 => w_j b255 d255_84 rfl (p255 _ _) <| w_f b255 d255_116 rfl (pf_iinc rfl rfl) rfl <| w_j b255 d255_119 rfl (p255 _ _) <| (((h.2 c1).2.2.2.2.2 c2).2.2.2.2 c3))))
/-! 256: PinBarrelModel.collisions()I -/
theorem b256 : mB 256 = cX9_collisions := rfl
theorem r256 : mR 256 = (some .int) := rfl
theorem p256 (a b : Nat) : phi 256 a ≤ phi 256 b := Nat.le_refl 0
theorem d256_0 : decode cX9_collisions 0 = .ok (.aload_n 0, 1) := by decide +kernel
theorem d256_1 : decode cX9_collisions 1 = .ok (.ldc 255, 2) := by decide +kernel
theorem d256_3 : decode cX9_collisions 3 = .ok (.invokevirtual 277, 3) := by decide +kernel
theorem d256_6 : decode cX9_collisions 6 = .ok (.ireturn, 1) := by decide +kernel
theorem v256_0 {w : PW} {Q : PO → PW → Prop}  (hs : Sh w)  (h : pC 255 [.ref 169, iv 2147483647] w (kI fun u2 w1 => Sh w1 ∧ Q (.inl (some (iv u2))) w1)) : pX 256 0 [some (.ref 169)] [] w Q :=
  w_f b256 d256_0 rfl rfl rfl <| w_ldcI b256 d256_1 rfl rfl <| w_c b256 d256_3 rfl (pcl_v (n := 1) rfl rfl rfl (by decide +kernel) (sh_isOb hs (tlt 169 rfl) tbC_169) rfl rfl) rfl _ (hK_I fun u2 w1 hbu2 hkw1 => w_ri b256 d256_6 r256 hkw1.2) h
theorem e256 {w : PW} {Q : PO → PW → Prop}  (hs : Sh w)  (h : pC 255 [.ref 169, iv 2147483647] w (kI fun u2 w1 => Sh w1 ∧ Q (.inl (some (iv u2))) w1)) : pC 256 [.ref 169] w Q :=
  (pC_in (Nat.le_of_ble_eq_true rfl) rfl Q).mpr (v256_0 hs  h)
theorem mOn_tr {w : PW} {m : Row} {x s : Nat} (hM : MR w m) (hx : x < (m 1).toNat * (m 4).toNat) (hs : (s : Int) < m 0) : mOn w (x : Nat) (s : Nat) = rTr m x s := by
  have h1 := hM.ok.u
  have h0 := hM.ok.s
  unfold mOn rTr rPin
  rw [hM.g (k := 1) rfl, decide_eq_true hx, decide_eq_true (p := s < (m 0).toNat) (by omega), Bool.true_and, Bool.true_and]
  have hm : x % (m 1).toNat < (m 1).toNat := Nat.mod_lt _ (by omega)
  have e1 : (x : Int) % m 1 = ((x % (m 1).toNat : Nat) : Int) := by rw [Int.natCast_emod, Int.toNat_of_nonneg (by omega)]
  have e2 : (x : Int) / m 1 = ((x / (m 1).toNat : Nat) : Int) := by rw [Int.natCast_ediv, Int.toNat_of_nonneg (by omega)]
  rw [e1, e2, hM.i (x := 251 + 64 * ((x % (m 1).toNat : Nat) : Int) + (s : Nat)) (n := 251 + 64 * (x % (m 1).toNat) + s) rfl (by omega), Int.toNat_natCast]
theorem sCoP_3 {m : Row} {x s z : Nat} (hs : s < 64) (hz : z < 64) : sCoP m (4096 * x + 64 * s + z) = (rTr m x s && (rTr m (x + 1) z && nearI (m 0) s z (m 2))) := by
  rw [Nat.add_assoc, sCoP_at (by omega)]
  unfold sCo1
  exact prP_at hz
section MCO
variable {w : PW} {Q : PO → PW → Prop} {m : Row} {x1 : Int}
theorem l255_44 {x s : Nat} (hx1 : bd x1) (hM : MR w m) (hx : x + 1 < (m 1).toNat * (m 4).toNat) (hs : (s : Int) < m 0) (hon : rTr m x s = true) (hY : ∀ c, c < 147456 → sCoP m c = true → (cnt (sCoP m) c : Int) = x1 → ∀ w2, MF w w2 → gI w2 169 21 = (c / 4096 : Nat) → gI w2 169 22 = (c % 4096 / 64 : Nat) → gI w2 169 23 = (c % 64 : Nat) → Q (.inl (some (iv (x1 + 1)))) w2) (hX : ∀ w2, MF w w2 → x1 < 0 ∨ (cnt (sCoP m) (4096 * x + 64 * (s + 1)) : Int) ≤ x1 → pX 255 17 [some (.ref 169), some (iv x1), some (iv (cnt (sCoP m) (4096 * x + 64 * (s + 1)) : Nat)), some (iv (x : Nat)), some (iv ((s : Int) + 1)), some (iv (m 0))] [] w2 Q) : ∀ k z : Nat, z + k = (m 0).toNat → ∀ w1, MF w w1 → x1 < 0 ∨ (cnt (sCoP m) (4096 * x + 64 * s + z) : Int) ≤ x1 → pX 255 44 [some (.ref 169), some (iv x1), some (iv (cnt (sCoP m) (4096 * x + 64 * s + z) : Nat)), some (iv (x : Nat)), some (iv (s : Nat)), some (iv (z : Nat))] [] w1 Q := by
  have h0 := hM.ok.s
  have h1 := hM.ok.u
  have h4 := hM.ok.t
  have hut := UT_le hM.ok
  have h12 : (m 1).toNat * (m 4).toNat ≤ (m 1).toNat * 12 := Nat.mul_le_mul_left _ (by omega)
  intro k
  induction k with
  | zero =>
    intro z hz w1 hF hI
    have hc := cnt_le (sCoP m) (4096 * x + 64 * s + z)
    have e : cnt (sCoP m) (4096 * x + 64 * s + z) = cnt (sCoP m) (4096 * x + 64 * (s + 1)) := cnt_gap (by omega) (fun i h2 h3 => by
      rw [show i = 4096 * x + 64 * s + (i - (4096 * x + 64 * s)) from by omega, sCoP_3 (by omega) (by omega), rTr_no (j := x + 1) (Or.inr (by omega)), Bool.false_and, Bool.and_false])
    refine v255_44 hF.1 hx1 (bdk (by omega)) (bdk (by omega)) (bdk (by omega)) (bdk (by omega)) ?_
    rw [(hF.mr hM).g rfl]
    refine ⟨fun _ => ?_, fun q => by omega⟩
    rw [e] at hI ⊢
    have := hX w1 hF hI
    rw [show m 0 = (z : Nat) from by omega] at this
    exact this
  | succ k ih =>
    intro z hz w1 hF hI
    have hc := cnt_le (sCoP m) (4096 * x + 64 * s + z)
    have hM1 := hF.mr hM
    have hp := sCoP_3 (m := m) (x := x) (s := s) (z := z) (by omega) (by omega)
    have e1 : (x : Int) + 1 = ((x + 1 : Nat) : Int) := rfl
    refine v255_44 hF.1 hx1 (bdk (by omega)) (bdk (by omega)) (bdk (by omega)) (bdk (by omega)) ?_
    rw [hM1.g rfl, hM1.g rfl, hM1.g rfl, e1, mOn_tr hM1 hx (by omega)]
    have hno : sCoP m (4096 * x + 64 * s + z) = false → pX 255 44 [some (.ref 169), some (iv x1), some (iv (cnt (sCoP m) (4096 * x + 64 * s + z) : Nat)), some (iv (x : Nat)), some (iv (s : Nat)), some (iv ((z : Int) + 1))] [] w1 Q := fun q => by
      have := ih (z + 1) (by omega) w1 hF
      rw [show 4096 * x + 64 * s + (z + 1) = 4096 * x + 64 * s + z + 1 from rfl, cnt_f q] at this
      exact this hI
    refine ⟨fun q => by omega, fun _ => ⟨bdk (by omega), by omega, ⟨by omega, by omega⟩, ⟨by omega, by omega⟩, fun q => hno ?_, fun q => ⟨⟨by omega, by omega⟩, ⟨by omega, hs⟩, ⟨by omega, by omega⟩, fun q2 w4 e4 w5 e5 w6 e6 => ?_, fun q2 => hno ?_⟩⟩⟩
    · rw [hp, Bool.eq_false_iff.mpr q, Bool.false_and, Bool.and_false]
    · have ht : sCoP m (4096 * x + 64 * s + z) = true := by rw [hp, hon, q, q2]; rfl
      obtain ⟨F4, g4, k4⟩ := MF.set hF.1 e4 (slt_o tbC_169 rfl) (bdk (by omega)) (by omega)
      obtain ⟨F5, g5, k5⟩ := MF.set F4.1 e5 (slt_o tbC_169 rfl) (bdk (by omega)) (by omega)
      obtain ⟨F6, g6, k6⟩ := MF.set F5.1 e6 (slt_o tbC_169 rfl) (bdk (by omega)) (by omega)
      have FF := hF.tr (F4.tr (F5.tr F6))
      refine ⟨fun q3 => ?_, fun q3 => ?_⟩
      · have := ih (z + 1) (by omega) w6 FF
        rw [show 4096 * x + 64 * s + (z + 1) = 4096 * x + 64 * s + z + 1 from rfl, cnt_t ht] at this
        exact this (by omega)
      · obtain ⟨-, h5, -, -⟩ := stI e5 F4.1 (by omega) (slt_o tbC_169 rfl) (bdk (show s ≤ 2000000 by omega))
        obtain ⟨-, h6, -, -⟩ := stI e6 F5.1 (by omega) (slt_o tbC_169 rfl) (bdk (show z ≤ 2000000 by omega))
        rw [q3]
        refine hY _ (by omega) ht q3 w6 FF ?_ ?_ ?_
        · rw [h6, if_neg (by omega), h5, if_neg (by omega), g4, show (4096 * x + 64 * s + z) / 4096 = x from by omega]
        · rw [h6, if_neg (by omega), g5, show (4096 * x + 64 * s + z) % 4096 / 64 = s from by omega]
        · rw [g6, show (4096 * x + 64 * s + z) % 64 = z from by omega]
    · rw [hp, Bool.eq_false_iff.mpr q2, Bool.and_false, Bool.and_false]
theorem l255_17 {x : Nat} (hx1 : bd x1) (hM : MR w m) (hx : x + 1 < (m 1).toNat * (m 4).toNat) (hY : ∀ c, c < 147456 → sCoP m c = true → (cnt (sCoP m) c : Int) = x1 → ∀ w2, MF w w2 → gI w2 169 21 = (c / 4096 : Nat) → gI w2 169 22 = (c % 4096 / 64 : Nat) → gI w2 169 23 = (c % 64 : Nat) → Q (.inl (some (iv (x1 + 1)))) w2) (hX : ∀ w2, MF w w2 → x1 < 0 ∨ (cnt (sCoP m) (4096 * (x + 1)) : Int) ≤ x1 → ∀ o5 : Option Value, pc2 o5 = false → pX 255 4 [some (.ref 169), some (iv x1), some (iv (cnt (sCoP m) (4096 * (x + 1)) : Nat)), some (iv ((x : Int) + 1)), some (iv (m 0)), o5] [] w2 Q) : ∀ k s : Nat, s + k = (m 0).toNat → ∀ w1, MF w w1 → x1 < 0 ∨ (cnt (sCoP m) (4096 * x + 64 * s) : Int) ≤ x1 → ∀ o5 : Option Value, pc2 o5 = false → pX 255 17 [some (.ref 169), some (iv x1), some (iv (cnt (sCoP m) (4096 * x + 64 * s) : Nat)), some (iv (x : Nat)), some (iv (s : Nat)), o5] [] w1 Q := by
  have h0 := hM.ok.s
  have h1 := hM.ok.u
  have h4 := hM.ok.t
  have hut := UT_le hM.ok
  have h12 : (m 1).toNat * (m 4).toNat ≤ (m 1).toNat * 12 := Nat.mul_le_mul_left _ (by omega)
  intro k
  induction k with
  | zero =>
    intro s hz w1 hF hI o5 ho
    have hc := cnt_le (sCoP m) (4096 * x + 64 * s)
    have e : cnt (sCoP m) (4096 * x + 64 * s) = cnt (sCoP m) (4096 * (x + 1)) := cnt_gap (by omega) (fun i h2 h3 => by
      have e2 : i = 4096 * x + 64 * ((i - 4096 * x) / 64) + (i - 4096 * x) % 64 := by omega
      rw [e2, sCoP_3 (by omega) (by omega), rTr_no (j := x) (Or.inr (by omega)), Bool.false_and])
    refine v255_17 hF.1 hx1 (bdk (by omega)) (bdk (by omega)) (bdk (by omega)) ho ?_
    rw [(hF.mr hM).g (k := 0) rfl]
    refine ⟨fun _ => ?_, fun q => by omega⟩
    rw [e] at hI ⊢
    have := hX w1 hF hI o5 ho
    rw [show m 0 = (s : Nat) from by omega] at this
    exact this
  | succ k ih =>
    intro s hz w1 hF hI o5 ho
    have hc := cnt_le (sCoP m) (4096 * x + 64 * s)
    have hM1 := hF.mr hM
    refine v255_17 hF.1 hx1 (bdk (by omega)) (bdk (by omega)) (bdk (by omega)) ho ?_
    rw [hM1.g (k := 0) rfl, hM1.g (k := 1) rfl, mOn_tr hM1 (by omega) (by omega)]
    refine ⟨fun q => by omega, fun _ => ⟨h1, ⟨by omega, by omega⟩, ⟨by omega, by omega⟩, fun q => ?_, fun q => ?_⟩⟩
    · have := l255_44 (w := w) (Q := Q) (x := x) (s := s) hx1 hM hx (by omega) q hY (fun w2 F2 I2 => by
        have := ih (s + 1) (by omega) w2 F2 I2 (some (iv (m 0))) rfl
        exact this) (m 0).toNat 0 (Nat.zero_add _) w1 hF hI
      exact this
    · have e : cnt (sCoP m) (4096 * x + 64 * s) = cnt (sCoP m) (4096 * x + 64 * (s + 1)) := cnt_gap (by omega) (fun i h2 h3 => by
        rw [show i = 4096 * x + 64 * s + (i - (4096 * x + 64 * s)) from by omega, sCoP_3 (by omega) (by omega), Bool.eq_false_iff.mpr q, Bool.false_and])
      rw [e] at hI ⊢
      exact ih (s + 1) (by omega) w1 hF hI o5 ho
theorem l255_4 (hx1 : bd x1) (hM : MR w m) (hY : ∀ c, c < 147456 → sCoP m c = true → (cnt (sCoP m) c : Int) = x1 → ∀ w2, MF w w2 → gI w2 169 21 = (c / 4096 : Nat) → gI w2 169 22 = (c % 4096 / 64 : Nat) → gI w2 169 23 = (c % 64 : Nat) → Q (.inl (some (iv (x1 + 1)))) w2) (hN : (x1 < 0 ∨ (sCo m : Int) ≤ x1) → ∀ w2, MF w w2 → Q (.inl (some (iv (sCo m : Nat)))) w2) : ∀ k x : Nat, x + k = 36 → ∀ w1, MF w w1 → x1 < 0 ∨ (cnt (sCoP m) (4096 * x) : Int) ≤ x1 → ∀ o4 o5 : Option Value, pc2 o4 = false → pc2 o5 = false → pX 255 4 [some (.ref 169), some (iv x1), some (iv (cnt (sCoP m) (4096 * x) : Nat)), some (iv (x : Nat)), o4, o5] [] w1 Q := by
  have h0 := hM.ok.s
  have h1 := hM.ok.u
  have h4 := hM.ok.t
  have hut := UT_le hM.ok
  intro k
  induction k with
  | zero =>
    intro x hz w1 hF hI o4 o5 ho4 ho5
    have hc := cnt_le (sCoP m) (4096 * x)
    have hM1 := hF.mr hM
    refine v255_4 hF.1 hx1 (bdk (by omega)) (bdk (by omega)) ho4 ho5 ?_
    rw [hM1.g (k := 1) rfl, hM1.g (k := 4) rfl]
    refine ⟨⟨by omega, by omega⟩, ⟨by omega, by omega⟩, fun q => ?_, fun q => by omega⟩
    rw [sCo_tot hM.ok (j := x) (by omega) (by omega)] at hI ⊢
    exact hN hI w1 hF
  | succ k ih =>
    intro x hz w1 hF hI o4 o5 ho4 ho5
    have hc := cnt_le (sCoP m) (4096 * x)
    have hM1 := hF.mr hM
    refine v255_4 hF.1 hx1 (bdk (by omega)) (bdk (by omega)) ho4 ho5 ?_
    rw [hM1.g (k := 1) rfl, hM1.g (k := 4) rfl]
    refine ⟨⟨by omega, by omega⟩, ⟨by omega, by omega⟩, fun q => ?_, fun q => ?_⟩
    · rw [sCo_tot hM.ok (j := x) (by omega) (by omega)] at hI ⊢
      exact hN hI w1 hF
    · have := l255_17 (w := w) (Q := Q) (x := x) hx1 hM (by omega) hY (fun w2 F2 I2 p5 hp5 => by
        have := ih (x + 1) (by omega) w2 F2 I2 (some (iv (m 0))) p5 rfl hp5
        exact this) (m 0).toNat 0 (Nat.zero_add _) w1 hF hI o5 ho5
      exact this
theorem c255 (hs : Sh w) (hM : MR w m) (hx1 : bd x1) (hY : ∀ c, c < 147456 → sCoP m c = true → (cnt (sCoP m) c : Int) = x1 → ∀ w2, MF w w2 → gI w2 169 21 = (c / 4096 : Nat) → gI w2 169 22 = (c % 4096 / 64 : Nat) → gI w2 169 23 = (c % 64 : Nat) → Q (.inl (some (iv (x1 + 1)))) w2) (hN : (x1 < 0 ∨ (sCo m : Int) ≤ x1) → ∀ w2, MF w w2 → Q (.inl (some (iv (sCo m : Nat)))) w2) : pC 255 [.ref 169, iv x1] w Q := by
  refine e255 hs hx1 ?_
  have := l255_4 (w := w) (Q := Q) hx1 hM hY hN 36 0 rfl w (MF.rf hs) (by show x1 < 0 ∨ (0 : Int) ≤ x1; omega) none none rfl rfl
  exact this
theorem c256 (hs : Sh w) (hM : MR w m) (h : ∀ w2, MF w w2 → Q (.inl (some (iv (sCo m : Nat)))) w2) : pC 256 [.ref 169] w Q := by
  have hb := sCo_bd m
  refine e256 hs (c255 hs hM ⟨by decide, by decide⟩ (fun c hc hp hx => ?_) (fun _ w2 F2 => kI_iv (bdk (by omega)) ⟨F2.1, h w2 F2⟩))
  have := cnt_le (sCoP m) c
  omega
end MCO
