/-! THE MODEL's SEARCH: what fits; the search -/
/-! 297: PinBarrelModel.fits(III)Z -/
theorem b297 : mB 297 = cX9_fits := rfl
theorem r297 : mR 297 = (some .boolean) := rfl
theorem p297 (a b : Nat) : phi 297 a ≤ phi 297 b := Nat.le_refl 0
theorem d297_0 : decode cX9_fits 0 = .ok (.aload_n 0, 1) := by decide +kernel
theorem d297_1 : decode cX9_fits 1 = .ok (.aload_n 0, 1) := by decide +kernel
theorem d297_2 : decode cX9_fits 2 = .ok (.getfield 34, 3) := by decide +kernel
theorem d297_5 : decode cX9_fits 5 = .ok (.iload_n 2, 1) := by decide +kernel
theorem d297_6 : decode cX9_fits 6 = .ok (.iaload, 1) := by decide +kernel
theorem d297_7 : decode cX9_fits 7 = .ok (.iconst 1, 1) := by decide +kernel
theorem d297_8 : decode cX9_fits 8 = .ok (.invokevirtual 283, 3) := by decide +kernel
theorem d297_11 : decode cX9_fits 11 = .ok (.istore 4, 2) := by decide +kernel
theorem d297_13 : decode cX9_fits 13 = .ok (.aload_n 0, 1) := by decide +kernel
theorem d297_14 : decode cX9_fits 14 = .ok (.iload_n 3, 1) := by decide +kernel
theorem d297_15 : decode cX9_fits 15 = .ok (.invokevirtual 238, 3) := by decide +kernel
theorem d297_18 : decode cX9_fits 18 = .ok (.aload_n 0, 1) := by decide +kernel
theorem d297_19 : decode cX9_fits 19 = .ok (.getfield 9, 3) := by decide +kernel
theorem d297_22 : decode cX9_fits 22 = .ok (.iconst 0, 1) := by decide +kernel
theorem d297_23 : decode cX9_fits 23 = .ok (.iaload, 1) := by decide +kernel
theorem d297_24 : decode cX9_fits 24 = .ok (.if_icmp .le 5, 3) := by decide +kernel
theorem d297_27 : decode cX9_fits 27 = .ok (.iconst 0, 1) := by decide +kernel
theorem d297_28 : decode cX9_fits 28 = .ok (.ireturn, 1) := by decide +kernel
theorem d297_29 : decode cX9_fits 29 = .ok (.aload_n 0, 1) := by decide +kernel
theorem d297_30 : decode cX9_fits 30 = .ok (.getfield 9, 3) := by decide +kernel
theorem d297_33 : decode cX9_fits 33 = .ok (.iconst 1, 1) := by decide +kernel
theorem d297_34 : decode cX9_fits 34 = .ok (.iaload, 1) := by decide +kernel
theorem d297_35 : decode cX9_fits 35 = .ok (.iload_n 3, 1) := by decide +kernel
theorem d297_36 : decode cX9_fits 36 = .ok (.imul, 1) := by decide +kernel
theorem d297_37 : decode cX9_fits 37 = .ok (.iload_n 1, 1) := by decide +kernel
theorem d297_38 : decode cX9_fits 38 = .ok (.iadd, 1) := by decide +kernel
theorem d297_39 : decode cX9_fits 39 = .ok (.istore 5, 2) := by decide +kernel
theorem d297_41 : decode cX9_fits 41 = .ok (.iconst 0, 1) := by decide +kernel
theorem d297_42 : decode cX9_fits 42 = .ok (.istore 6, 2) := by decide +kernel
theorem d297_44 : decode cX9_fits 44 = .ok (.iload 6, 2) := by decide +kernel
theorem d297_46 : decode cX9_fits 46 = .ok (.iload_n 2, 1) := by decide +kernel
theorem d297_47 : decode cX9_fits 47 = .ok (.if_icmp .ge 104, 3) := by decide +kernel
theorem d297_50 : decode cX9_fits 50 = .ok (.aload_n 0, 1) := by decide +kernel
theorem d297_51 : decode cX9_fits 51 = .ok (.aload_n 0, 1) := by decide +kernel
theorem d297_52 : decode cX9_fits 52 = .ok (.getfield 34, 3) := by decide +kernel
theorem d297_55 : decode cX9_fits 55 = .ok (.iload 6, 2) := by decide +kernel
theorem d297_57 : decode cX9_fits 57 = .ok (.iaload, 1) := by decide +kernel
theorem d297_58 : decode cX9_fits 58 = .ok (.iconst 1, 1) := by decide +kernel
theorem d297_59 : decode cX9_fits 59 = .ok (.invokevirtual 283, 3) := by decide +kernel
theorem d297_62 : decode cX9_fits 62 = .ok (.istore 7, 2) := by decide +kernel
theorem d297_64 : decode cX9_fits 64 = .ok (.aload_n 0, 1) := by decide +kernel
theorem d297_65 : decode cX9_fits 65 = .ok (.getfield 37, 3) := by decide +kernel
theorem d297_68 : decode cX9_fits 68 = .ok (.iload 6, 2) := by decide +kernel
theorem d297_70 : decode cX9_fits 70 = .ok (.iaload, 1) := by decide +kernel
theorem d297_71 : decode cX9_fits 71 = .ok (.iload_n 3, 1) := by decide +kernel
theorem d297_72 : decode cX9_fits 72 = .ok (.if_icmp .ne 21, 3) := by decide +kernel
theorem d297_75 : decode cX9_fits 75 = .ok (.aload_n 0, 1) := by decide +kernel
theorem d297_76 : decode cX9_fits 76 = .ok (.iload 4, 2) := by decide +kernel
theorem d297_78 : decode cX9_fits 78 = .ok (.iload 7, 2) := by decide +kernel
theorem d297_80 : decode cX9_fits 80 = .ok (.aload_n 0, 1) := by decide +kernel
theorem d297_81 : decode cX9_fits 81 = .ok (.iload_n 3, 1) := by decide +kernel
theorem d297_82 : decode cX9_fits 82 = .ok (.invokevirtual 238, 3) := by decide +kernel
theorem d297_85 : decode cX9_fits 85 = .ok (.invokevirtual 265, 3) := by decide +kernel
theorem d297_88 : decode cX9_fits 88 = .ok (.ifCond .eq 5, 3) := by decide +kernel
theorem d297_91 : decode cX9_fits 91 = .ok (.iconst 0, 1) := by decide +kernel
theorem d297_92 : decode cX9_fits 92 = .ok (.ireturn, 1) := by decide +kernel
theorem d297_93 : decode cX9_fits 93 = .ok (.aload_n 0, 1) := by decide +kernel
theorem d297_94 : decode cX9_fits 94 = .ok (.getfield 9, 3) := by decide +kernel
theorem d297_97 : decode cX9_fits 97 = .ok (.iconst 1, 1) := by decide +kernel
theorem d297_98 : decode cX9_fits 98 = .ok (.iaload, 1) := by decide +kernel
theorem d297_99 : decode cX9_fits 99 = .ok (.aload_n 0, 1) := by decide +kernel
theorem d297_100 : decode cX9_fits 100 = .ok (.getfield 37, 3) := by decide +kernel
theorem d297_103 : decode cX9_fits 103 = .ok (.iload 6, 2) := by decide +kernel
theorem d297_105 : decode cX9_fits 105 = .ok (.iaload, 1) := by decide +kernel
theorem d297_106 : decode cX9_fits 106 = .ok (.imul, 1) := by decide +kernel
theorem d297_107 : decode cX9_fits 107 = .ok (.iload_n 1, 1) := by decide +kernel
theorem d297_108 : decode cX9_fits 108 = .ok (.iadd, 1) := by decide +kernel
theorem d297_109 : decode cX9_fits 109 = .ok (.iload 5, 2) := by decide +kernel
theorem d297_111 : decode cX9_fits 111 = .ok (.isub, 1) := by decide +kernel
theorem d297_112 : decode cX9_fits 112 = .ok (.istore 8, 2) := by decide +kernel
theorem d297_114 : decode cX9_fits 114 = .ok (.iload 8, 2) := by decide +kernel
theorem d297_116 : decode cX9_fits 116 = .ok (.iconst 1, 1) := by decide +kernel
theorem d297_117 : decode cX9_fits 117 = .ok (.if_icmp .eq 9, 3) := by decide +kernel
theorem d297_120 : decode cX9_fits 120 = .ok (.iload 8, 2) := by decide +kernel
theorem d297_122 : decode cX9_fits 122 = .ok (.iconst (-1), 1) := by decide +kernel
theorem d297_123 : decode cX9_fits 123 = .ok (.if_icmp .ne 22, 3) := by decide +kernel
theorem d297_126 : decode cX9_fits 126 = .ok (.aload_n 0, 1) := by decide +kernel
theorem d297_127 : decode cX9_fits 127 = .ok (.iload 4, 2) := by decide +kernel
theorem d297_129 : decode cX9_fits 129 = .ok (.iload 7, 2) := by decide +kernel
theorem d297_131 : decode cX9_fits 131 = .ok (.aload_n 0, 1) := by decide +kernel
theorem d297_132 : decode cX9_fits 132 = .ok (.getfield 9, 3) := by decide +kernel
theorem d297_135 : decode cX9_fits 135 = .ok (.iconst 2, 1) := by decide +kernel
theorem d297_136 : decode cX9_fits 136 = .ok (.iaload, 1) := by decide +kernel
theorem d297_137 : decode cX9_fits 137 = .ok (.invokevirtual 265, 3) := by decide +kernel
theorem d297_140 : decode cX9_fits 140 = .ok (.ifCond .eq 5, 3) := by decide +kernel
theorem d297_143 : decode cX9_fits 143 = .ok (.iconst 0, 1) := by decide +kernel
theorem d297_144 : decode cX9_fits 144 = .ok (.ireturn, 1) := by decide +kernel
theorem d297_145 : decode cX9_fits 145 = .ok (.iinc 6 1, 3) := by decide +kernel
theorem d297_148 : decode cX9_fits 148 = .ok (.goto (-104), 3) := by decide +kernel
theorem d297_151 : decode cX9_fits 151 = .ok (.aload_n 0, 1) := by decide +kernel
theorem d297_152 : decode cX9_fits 152 = .ok (.iload_n 1, 1) := by decide +kernel
theorem d297_153 : decode cX9_fits 153 = .ok (.iload 5, 2) := by decide +kernel
theorem d297_155 : decode cX9_fits 155 = .ok (.iload 4, 2) := by decide +kernel
theorem d297_157 : decode cX9_fits 157 = .ok (.invokevirtual 304, 3) := by decide +kernel
theorem d297_160 : decode cX9_fits 160 = .ok (.ifCond .ne 7, 3) := by decide +kernel
theorem d297_163 : decode cX9_fits 163 = .ok (.iconst 1, 1) := by decide +kernel
theorem d297_164 : decode cX9_fits 164 = .ok (.goto 4, 3) := by decide +kernel
theorem d297_167 : decode cX9_fits 167 = .ok (.iconst 0, 1) := by decide +kernel
theorem d297_168 : decode cX9_fits 168 = .ok (.ireturn, 1) := by decide +kernel
theorem v297_0 {w : PW} {Q : PO → PW → Prop} {x1 : Int} {x2 : Int} {x3 : Int} (hs : Sh w) (hx1 : bd x1) (hx2 : bd x2) (hx3 : bd x3) (h : (0 ≤ x2 ∧ x2 < 60) ∧ (0 ≤ (71 + 3 * (gI w 176 x2.toNat)) + 1 ∧ (71 + 3 * (gI w 176 x2.toNat)) + 1 < 843) ∧ (0 ≤ (11 + 5 * x3) + 1 ∧ (11 + 5 * x3) + 1 < 843) ∧ (bd ((gI w 170 ((11 + 5 * x3) + 1).toNat) * (gI w 170 3))) ∧ (((gI w 170 ((11 + 5 * x3) + 1).toNat) * (gI w 170 3)) ≤ (gI w 170 0) → pX 297 44 [some (.ref 169), some (iv x1), some (iv x2), some (iv x3), some (iv (gI w 170 ((71 + 3 * (gI w 176 x2.toNat)) + 1).toNat)), some (iv (((gI w 170 1) * x3) + x1)), some (iv 0), none, none] [] w Q) ∧ ((gI w 170 0) < ((gI w 170 ((11 + 5 * x3) + 1).toNat) * (gI w 170 3)) → Q (.inl (some (iv 0))) w)) : pX 297 0 [some (.ref 169), some (iv x1), some (iv x2), some (iv x3), none, none, none, none, none] [] w Q :=
  w_f b297 d297_0 rfl rfl rfl <| w_f b297 d297_1 rfl rfl rfl <| w_gr b297 d297_2 rfl rfl hs (tlt 169 rfl) tbC_169 rfl (by decide) <| w_f b297 d297_5 rfl rfl rfl <| w_ial b297 d297_6 rfl hs (tlt 176 rfl) tbC_176 (bdix (n := 60) h.1 rfl) h.1 <| w_f b297 d297_7 rfl rfl rfl <| w_cc b297 d297_8 rfl (pcl_v (n := 2) rfl rfl rfl (by decide +kernel) (sh_isOb hs (tlt 169 rfl) tbC_169) rfl rfl) rfl <| c267 hs (bd_gI _ _ _) ⟨by decide, by decide⟩ h.2.1 <| w_f b297 d297_11 rfl rfl rfl <| w_f b297 d297_13 rfl rfl rfl <| w_f b297 d297_14 rfl rfl rfl <| w_cc b297 d297_15 rfl (pcl_v (n := 1) rfl rfl rfl (by decide +kernel) (sh_isOb hs (tlt 169 rfl) tbC_169) rfl rfl) rfl <| c262 hs hx3 h.2.2.1 <| w_f b297 d297_18 rfl rfl rfl <| w_gr b297 d297_19 rfl rfl hs (tlt 169 rfl) tbC_169 rfl (by decide) <| w_f b297 d297_22 rfl rfl rfl <| w_ial b297 d297_23 rfl hs (tlt 170 rfl) tbC_170 (bdix (n := 843) ⟨by decide, by decide⟩ rfl) ⟨by decide, by decide⟩ <| w_icle b297 d297_24 rfl rfl (p297 _ _) h.2.2.2.1 (bd_gI _ _ _) (fun c1 => w_f b297 d297_29 rfl rfl rfl <| w_gr b297 d297_30 rfl rfl hs (tlt 169 rfl) tbC_169 rfl (by decide) <| w_f b297 d297_33 rfl rfl rfl <| w_ial b297 d297_34 rfl hs (tlt 170 rfl) tbC_170 (bdix (n := 843) ⟨by decide, by decide⟩ rfl) ⟨by decide, by decide⟩ <| w_f b297 d297_35 rfl rfl rfl <| w_f b297 d297_36 rfl (pf_imul (gI w 170 1) x3) rfl <| w_f b297 d297_37 rfl rfl rfl <| w_f b297 d297_38 rfl (pf_iadd ((gI w 170 1) * x3) x1) rfl <| w_f b297 d297_39 rfl rfl rfl <| w_f b297 d297_41 rfl rfl rfl <| w_f b297 d297_42 rfl rfl rfl <| (h.2.2.2.2.1 c1)) (fun c1 => w_f b297 d297_27 rfl rfl rfl <| w_rz b297 d297_28 r297 (by decide) (h.2.2.2.2.2 c1))
theorem e297 {w : PW} {Q : PO → PW → Prop} {x1 : Int} {x2 : Int} {x3 : Int} (hs : Sh w) (hx1 : bd x1) (hx2 : bd x2) (hx3 : bd x3) (h : (0 ≤ x2 ∧ x2 < 60) ∧ (0 ≤ (71 + 3 * (gI w 176 x2.toNat)) + 1 ∧ (71 + 3 * (gI w 176 x2.toNat)) + 1 < 843) ∧ (0 ≤ (11 + 5 * x3) + 1 ∧ (11 + 5 * x3) + 1 < 843) ∧ (bd ((gI w 170 ((11 + 5 * x3) + 1).toNat) * (gI w 170 3))) ∧ (((gI w 170 ((11 + 5 * x3) + 1).toNat) * (gI w 170 3)) ≤ (gI w 170 0) → pX 297 44 [some (.ref 169), some (iv x1), some (iv x2), some (iv x3), some (iv (gI w 170 ((71 + 3 * (gI w 176 x2.toNat)) + 1).toNat)), some (iv (((gI w 170 1) * x3) + x1)), some (iv 0), none, none] [] w Q) ∧ ((gI w 170 0) < ((gI w 170 ((11 + 5 * x3) + 1).toNat) * (gI w 170 3)) → Q (.inl (some (iv 0))) w)) : pC 297 [.ref 169, iv x1, iv x2, iv x3] w Q :=
  (pC_in (Nat.le_of_ble_eq_true rfl) rfl Q).mpr (v297_0 hs hx1 hx2 hx3 h)
theorem v297_44 {w : PW} {Q : PO → PW → Prop} {x1 : Int} {x2 : Int} {x3 : Int} {x4 : Int} {x5 : Int} {x6 : Int} {o7 : Option Value} {o8 : Option Value} (hs : Sh w) (hx1 : bd x1) (hx2 : bd x2) (hx3 : bd x3) (hx4 : bd x4) (hx5 : bd x5) (hx6 : bd x6) (ho7 : pc2 o7 = false) (ho8 : pc2 o8 = false) (h : (x2 ≤ x6 → pC 296 [.ref 169, iv x1, iv x5, iv x4] w (kI fun u3 w2 => Sh w2 ∧ (u3 ≠ 0 → Q (.inl (some (iv 0))) w2) ∧ (u3 = 0 → Q (.inl (some (iv 1))) w2))) ∧ (x6 < x2 → (0 ≤ x6 ∧ x6 < 60) ∧ (0 ≤ (71 + 3 * (gI w 176 x6.toNat)) + 1 ∧ (71 + 3 * (gI w 176 x6.toNat)) + 1 < 843) ∧ (0 ≤ x6 ∧ x6 < 61) ∧ ((gI w 177 x6.toNat) ≠ x3 → (0 ≤ x6 ∧ x6 < 61) ∧ (bd ((((gI w 170 1) * (gI w 177 x6.toNat)) + x1) - x5)) ∧ (((((gI w 170 1) * (gI w 177 x6.toNat)) + x1) - x5) = 1 → (0 < gI w 170 0 ∧ gI w 170 0 ≤ 64) ∧ (0 ≤ x4 ∧ x4 < gI w 170 0) ∧ (0 ≤ (gI w 170 ((71 + 3 * (gI w 176 x6.toNat)) + 1).toNat) ∧ (gI w 170 ((71 + 3 * (gI w 176 x6.toNat)) + 1).toNat) < gI w 170 0) ∧ ((¬ (nearI (gI w 170 0) x4 (gI w 170 ((71 + 3 * (gI w 176 x6.toNat)) + 1).toNat) (gI w 170 2) = true)) → pX 297 44 [some (.ref 169), some (iv x1), some (iv x2), some (iv x3), some (iv x4), some (iv x5), some (iv (x6 + 1)), some (iv (gI w 170 ((71 + 3 * (gI w 176 x6.toNat)) + 1).toNat)), some (iv ((((gI w 170 1) * (gI w 177 x6.toNat)) + x1) - x5))] [] w Q) ∧ ((nearI (gI w 170 0) x4 (gI w 170 ((71 + 3 * (gI w 176 x6.toNat)) + 1).toNat) (gI w 170 2) = true) → Q (.inl (some (iv 0))) w)) ∧ (((((gI w 170 1) * (gI w 177 x6.toNat)) + x1) - x5) ≠ 1 → (bd ((((gI w 170 1) * (gI w 177 x6.toNat)) + x1) - x5)) ∧ (((((gI w 170 1) * (gI w 177 x6.toNat)) + x1) - x5) ≠ ((-1)) → pX 297 44 [some (.ref 169), some (iv x1), some (iv x2), some (iv x3), some (iv x4), some (iv x5), some (iv (x6 + 1)), some (iv (gI w 170 ((71 + 3 * (gI w 176 x6.toNat)) + 1).toNat)), some (iv ((((gI w 170 1) * (gI w 177 x6.toNat)) + x1) - x5))] [] w Q) ∧ (((((gI w 170 1) * (gI w 177 x6.toNat)) + x1) - x5) = ((-1)) → (0 < gI w 170 0 ∧ gI w 170 0 ≤ 64) ∧ (0 ≤ x4 ∧ x4 < gI w 170 0) ∧ (0 ≤ (gI w 170 ((71 + 3 * (gI w 176 x6.toNat)) + 1).toNat) ∧ (gI w 170 ((71 + 3 * (gI w 176 x6.toNat)) + 1).toNat) < gI w 170 0) ∧ ((¬ (nearI (gI w 170 0) x4 (gI w 170 ((71 + 3 * (gI w 176 x6.toNat)) + 1).toNat) (gI w 170 2) = true)) → pX 297 44 [some (.ref 169), some (iv x1), some (iv x2), some (iv x3), some (iv x4), some (iv x5), some (iv (x6 + 1)), some (iv (gI w 170 ((71 + 3 * (gI w 176 x6.toNat)) + 1).toNat)), some (iv ((((gI w 170 1) * (gI w 177 x6.toNat)) + x1) - x5))] [] w Q) ∧ ((nearI (gI w 170 0) x4 (gI w 170 ((71 + 3 * (gI w 176 x6.toNat)) + 1).toNat) (gI w 170 2) = true) → Q (.inl (some (iv 0))) w)))) ∧ ((gI w 177 x6.toNat) = x3 → (0 ≤ (11 + 5 * x3) + 1 ∧ (11 + 5 * x3) + 1 < 843) ∧ (bd ((gI w 170 ((11 + 5 * x3) + 1).toNat) * (gI w 170 3))) ∧ (0 < gI w 170 0 ∧ gI w 170 0 ≤ 64) ∧ (0 ≤ x4 ∧ x4 < gI w 170 0) ∧ (0 ≤ (gI w 170 ((71 + 3 * (gI w 176 x6.toNat)) + 1).toNat) ∧ (gI w 170 ((71 + 3 * (gI w 176 x6.toNat)) + 1).toNat) < gI w 170 0) ∧ ((¬ (nearI (gI w 170 0) x4 (gI w 170 ((71 + 3 * (gI w 176 x6.toNat)) + 1).toNat) ((gI w 170 ((11 + 5 * x3) + 1).toNat) * (gI w 170 3)) = true)) → (0 ≤ x6 ∧ x6 < 61) ∧ (bd ((((gI w 170 1) * (gI w 177 x6.toNat)) + x1) - x5)) ∧ (((((gI w 170 1) * (gI w 177 x6.toNat)) + x1) - x5) = 1 → (0 < gI w 170 0 ∧ gI w 170 0 ≤ 64) ∧ (0 ≤ x4 ∧ x4 < gI w 170 0) ∧ (0 ≤ (gI w 170 ((71 + 3 * (gI w 176 x6.toNat)) + 1).toNat) ∧ (gI w 170 ((71 + 3 * (gI w 176 x6.toNat)) + 1).toNat) < gI w 170 0) ∧ ((¬ (nearI (gI w 170 0) x4 (gI w 170 ((71 + 3 * (gI w 176 x6.toNat)) + 1).toNat) (gI w 170 2) = true)) → pX 297 44 [some (.ref 169), some (iv x1), some (iv x2), some (iv x3), some (iv x4), some (iv x5), some (iv (x6 + 1)), some (iv (gI w 170 ((71 + 3 * (gI w 176 x6.toNat)) + 1).toNat)), some (iv ((((gI w 170 1) * (gI w 177 x6.toNat)) + x1) - x5))] [] w Q) ∧ ((nearI (gI w 170 0) x4 (gI w 170 ((71 + 3 * (gI w 176 x6.toNat)) + 1).toNat) (gI w 170 2) = true) → Q (.inl (some (iv 0))) w)) ∧ (((((gI w 170 1) * (gI w 177 x6.toNat)) + x1) - x5) ≠ 1 → (bd ((((gI w 170 1) * (gI w 177 x6.toNat)) + x1) - x5)) ∧ (((((gI w 170 1) * (gI w 177 x6.toNat)) + x1) - x5) ≠ ((-1)) → pX 297 44 [some (.ref 169), some (iv x1), some (iv x2), some (iv x3), some (iv x4), some (iv x5), some (iv (x6 + 1)), some (iv (gI w 170 ((71 + 3 * (gI w 176 x6.toNat)) + 1).toNat)), some (iv ((((gI w 170 1) * (gI w 177 x6.toNat)) + x1) - x5))] [] w Q) ∧ (((((gI w 170 1) * (gI w 177 x6.toNat)) + x1) - x5) = ((-1)) → (0 < gI w 170 0 ∧ gI w 170 0 ≤ 64) ∧ (0 ≤ x4 ∧ x4 < gI w 170 0) ∧ (0 ≤ (gI w 170 ((71 + 3 * (gI w 176 x6.toNat)) + 1).toNat) ∧ (gI w 170 ((71 + 3 * (gI w 176 x6.toNat)) + 1).toNat) < gI w 170 0) ∧ ((¬ (nearI (gI w 170 0) x4 (gI w 170 ((71 + 3 * (gI w 176 x6.toNat)) + 1).toNat) (gI w 170 2) = true)) → pX 297 44 [some (.ref 169), some (iv x1), some (iv x2), some (iv x3), some (iv x4), some (iv x5), some (iv (x6 + 1)), some (iv (gI w 170 ((71 + 3 * (gI w 176 x6.toNat)) + 1).toNat)), some (iv ((((gI w 170 1) * (gI w 177 x6.toNat)) + x1) - x5))] [] w Q) ∧ ((nearI (gI w 170 0) x4 (gI w 170 ((71 + 3 * (gI w 176 x6.toNat)) + 1).toNat) (gI w 170 2) = true) → Q (.inl (some (iv 0))) w)))) ∧ ((nearI (gI w 170 0) x4 (gI w 170 ((71 + 3 * (gI w 176 x6.toNat)) + 1).toNat) ((gI w 170 ((11 + 5 * x3) + 1).toNat) * (gI w 170 3)) = true) → Q (.inl (some (iv 0))) w)))) : pX 297 44 [some (.ref 169), some (iv x1), some (iv x2), some (iv x3), some (iv x4), some (iv x5), some (iv x6), o7, o8] [] w Q :=
  w_f b297 d297_44 rfl rfl rfl <| w_f b297 d297_46 rfl rfl rfl <| w_icge b297 d297_47 rfl rfl (p297 _ _) hx6 hx2 (fun c1 => w_f b297 d297_151 rfl rfl rfl <| w_f b297 d297_152 rfl rfl rfl <| w_f b297 d297_153 rfl rfl rfl <| w_f b297 d297_155 rfl rfl rfl <| w_c b297 d297_157 rfl (pcl_v (n := 3) rfl rfl rfl (by decide +kernel) (sh_isOb hs (tlt 169 rfl) tbC_169) rfl rfl) rfl _ (hK_I fun u3 w2 hbu3 hkw2 => w_ifne b297 d297_160 rfl rfl (p297 _ _) hbu3 (fun c4 => w_f b297 d297_167 rfl rfl rfl <| w_rz b297 d297_168 r297 (by decide) (hkw2.2.1 c4)) (fun c4 => w_f b297 d297_163 rfl rfl rfl <| w_j b297 d297_164 rfl (p297 _ _) <| w_rz b297 d297_168 r297 (by decide) (hkw2.2.2 c4))) (h.1 c1)) (fun c1 => w_f b297 d297_50 rfl rfl rfl <| w_f b297 d297_51 rfl rfl rfl <| w_gr b297 d297_52 rfl rfl hs (tlt 169 rfl) tbC_169 rfl (by decide) <| w_f b297 d297_55 rfl rfl rfl <| w_ial b297 d297_57 rfl hs (tlt 176 rfl) tbC_176 (bdix (n := 60) (h.2 c1).1 rfl) (h.2 c1).1 <| w_f b297 d297_58 rfl rfl rfl <| w_cc b297 d297_59 rfl (pcl_v (n := 2) rfl rfl rfl (by decide +kernel) (sh_isOb hs (tlt 169 rfl) tbC_169) rfl rfl) rfl <| c267 hs (bd_gI _ _ _) ⟨by decide, by decide⟩ (h.2 c1).2.1 <| w_f b297 d297_62 rfl rfl rfl <| w_f b297 d297_64 rfl rfl rfl <| w_gr b297 d297_65 rfl rfl hs (tlt 169 rfl) tbC_169 rfl (by decide) <| w_f b297 d297_68 rfl rfl rfl <| w_ial b297 d297_70 rfl hs (tlt 177 rfl) tbC_177 (bdix (n := 61) (h.2 c1).2.2.1 rfl) (h.2 c1).2.2.1 <| w_f b297 d297_71 rfl rfl rfl <| w_icne b297 d297_72 rfl rfl (p297 _ _) (bd_gI _ _ _) hx3 (fun c5 => w_f b297 d297_93 rfl rfl rfl <| w_gr b297 d297_94 rfl rfl hs (tlt 169 rfl) tbC_169 rfl (by decide) <| w_f b297 d297_97 rfl rfl rfl <| w_ial b297 d297_98 rfl hs (tlt 170 rfl) tbC_170 (bdix (n := 843) ⟨by decide, by decide⟩ rfl) ⟨by decide, by decide⟩ <| w_f b297 d297_99 rfl rfl rfl <| w_gr b297 d297_100 rfl rfl hs (tlt 169 rfl) tbC_169 rfl (by decide) <| w_f b297 d297_103 rfl rfl rfl <| w_ial b297 d297_105 rfl hs (tlt 177 rfl) tbC_177 (bdix (n := 61) ((h.2 c1).2.2.2.1 c5).1 rfl) ((h.2 c1).2.2.2.1 c5).1 <| w_f b297 d297_106 rfl (pf_imul (gI w 170 1) (gI w 177 x6.toNat)) rfl <| w_f b297 d297_107 rfl rfl rfl <| w_f b297 d297_108 rfl (pf_iadd ((gI w 170 1) * (gI w 177 x6.toNat)) x1) rfl <| w_f b297 d297_109 rfl rfl rfl <| w_f b297 d297_111 rfl (pf_isub (((gI w 170 1) * (gI w 177 x6.toNat)) + x1) x5) rfl <| w_f b297 d297_112 rfl rfl rfl <| w_f b297 d297_114 rfl rfl rfl <| w_f b297 d297_116 rfl rfl rfl <| w_iceq b297 d297_117 rfl rfl (p297 _ _) ((h.2 c1).2.2.2.1 c5).2.1 ⟨by decide, by decide⟩ (fun c6 => w_f b297 d297_126 rfl rfl rfl <| w_f b297 d297_127 rfl rfl rfl <| w_f b297 d297_129 rfl rfl rfl <| w_f b297 d297_131 rfl rfl rfl <| w_gr b297 d297_132 rfl rfl hs (tlt 169 rfl) tbC_169 rfl (by decide) <| w_f b297 d297_135 rfl rfl rfl <| w_ial b297 d297_136 rfl hs (tlt 170 rfl) tbC_170 (bdix (n := 843) ⟨by decide, by decide⟩ rfl) ⟨by decide, by decide⟩ <| w_cc b297 d297_137 rfl (pcl_v (n := 3) rfl rfl rfl (by decide +kernel) (sh_isOb hs (tlt 169 rfl) tbC_169) rfl rfl) rfl <| c254 hs hx4 (bd_gI _ _ _) (bd_gI _ _ _) (((h.2 c1).2.2.2.1 c5).2.2.1 c6).1 (((h.2 c1).2.2.2.1 c5).2.2.1 c6).2.1 (((h.2 c1).2.2.2.1 c5).2.2.1 c6).2.2.1 <| w_ifeqZ b297 d297_140 rfl rfl (p297 _ _) (fun c7 => w_f b297 d297_145 rfl (pf_iinc rfl rfl) rfl <| w_j b297 d297_148 rfl (p297 _ _) <| ((((h.2 c1).2.2.2.1 c5).2.2.1 c6).2.2.2.1 c7)) (fun c7 => w_f b297 d297_143 rfl rfl rfl <| w_rz b297 d297_144 r297 (by decide) ((((h.2 c1).2.2.2.1 c5).2.2.1 c6).2.2.2.2 c7))) (fun c6 => w_f b297 d297_120 rfl rfl rfl <| w_f b297 d297_122 rfl rfl rfl <| w_icne b297 d297_123 rfl rfl (p297 _ _) (((h.2 c1).2.2.2.1 c5).2.2.2 c6).1 ⟨by decide, by decide⟩ (fun c8 => w_f b297 d297_145 rfl (pf_iinc rfl rfl) rfl <| w_j b297 d297_148 rfl (p297 _ _) <| ((((h.2 c1).2.2.2.1 c5).2.2.2 c6).2.1 c8)) (fun c8 => w_f b297 d297_126 rfl rfl rfl <| w_f b297 d297_127 rfl rfl rfl <| w_f b297 d297_129 rfl rfl rfl <| w_f b297 d297_131 rfl rfl rfl <| w_gr b297 d297_132 rfl rfl hs (tlt 169 rfl) tbC_169 rfl (by decide) <| w_f b297 d297_135 rfl rfl rfl <| w_ial b297 d297_136 rfl hs (tlt 170 rfl) tbC_170 (bdix (n := 843) ⟨by decide, by decide⟩ rfl) ⟨by decide, by decide⟩ <| w_cc b297 d297_137 rfl (pcl_v (n := 3) rfl rfl rfl (by decide +kernel) (sh_isOb hs (tlt 169 rfl) tbC_169) rfl rfl) rfl <| c254 hs hx4 (bd_gI _ _ _) (bd_gI _ _ _) ((((h.2 c1).2.2.2.1 c5).2.2.2 c6).2.2 c8).1 ((((h.2 c1).2.2.2.1 c5).2.2.2 c6).2.2 c8).2.1 ((((h.2 c1).2.2.2.1 c5).2.2.2 c6).2.2 c8).2.2.1 <| w_ifeqZ b297 d297_140 rfl rfl (p297 _ _) (fun c9 => w_f b297 d297_145 rfl (pf_iinc rfl rfl) rfl <| w_j b297 d297_148 rfl (p297 _ _) <| (((((h.2 c1).2.2.2.1 c5).2.2.2 c6).2.2 c8).2.2.2.1 c9)) (fun c9 => w_f b297 d297_143 rfl rfl rfl <| w_rz b297 d297_144 r297 (by decide) (((((h.2 c1).2.2.2.1 c5).2.2.2 c6).2.2 c8).2.2.2.2 c9))))) (fun c5 => w_f b297 d297_75 rfl rfl rfl <| w_f b297 d297_76 rfl rfl rfl <| w_f b297 d297_78 rfl rfl rfl <| w_f b297 d297_80 rfl rfl rfl <| w_f b297 d297_81 rfl rfl rfl <| w_cc b297 d297_82 rfl (pcl_v (n := 1) rfl rfl rfl (by decide +kernel) (sh_isOb hs (tlt 169 rfl) tbC_169) rfl rfl) rfl <| c262 hs hx3 ((h.2 c1).2.2.2.2 c5).1 <| w_cc b297 d297_85 rfl (pcl_v (n := 3) rfl rfl rfl (by decide +kernel) (sh_isOb hs (tlt 169 rfl) tbC_169) rfl rfl) rfl <| c254 hs hx4 (bd_gI _ _ _) ((h.2 c1).2.2.2.2 c5).2.1 ((h.2 c1).2.2.2.2 c5).2.2.1 ((h.2 c1).2.2.2.2 c5).2.2.2.1 ((h.2 c1).2.2.2.2 c5).2.2.2.2.1 <| w_ifeqZ b297 d297_88 rfl rfl (p297 _ _) (fun c10 => w_f b297 d297_93 rfl rfl rfl <| w_gr b297 d297_94 rfl rfl hs (tlt 169 rfl) tbC_169 rfl (by decide) <| w_f b297 d297_97 rfl rfl rfl <| w_ial b297 d297_98 rfl hs (tlt 170 rfl) tbC_170 (bdix (n := 843) ⟨by decide, by decide⟩ rfl) ⟨by decide, by decide⟩ <| w_f b297 d297_99 rfl rfl rfl <| w_gr b297 d297_100 rfl rfl hs (tlt 169 rfl) tbC_169 rfl (by decide) <| w_f b297 d297_103 rfl rfl rfl <| w_ial b297 d297_105 rfl hs (tlt 177 rfl) tbC_177 (bdix (n := 61) (((h.2 c1).2.2.2.2 c5).2.2.2.2.2.1 c10).1 rfl) (((h.2 c1).2.2.2.2 c5).2.2.2.2.2.1 c10).1 <| w_f b297 d297_106 rfl (pf_imul (gI w 170 1) (gI w 177 x6.toNat)) rfl <| w_f b297 d297_107 rfl rfl rfl <| w_f b297 d297_108 rfl (pf_iadd ((gI w 170 1) * (gI w 177 x6.toNat)) x1) rfl <| w_f b297 d297_109 rfl rfl rfl <| w_f b297 d297_111 rfl (pf_isub (((gI w 170 1) * (gI w 177 x6.toNat)) + x1) x5) rfl <| w_f b297 d297_112 rfl rfl rfl <| w_f b297 d297_114 rfl rfl rfl <| w_f b297 d297_116 rfl rfl rfl <| w_iceq b297 d297_117 rfl rfl (p297 _ _) (((h.2 c1).2.2.2.2 c5).2.2.2.2.2.1 c10).2.1 ⟨by decide, by decide⟩ (fun c11 => w_f b297 d297_126 rfl rfl rfl <| w_f b297 d297_127 rfl rfl rfl <| w_f b297 d297_129 rfl rfl rfl <| w_f b297 d297_131 rfl rfl rfl <| w_gr b297 d297_132 rfl rfl hs (tlt 169 rfl) tbC_169 rfl (by decide) <| w_f b297 d297_135 rfl rfl rfl <| w_ial b297 d297_136 rfl hs (tlt 170 rfl) tbC_170 (bdix (n := 843) ⟨by decide, by decide⟩ rfl) ⟨by decide, by decide⟩ <| w_cc b297 d297_137 rfl (pcl_v (n := 3) rfl rfl rfl (by decide +kernel) (sh_isOb hs (tlt 169 rfl) tbC_169) rfl rfl) rfl <| c254 hs hx4 (bd_gI _ _ _) (bd_gI _ _ _) ((((h.2 c1).2.2.2.2 c5).2.2.2.2.2.1 c10).2.2.1 c11).1 ((((h.2 c1).2.2.2.2 c5).2.2.2.2.2.1 c10).2.2.1 c11).2.1 ((((h.2 c1).2.2.2.2 c5).2.2.2.2.2.1 c10).2.2.1 c11).2.2.1 <| w_ifeqZ b297 d297_140 rfl rfl (p297 _ _) (fun c12 => w_f b297 d297_145 rfl (pf_iinc rfl rfl) rfl <| w_j b297 d297_148 rfl (p297 _ _) <| (((((h.2 c1).2.2.2.2 c5).2.2.2.2.2.1 c10).2.2.1 c11).2.2.2.1 c12)) (fun c12 => w_f b297 d297_143 rfl rfl rfl <| w_rz b297 d297_144 r297 (by decide) (((((h.2 c1).2.2.2.2 c5).2.2.2.2.2.1 c10).2.2.1 c11).2.2.2.2 c12))) (fun c11 => w_f b297 d297_120 rfl rfl rfl <| w_f b297 d297_122 rfl rfl rfl <| w_icne b297 d297_123 rfl rfl (p297 _ _) ((((h.2 c1).2.2.2.2 c5).2.2.2.2.2.1 c10).2.2.2 c11).1 ⟨by decide, by decide⟩ (fun c13 => w_f b297 d297_145 rfl (pf_iinc rfl rfl) rfl <| w_j b297 d297_148 rfl (p297 _ _) <| (((((h.2 c1).2.2.2.2 c5).2.2.2.2.2.1 c10).2.2.2 c11).2.1 c13)) (fun c13 => w_f b297 d297_126 rfl rfl rfl <| w_f b297 d297_127 rfl rfl rfl <| w_f b297 d297_129 rfl rfl rfl <| w_f b297 d297_131 rfl rfl rfl <| w_gr b297 d297_132 rfl rfl hs (tlt 169 rfl) tbC_169 rfl (by decide) <| w_f b297 d297_135 rfl rfl rfl <| w_ial b297 d297_136 rfl hs (tlt 170 rfl) tbC_170 (bdix (n := 843) ⟨by decide, by decide⟩ rfl) ⟨by decide, by decide⟩ <| w_cc b297 d297_137 rfl (pcl_v (n := 3) rfl rfl rfl (by decide +kernel) (sh_isOb hs (tlt 169 rfl) tbC_169) rfl rfl) rfl <| c254 hs hx4 (bd_gI _ _ _) (bd_gI _ _ _) (((((h.2 c1).2.2.2.2 c5).2.2.2.2.2.1 c10).2.2.2 c11).2.2 c13).1 (((((h.2 c1).2.2.2.2 c5).2.2.2.2.2.1 c10).2.2.2 c11).2.2 c13).2.1 (((((h.2 c1).2.2.2.2 c5).2.2.2.2.2.1 c10).2.2.2 c11).2.2 c13).2.2.1 <| w_ifeqZ b297 d297_140 rfl rfl (p297 _ _) (fun c14 => w_f b297 d297_145 rfl (pf_iinc rfl rfl) rfl <| w_j b297 d297_148 rfl (p297 _ _) <| ((((((h.2 c1).2.2.2.2 c5).2.2.2.2.2.1 c10).2.2.2 c11).2.2 c13).2.2.2.1 c14)) (fun c14 => w_f b297 d297_143 rfl rfl rfl <| w_rz b297 d297_144 r297 (by decide) ((((((h.2 c1).2.2.2.2 c5).2.2.2.2.2.1 c10).2.2.2 c11).2.2 c13).2.2.2.2 c14))))) (fun c10 => w_f b297 d297_91 rfl rfl rfl <| w_rz b297 d297_92 r297 (by decide) (((h.2 c1).2.2.2.2 c5).2.2.2.2.2.2 c10))))
/-! 298: PinBarrelModel.seeks(II)I -/
theorem b298 : mB 298 = cX9_seeks := rfl
theorem r298 : mR 298 = (some .int) := rfl
theorem p298 (a b : Nat) : phi 298 a ≤ phi 298 b := Nat.le_refl 0
theorem d298_0 : decode cX9_seeks 0 = .ok (.aload_n 0, 1) := by decide +kernel
theorem d298_1 : decode cX9_seeks 1 = .ok (.iload_n 1, 1) := by decide +kernel
theorem d298_2 : decode cX9_seeks 2 = .ok (.invokevirtual 307, 3) := by decide +kernel
theorem d298_5 : decode cX9_seeks 5 = .ok (.aload_n 0, 1) := by decide +kernel
theorem d298_6 : decode cX9_seeks 6 = .ok (.iconst 0, 1) := by decide +kernel
theorem d298_7 : decode cX9_seeks 7 = .ok (.putfield 311, 3) := by decide +kernel
theorem d298_10 : decode cX9_seeks 10 = .ok (.iconst 0, 1) := by decide +kernel
theorem d298_11 : decode cX9_seeks 11 = .ok (.istore_n 3, 1) := by decide +kernel
theorem d298_12 : decode cX9_seeks 12 = .ok (.aload_n 0, 1) := by decide +kernel
theorem d298_13 : decode cX9_seeks 13 = .ok (.getfield 37, 3) := by decide +kernel
theorem d298_16 : decode cX9_seeks 16 = .ok (.iconst 0, 1) := by decide +kernel
theorem d298_17 : decode cX9_seeks 17 = .ok (.iconst (-1), 1) := by decide +kernel
theorem d298_18 : decode cX9_seeks 18 = .ok (.iastore, 1) := by decide +kernel
theorem d298_19 : decode cX9_seeks 19 = .ok (.iload_n 3, 1) := by decide +kernel
theorem d298_20 : decode cX9_seeks 20 = .ok (.aload_n 0, 1) := by decide +kernel
theorem d298_21 : decode cX9_seeks 21 = .ok (.getfield 298, 3) := by decide +kernel
theorem d298_24 : decode cX9_seeks 24 = .ok (.if_icmp .ge 84, 3) := by decide +kernel
theorem d298_27 : decode cX9_seeks 27 = .ok (.aload_n 0, 1) := by decide +kernel
theorem d298_28 : decode cX9_seeks 28 = .ok (.iload_n 3, 1) := by decide +kernel
theorem d298_29 : decode cX9_seeks 29 = .ok (.iload_n 2, 1) := by decide +kernel
theorem d298_30 : decode cX9_seeks 30 = .ok (.invokevirtual 314, 3) := by decide +kernel
theorem d298_33 : decode cX9_seeks 33 = .ok (.istore 4, 2) := by decide +kernel
theorem d298_35 : decode cX9_seeks 35 = .ok (.iload 4, 2) := by decide +kernel
theorem d298_37 : decode cX9_seeks 37 = .ok (.iconst (-1), 1) := by decide +kernel
theorem d298_38 : decode cX9_seeks 38 = .ok (.if_icmp .ne 12, 3) := by decide +kernel
theorem d298_41 : decode cX9_seeks 41 = .ok (.iinc 3 (-1), 3) := by decide +kernel
theorem d298_44 : decode cX9_seeks 44 = .ok (.iload_n 3, 1) := by decide +kernel
theorem d298_45 : decode cX9_seeks 45 = .ok (.ifCond .ge (-26), 3) := by decide +kernel
theorem d298_48 : decode cX9_seeks 48 = .ok (.iconst 0, 1) := by decide +kernel
theorem d298_49 : decode cX9_seeks 49 = .ok (.ireturn, 1) := by decide +kernel
theorem d298_50 : decode cX9_seeks 50 = .ok (.aload_n 0, 1) := by decide +kernel
theorem d298_51 : decode cX9_seeks 51 = .ok (.dup, 1) := by decide +kernel
theorem d298_52 : decode cX9_seeks 52 = .ok (.getfield 311, 3) := by decide +kernel
theorem d298_55 : decode cX9_seeks 55 = .ok (.iconst 1, 1) := by decide +kernel
theorem d298_56 : decode cX9_seeks 56 = .ok (.iadd, 1) := by decide +kernel
theorem d298_57 : decode cX9_seeks 57 = .ok (.putfield 311, 3) := by decide +kernel
theorem d298_60 : decode cX9_seeks 60 = .ok (.aload_n 0, 1) := by decide +kernel
theorem d298_61 : decode cX9_seeks 61 = .ok (.getfield 311, 3) := by decide +kernel
theorem d298_64 : decode cX9_seeks 64 = .ok (.sipush 4000, 3) := by decide +kernel
theorem d298_67 : decode cX9_seeks 67 = .ok (.if_icmp .le 6, 3) := by decide +kernel
theorem d298_70 : decode cX9_seeks 70 = .ok (.bipush (-2), 2) := by decide +kernel
theorem d298_72 : decode cX9_seeks 72 = .ok (.ireturn, 1) := by decide +kernel
theorem d298_73 : decode cX9_seeks 73 = .ok (.aload_n 0, 1) := by decide +kernel
theorem d298_74 : decode cX9_seeks 74 = .ok (.getfield 37, 3) := by decide +kernel
theorem d298_77 : decode cX9_seeks 77 = .ok (.iload_n 3, 1) := by decide +kernel
theorem d298_78 : decode cX9_seeks 78 = .ok (.iload 4, 2) := by decide +kernel
theorem d298_80 : decode cX9_seeks 80 = .ok (.iastore, 1) := by decide +kernel
theorem d298_81 : decode cX9_seeks 81 = .ok (.aload_n 0, 1) := by decide +kernel
theorem d298_82 : decode cX9_seeks 82 = .ok (.iload_n 1, 1) := by decide +kernel
theorem d298_83 : decode cX9_seeks 83 = .ok (.iload_n 3, 1) := by decide +kernel
theorem d298_84 : decode cX9_seeks 84 = .ok (.iload 4, 2) := by decide +kernel
theorem d298_86 : decode cX9_seeks 86 = .ok (.invokevirtual 317, 3) := by decide +kernel
theorem d298_89 : decode cX9_seeks 89 = .ok (.ifCond .ne 6, 3) := by decide +kernel
theorem d298_92 : decode cX9_seeks 92 = .ok (.goto (-73), 3) := by decide +kernel
theorem d298_95 : decode cX9_seeks 95 = .ok (.iinc 3 1, 3) := by decide +kernel
theorem d298_98 : decode cX9_seeks 98 = .ok (.aload_n 0, 1) := by decide +kernel
theorem d298_99 : decode cX9_seeks 99 = .ok (.getfield 37, 3) := by decide +kernel
theorem d298_102 : decode cX9_seeks 102 = .ok (.iload_n 3, 1) := by decide +kernel
theorem d298_103 : decode cX9_seeks 103 = .ok (.iconst (-1), 1) := by decide +kernel
theorem d298_104 : decode cX9_seeks 104 = .ok (.iastore, 1) := by decide +kernel
theorem d298_105 : decode cX9_seeks 105 = .ok (.goto (-86), 3) := by decide +kernel
theorem d298_108 : decode cX9_seeks 108 = .ok (.iconst 1, 1) := by decide +kernel
theorem d298_109 : decode cX9_seeks 109 = .ok (.ireturn, 1) := by decide +kernel
theorem v298_0 {w : PW} {Q : PO → PW → Prop} {x1 : Int} {x2 : Int} (hs : Sh w) (hx1 : bd x1) (hx2 : bd x2) (h : pC 294 [.ref 169, iv x1] w (kV fun w1 => Sh w1 ∧ ∀ w3 : PW, w3 = sI w1 169 27 0 → ∀ w4 : PW, w4 = sI w3 177 0 ((-1)) → pX 298 19 [some (.ref 169), some (iv x1), some (iv x2), some (iv 0), none] [] w4 Q)) : pX 298 0 [some (.ref 169), some (iv x1), some (iv x2), none, none] [] w Q :=
  w_f b298 d298_0 rfl rfl rfl <| w_f b298 d298_1 rfl rfl rfl <| w_c b298 d298_2 rfl (pcl_v (n := 1) rfl rfl rfl (by decide +kernel) (sh_isOb hs (tlt 169 rfl) tbC_169) rfl rfl) rfl _ (hK_V fun w1 hkw1 => w_f b298 d298_5 rfl rfl rfl <| w_f b298 d298_6 rfl rfl rfl <| w_pi b298 d298_7 rfl rfl hkw1.1 (tlt 169 rfl) tbC_169 rfl rfl rfl <| w_f b298 d298_10 rfl rfl rfl <| w_f b298 d298_11 rfl rfl rfl <| w_f b298 d298_12 rfl rfl rfl <| w_gr b298 d298_13 rfl rfl (Sh_sI hkw1.1 (slt_o tbC_169 rfl)) (tlt 169 rfl) tbC_169 rfl (by decide) <| w_f b298 d298_16 rfl rfl rfl <| w_f b298 d298_17 rfl rfl rfl <| w_ias b298 d298_18 rfl (Sh_sI hkw1.1 (slt_o tbC_169 rfl)) (tlt 177 rfl) tbC_177 (bdix (n := 61) ⟨by decide, by decide⟩ rfl) ⟨by decide, by decide⟩ <| ((hkw1.2 _ rfl) _ rfl)) h
theorem e298 {w : PW} {Q : PO → PW → Prop} {x1 : Int} {x2 : Int} (hs : Sh w) (hx1 : bd x1) (hx2 : bd x2) (h : pC 294 [.ref 169, iv x1] w (kV fun w1 => Sh w1 ∧ ∀ w3 : PW, w3 = sI w1 169 27 0 → ∀ w4 : PW, w4 = sI w3 177 0 ((-1)) → pX 298 19 [some (.ref 169), some (iv x1), some (iv x2), some (iv 0), none] [] w4 Q)) : pC 298 [.ref 169, iv x1, iv x2] w Q :=
  (pC_in (Nat.le_of_ble_eq_true rfl) rfl Q).mpr (v298_0 hs hx1 hx2 h)
theorem v298_19 {w : PW} {Q : PO → PW → Prop} {x1 : Int} {x2 : Int} {x3 : Int} {o4 : Option Value} (hs : Sh w) (hx1 : bd x1) (hx2 : bd x2) (hx3 : bd x3) (ho4 : pc2 o4 = false) (h : ((gI w 169 26) ≤ x3 → Q (.inl (some (iv 1))) w) ∧ (x3 < (gI w 169 26) → pC 295 [.ref 169, iv x3, iv x2] w (kI fun u3 w2 => Sh w2 ∧ (u3 ≠ ((-1)) → ∀ w5 : PW, w5 = sI w2 169 27 ((gI w2 169 27) + 1) → ((gI w5 169 27) ≤ 4000 → (0 ≤ x3 ∧ x3 < 61) ∧ ∀ w7 : PW, w7 = sI w5 177 x3.toNat u3 → pC 297 [.ref 169, iv x1, iv x3, iv u3] w7 (kI fun u9 w8 => Sh w8 ∧ (u9 ≠ 0 → (0 ≤ (x3 + 1) ∧ (x3 + 1) < 61) ∧ ∀ w11 : PW, w11 = sI w8 177 (x3 + 1).toNat ((-1)) → pX 298 19 [some (.ref 169), some (iv x1), some (iv x2), some (iv (x3 + 1)), some (iv u3)] [] w11 Q) ∧ (u9 = 0 → pX 298 19 [some (.ref 169), some (iv x1), some (iv x2), some (iv x3), some (iv u3)] [] w8 Q))) ∧ (4000 < (gI w5 169 27) → Q (.inl (some (iv ((-2))))) w5)) ∧ (u3 = ((-1)) → (bd (x3 + (-1))) ∧ (0 ≤ (x3 + (-1)) → pX 298 19 [some (.ref 169), some (iv x1), some (iv x2), some (iv (x3 + (-1))), some (iv u3)] [] w2 Q) ∧ ((x3 + (-1)) < 0 → Q (.inl (some (iv 0))) w2))))) : pX 298 19 [some (.ref 169), some (iv x1), some (iv x2), some (iv x3), o4] [] w Q :=
  w_f b298 d298_19 rfl rfl rfl <| w_f b298 d298_20 rfl rfl rfl <| w_gi b298 d298_21 rfl rfl hs (tlt 169 rfl) tbC_169 rfl <| w_icge b298 d298_24 rfl rfl (p298 _ _) hx3 (bd_gI _ _ _) (fun c1 => w_f b298 d298_108 rfl rfl rfl <| w_ri b298 d298_109 r298 (h.1 c1)) (fun c1 => w_f b298 d298_27 rfl rfl rfl <| w_f b298 d298_28 rfl rfl rfl <| w_f b298 d298_29 rfl rfl rfl <| w_c b298 d298_30 rfl (pcl_v (n := 2) rfl rfl rfl (by decide +kernel) (sh_isOb hs (tlt 169 rfl) tbC_169) rfl rfl) rfl _ (hK_I fun u3 w2 hbu3 hkw2 => w_f b298 d298_33 rfl rfl rfl <| w_f b298 d298_35 rfl rfl rfl <| w_f b298 d298_37 rfl rfl rfl <| w_icne b298 d298_38 rfl rfl (p298 _ _) hbu3 ⟨by decide, by decide⟩ (fun c4 => w_f b298 d298_50 rfl rfl rfl <| w_f b298 d298_51 rfl rfl rfl <| w_gi b298 d298_52 rfl rfl hkw2.1 (tlt 169 rfl) tbC_169 rfl <| w_f b298 d298_55 rfl rfl rfl <| w_f b298 d298_56 rfl (pf_iadd _ 1) rfl <| w_pi b298 d298_57 rfl rfl hkw2.1 (tlt 169 rfl) tbC_169 rfl rfl rfl <| w_f b298 d298_60 rfl rfl rfl <| w_gi b298 d298_61 rfl rfl (Sh_sI hkw2.1 (slt_o tbC_169 rfl)) (tlt 169 rfl) tbC_169 rfl <| w_f b298 d298_64 rfl rfl rfl <| w_icle b298 d298_67 rfl rfl (p298 _ _) (bd_gI _ _ _) ⟨by decide, by decide⟩ (fun c6 => w_f b298 d298_73 rfl rfl rfl <| w_gr b298 d298_74 rfl rfl (Sh_sI hkw2.1 (slt_o tbC_169 rfl)) (tlt 169 rfl) tbC_169 rfl (by decide) <| w_f b298 d298_77 rfl rfl rfl <| w_f b298 d298_78 rfl rfl rfl <| w_ias b298 d298_80 rfl (Sh_sI hkw2.1 (slt_o tbC_169 rfl)) (tlt 177 rfl) tbC_177 (bdix (n := 61) (((hkw2.2.1 c4) _ rfl).1 c6).1 rfl) (((hkw2.2.1 c4) _ rfl).1 c6).1 <| w_f b298 d298_81 rfl rfl rfl <| w_f b298 d298_82 rfl rfl rfl <| w_f b298 d298_83 rfl rfl rfl <| w_f b298 d298_84 rfl rfl rfl <| w_c b298 d298_86 rfl (pcl_v (n := 3) rfl rfl rfl (by decide +kernel) (sh_isOb (Sh_sI (Sh_sI hkw2.1 (slt_o tbC_169 rfl)) (slt_a tbC_177)) (tlt 169 rfl) tbC_169) rfl rfl) rfl _ (hK_I fun u9 w8 hbu9 hkw8 => w_ifne b298 d298_89 rfl rfl (p298 _ _) hbu9 (fun c10 => w_f b298 d298_95 rfl (pf_iinc rfl rfl) rfl <| w_f b298 d298_98 rfl rfl rfl <| w_gr b298 d298_99 rfl rfl hkw8.1 (tlt 169 rfl) tbC_169 rfl (by decide) <| w_f b298 d298_102 rfl rfl rfl <| w_f b298 d298_103 rfl rfl rfl <| w_ias b298 d298_104 rfl hkw8.1 (tlt 177 rfl) tbC_177 (bdix (n := 61) (hkw8.2.1 c10).1 rfl) (hkw8.2.1 c10).1 <| w_j b298 d298_105 rfl (p298 _ _) <| ((hkw8.2.1 c10).2 _ rfl)) (fun c10 => w_j b298 d298_92 rfl (p298 _ _) <| (hkw8.2.2 c10))) ((((hkw2.2.1 c4) _ rfl).1 c6).2 _ rfl)) (fun c6 => w_f b298 d298_70 rfl rfl rfl <| w_ri b298 d298_72 r298 (((hkw2.2.1 c4) _ rfl).2 c6))) (fun c4 => w_f b298 d298_41 rfl (pf_iinc rfl rfl) rfl <| w_f b298 d298_44 rfl rfl rfl <| w_ifge b298 d298_45 rfl rfl (p298 _ _) (hkw2.2.2 c4).1 (fun c12 => ((hkw2.2.2 c4).2.1 c12)) (fun c12 => w_f b298 d298_48 rfl rfl rfl <| w_ri b298 d298_49 r298 ((hkw2.2.2 c4).2.2 c12)))) (h.2 c1))
/-! 299: PinBarrelModel.seeks(I)I -/
theorem b299 : mB 299 = cX9_seeks_ := rfl
theorem r299 : mR 299 = (some .int) := rfl
theorem p299 (a b : Nat) : phi 299 a ≤ phi 299 b := Nat.le_refl 0
theorem d299_0 : decode cX9_seeks_ 0 = .ok (.aload_n 0, 1) := by decide +kernel
theorem d299_1 : decode cX9_seeks_ 1 = .ok (.iload_n 1, 1) := by decide +kernel
theorem d299_2 : decode cX9_seeks_ 2 = .ok (.iconst (-1), 1) := by decide +kernel
theorem d299_3 : decode cX9_seeks_ 3 = .ok (.invokevirtual 320, 3) := by decide +kernel
theorem d299_6 : decode cX9_seeks_ 6 = .ok (.ireturn, 1) := by decide +kernel
theorem v299_0 {w : PW} {Q : PO → PW → Prop} {x1 : Int} (hs : Sh w) (hx1 : bd x1) (h : pC 298 [.ref 169, iv x1, iv ((-1))] w (kI fun u2 w1 => Sh w1 ∧ Q (.inl (some (iv u2))) w1)) : pX 299 0 [some (.ref 169), some (iv x1)] [] w Q :=
  w_f b299 d299_0 rfl rfl rfl <| w_f b299 d299_1 rfl rfl rfl <| w_f b299 d299_2 rfl rfl rfl <| w_c b299 d299_3 rfl (pcl_v (n := 2) rfl rfl rfl (by decide +kernel) (sh_isOb hs (tlt 169 rfl) tbC_169) rfl rfl) rfl _ (hK_I fun u2 w1 hbu2 hkw1 => w_ri b299 d299_6 r299 hkw1.2) h
theorem e299 {w : PW} {Q : PO → PW → Prop} {x1 : Int} (hs : Sh w) (hx1 : bd x1) (h : pC 298 [.ref 169, iv x1, iv ((-1))] w (kI fun u2 w1 => Sh w1 ∧ Q (.inl (some (iv u2))) w1)) : pC 299 [.ref 169, iv x1] w Q :=
  (pC_in (Nat.le_of_ble_eq_true rfl) rfl Q).mpr (v299_0 hs hx1 h)
theorem orand_f {P R : Prop} [Decidable P] [Decidable R] {a b : Bool} (h1 : ¬ (P ∧ a = true)) (h2 : ¬ (R ∧ b = true)) : ((decide P && a) || (decide R && b)) = false := by
  have e1 : (decide P && a) = false := by
    by_cases q : P
    · rw [Bool.eq_false_iff.mpr (fun z => h1 ⟨q, z⟩), Bool.and_false]
    · rw [decide_eq_false q, Bool.false_and]
  have e2 : (decide R && b) = false := by
    by_cases q : R
    · rw [Bool.eq_false_iff.mpr (fun z => h2 ⟨q, z⟩), Bool.and_false]
    · rw [decide_eq_false q, Bool.false_and]
  rw [e1, e2]; rfl
theorem orand_t {P R : Prop} [Decidable P] [Decidable R] {a b : Bool} (h : (P ∧ a = true) ∨ (R ∧ b = true)) : ((decide P && a) || (decide R && b)) = true := by
  rcases h with h | h
  · rw [decide_eq_true h.1, h.2]; rfl
  · rw [decide_eq_true h.1, h.2]; exact Bool.or_true _
theorem l297_44 {w : PW} {Q : PO → PW → Prop} {u d t : Nat} {m : Row} {ch : Nat → Int} (hs : Sh w) (hM : MR w m) (hu : (u : Int) < m 1) (hd : d < ordR m u) (ht : (t : Int) < m 4) (hrow : ∀ j, j < ordR m u → gI w 176 j = (ordN m u j : Nat)) (hch : ∀ j, j < d → gI w 177 j = ch j ∧ 0 ≤ ch j ∧ ch j < m 4) (h0 : 0 < cnt (sBad m u ch d t) d → Q (.inl (some (iv 0))) w) (h : cnt (sBad m u ch d t) d = 0 → pC 296 [.ref 169, iv (u : Nat), iv (m 1 * (t : Nat) + (u : Nat)), iv (sStp m u d)] w (kI fun u3 w2 => Sh w2 ∧ (u3 ≠ 0 → Q (.inl (some (iv 0))) w2) ∧ (u3 = 0 → Q (.inl (some (iv 1))) w2))) : ∀ k i : Nat, i + k = d → cnt (sBad m u ch d t) i = 0 → ∀ o7 o8 : Option Value, pc2 o7 = false → pc2 o8 = false → pX 297 44 [some (.ref 169), some (iv (u : Nat)), some (iv (d : Nat)), some (iv (t : Nat)), some (iv (sStp m u d)), some (iv (m 1 * (t : Nat) + (u : Nat))), some (iv (i : Nat)), o7, o8] [] w Q := by
  have g0 := hM.ok.s
  have g1 := hM.ok.u
  have g4 := hM.ok.t
  have g5 := hM.ok.n
  have hRl := ordR_le hM.ok (u : Int)
  have hsd := sStp_bd hM.ok hd
  have hcd := mul36 (a := m 1) (b := (t : Int)) (by omega) (by omega)
  have hnb := sNeed_bd hM.ok ht
  intro k
  induction k with
  | zero =>
    intro i hi hinv o7 o8 ho7 ho8
    refine v297_44 hs (bdk (by omega)) (bdk (by omega)) (bdk (by omega)) ⟨by omega, by omega⟩ ⟨by omega, by omega⟩ (bdk (by omega)) ho7 ho8 ⟨fun _ => h ?_, fun q => by omega⟩
    rw [show d = i from by omega] at hinv ⊢
    exact hinv
  | succ k ih =>
    intro i hi hinv o7 o8 ho7 ho8
    obtain ⟨c1, c2, c3⟩ := hch i (by omega)
    have hsi := sStp_bd hM.ok (u := (u : Int)) (k := i) (by omega)
    have hoi := (ordN_ok hM.ok (u := (u : Int)) (i := i) (by omega)).1
    have hci := mul36 (a := m 1) (b := ch i) (by omega) (by omega)
    have eB : sBad m u ch d t i = ((decide (ch i = (t : Int)) && nearI (m 0) (sStp m u d) (sStp m u i) (sNeed m t)) || (decide (m 1 * ch i = m 1 * (t : Int) + 1 ∨ m 1 * ch i = m 1 * (t : Int) - 1) && nearI (m 0) (sStp m u d) (sStp m u i) (m 2))) := rfl
    have hT : (ch i = (t : Int) ∧ nearI (m 0) (sStp m u d) (sStp m u i) (sNeed m t) = true) ∨ ((m 1 * ch i = m 1 * (t : Int) + 1 ∨ m 1 * ch i = m 1 * (t : Int) - 1) ∧ nearI (m 0) (sStp m u d) (sStp m u i) (m 2) = true) → Q (.inl (some (iv 0))) w := fun z => h0 (cnt_pos (i := i) (by omega) (by rw [eB]; exact orand_t z))
    have hF : ¬ (ch i = (t : Int) ∧ nearI (m 0) (sStp m u d) (sStp m u i) (sNeed m t) = true) → ¬ ((m 1 * ch i = m 1 * (t : Int) + 1 ∨ m 1 * ch i = m 1 * (t : Int) - 1) ∧ nearI (m 0) (sStp m u d) (sStp m u i) (m 2) = true) → ∀ p7 p8 : Option Value, pc2 p7 = false → pc2 p8 = false → pX 297 44 [some (.ref 169), some (iv (u : Nat)), some (iv (d : Nat)), some (iv (t : Nat)), some (iv (sStp m u d)), some (iv (m 1 * (t : Nat) + (u : Nat))), some (iv ((i : Int) + 1)), p7, p8] [] w Q := fun z1 z2 p7 p8 hp7 hp8 => ih (i + 1) (by omega) (by rw [cnt_f (by rw [eB]; exact orand_f z1 z2)]; exact hinv) p7 p8 hp7 hp8
    have g176 := hrow i (by omega)
    refine v297_44 hs (bdk (by omega)) (bdk (by omega)) (bdk (by omega)) ⟨by omega, by omega⟩ ⟨by omega, by omega⟩ (bdk (by omega)) ho7 ho8 ?_
    rw [hM.g (k := 0) rfl, hM.g (k := 1) rfl, hM.g (k := 2) rfl, hM.need (by omega), Int.toNat_natCast, g176, hM.N1 (by omega), c1]
    rw [show rN m (ordN m u i) 1 = sStp m u i from rfl]
    have r60 : 0 ≤ (i : Int) ∧ (i : Int) < 60 := ⟨by omega, by omega⟩
    have r61 : 0 ≤ (i : Int) ∧ (i : Int) < 61 := ⟨by omega, by omega⟩
    have rN1 : 0 ≤ (71 + 3 * ((ordN m u i : Nat) : Int)) + 1 ∧ (71 + 3 * ((ordN m u i : Nat) : Int)) + 1 < 843 := ⟨by omega, by omega⟩
    have r0 : 0 < m 0 ∧ m 0 ≤ 64 := ⟨by omega, by omega⟩
    have rb : bd (m 1 * ch i + (u : Int) - (m 1 * (t : Int) + (u : Int))) := ⟨by omega, by omega⟩
    refine ⟨fun q => by omega, fun _ => ⟨r60, rN1, r61, fun q => ⟨r61, rb, fun q2 => ⟨r0, hsd, hsi, fun q3 => hF (fun z => q z.1) (fun z => q3 z.2) _ _ rfl rfl, fun q3 => hT (Or.inr ⟨by omega, q3⟩)⟩, fun q2 => ⟨rb, fun q4 => hF (fun z => q z.1) (fun z => by have := z.1; omega) _ _ rfl rfl, fun q4 => ⟨r0, hsd, hsi, fun q3 => hF (fun z => q z.1) (fun z => q3 z.2) _ _ rfl rfl, fun q3 => hT (Or.inr ⟨by omega, q3⟩)⟩⟩⟩, fun q => ⟨⟨by omega, by omega⟩, ⟨by omega, by omega⟩, r0, hsd, hsi, fun q5 => ⟨r61, rb, fun q2 => ⟨r0, hsd, hsi, fun q3 => hF (fun z => q5 z.2) (fun z => q3 z.2) _ _ rfl rfl, fun q3 => hT (Or.inr ⟨by omega, q3⟩)⟩, fun q2 => ⟨rb, fun q4 => hF (fun z => q5 z.2) (fun z => by have := z.1; omega) _ _ rfl rfl, fun q4 => ⟨r0, hsd, hsi, fun q3 => hF (fun z => q5 z.2) (fun z => q3 z.2) _ _ rfl rfl, fun q3 => hT (Or.inr ⟨by omega, q3⟩)⟩⟩⟩, fun q5 => hT (Or.inl ⟨q, q5⟩)⟩⟩⟩
section MSK2
variable {w : PW} {Q : PO → PW → Prop} {m : Row} {u : Nat}
theorem c297 {d t : Nat} {ch : Nat → Int} (hs : Sh w) (hM : MR w m) (hu : (u : Int) < m 1) (hd : d < ordR m u) (ht : (t : Int) < m 4) (hrow : ∀ j, j < ordR m u → gI w 176 j = (ordN m u j : Nat)) (hch : ∀ j, j < d → gI w 177 j = ch j ∧ 0 ≤ ch j ∧ ch j < m 4) (h : Q (.inl (some (iv (if sFit m u ch d t = true then 1 else 0)))) w) : pC 297 [.ref 169, iv (u : Nat), iv (d : Nat), iv (t : Nat)] w Q := by
  have g0 := hM.ok.s
  have g1 := hM.ok.u
  have g4 := hM.ok.t
  have g5 := hM.ok.n
  have hRl := ordR_le hM.ok (u : Int)
  have hsd := sStp_bd hM.ok hd
  have hod := (ordN_ok hM.ok hd).1
  have hnb := sNeed_bd hM.ok ht
  have eF : sFit m u ch d t = (decide (sNeed m t ≤ m 0) && (decide (cnt (sBad m u ch d t) d = 0) && (!sStr m u (m 1 * (t : Int) + u - 1) (sStp m u d) && !sStr m u (m 1 * (t : Int) + u + 1) (sStp m u d)))) := rfl
  have hno : sFit m u ch d t = false → Q (.inl (some (iv 0))) w := fun q => by rw [q] at h; exact h
  have hyes : sFit m u ch d t = true → Q (.inl (some (iv 1))) w := fun q => by rw [q] at h; exact h
  refine e297 hs (bdk (by omega)) (bdk (by omega)) (bdk (by omega)) ?_
  rw [Int.toNat_natCast, hrow d hd, hM.need (by omega), hM.g (k := 0) rfl, hM.g (k := 1) rfl, hM.N1 (by omega), show rN m (ordN m u d) 1 = sStp m u d from rfl]
  refine ⟨⟨by omega, by omega⟩, ⟨by omega, by omega⟩, ⟨by omega, by omega⟩, ⟨by omega, by omega⟩, fun q => ?_, fun q => hno (by rw [eF, decide_eq_false (p := sNeed m t ≤ m 0) (by omega), Bool.false_and])⟩
  rw [decide_eq_true q, Bool.true_and] at eF
  refine l297_44 hs hM hu hd ht hrow hch (fun z => hno (by rw [eF, decide_eq_false (p := cnt (sBad m u ch d t) d = 0) (by omega), Bool.false_and])) (fun z => ?_) d 0 (Nat.zero_add _) rfl none none rfl rfl
  rw [decide_eq_true z, Bool.true_and] at eF
  obtain ⟨s, es⟩ := nat_of hsd.1
  rw [trk_i hM.ok, es]
  rw [trk_i hM.ok, es] at eF
  refine c296 hs hM hu (trk_UT hM.ok hu ht) (by omega) ?_
  by_cases q2 : sStr m u ((((m 1).toNat * t + u : Nat) : Int) - 1) s = false ∧ sStr m u ((((m 1).toNat * t + u : Nat) : Int) + 1) s = false
  · rw [if_pos q2]
    exact kI_iv bd0 ⟨hs, fun z => absurd rfl z, fun _ => hyes (by rw [eF, q2.1, q2.2]; rfl)⟩
  · rw [if_neg q2]
    refine kI_iv (by decide) ⟨hs, fun _ => hno ?_, fun z => absurd z (by decide)⟩
    rw [eF]
    cases a : sStr m u ((((m 1).toNat * t + u : Nat) : Int) - 1) s with
    | true => rfl
    | false =>
      cases b : sStr m u ((((m 1).toNat * t + u : Nat) : Int) + 1) s with
      | true => rfl
      | false => exact absurd ⟨a, b⟩ q2
def SmI (w : PW) (m : Row) (u : Nat) (σ : SS) : Prop := gI w 169 26 = (ordR m u : Nat) ∧ (∀ i, i < ordR m u → gI w 176 i = (ordN m u i : Nat)) ∧ gI w 169 27 = (σ.2.1 : Int) ∧ (∀ i, i ≤ σ.1 → gI w 177 i = σ.2.2 i) ∧ (∀ k, k < σ.1 → 0 ≤ σ.2.2 k ∧ σ.2.2 k < m 4) ∧ (-1 ≤ σ.2.2 σ.1 ∧ σ.2.2 σ.1 < m 4) ∧ σ.1 ≤ ordR m u ∧ σ.2.1 ≤ 4000
def SmF (w : PW) (m : Row) (u : Nat) (r : Int × SS) : Prop := gI w 169 26 = (ordR m u : Nat) ∧ (∀ i, i < ordR m u → gI w 176 i = (ordN m u i : Nat)) ∧ (r.1 ≠ -2 → gI w 169 27 = (r.2.2.1 : Int)) ∧ (r.1 = 1 → ∀ i, i < ordR m u → gI w 177 i = r.2.2.2 i ∧ 0 ≤ r.2.2.2 i ∧ r.2.2.2 i < m 4)
theorem l298 {but : Int} (hM : MR w m) (hu : (u : Int) < m 1) (hbut : bd but) : ∀ n : Nat, ∀ (σ : SS) (w' : PW), MF w w' → SmI w' m u σ → (sRun m u but n σ).1 ≠ -9 → (∀ w2, MF w w2 → SmF w2 m u (sRun m u but n σ) → Q (.inl (some (iv (sRun m u but n σ).1))) w2) → ∀ o4 : Option Value, pc2 o4 = false → pX 298 19 [some (.ref 169), some (iv (u : Nat)), some (iv but), some (iv (σ.1 : Int)), o4] [] w' Q := by
  have hR := hM.ok
  have h0 := hR.s
  have h1 := hR.u
  have h4 := hR.t
  have h5 := hR.n
  have hRl := ordR_le hR (u : Int)
  intro n
  induction n with
  | zero => intro σ w' _ _ h9; exact absurd rfl h9
  | succ n ih =>
    intro σ w' hF hI h9 h o4 ho
    obtain ⟨d, tr, ch⟩ := σ
    obtain ⟨i1, i2, i3, i4, i5, i6, i7, i8⟩ := hI
    have i3' : gI w' 169 27 = (tr : Int) := i3
    have i6' : -1 ≤ ch d ∧ ch d < m 4 := i6
    have i7' : d ≤ ordR m u := i7
    have i8' : tr ≤ 4000 := i8
    have hM1 := hF.mr hM
    refine v298_19 hF.1 (bdk (by omega)) hbut (bdk (by show d ≤ 2000000; omega)) ho ?_
    rw [i1]
    refine ⟨fun q => ?_, fun q => ?_⟩
    · have hd : ordR m u ≤ d := by omega
      have hde : d = ordR m u := by omega
      have hbase : sRun m u but (n + 1) (d, tr, ch) = (1, (d, tr, ch)) := if_pos hd
      rw [hbase] at h
      exact h w' hF ⟨i1, i2, fun _ => i3, fun _ i hi => ⟨i4 i (by show i ≤ d; omega), i5 i (by show i < d; omega)⟩⟩
    · have hd : d < ordR m u := by omega
      have hnd : ¬ ordR m u ≤ d := by omega
      obtain ⟨o1, o2⟩ := ordN_ok hR hd
      refine c295 (d := d) (o := ordN m u d) (x0 := ch d) hF.1 hM1 (by omega) hbut (i2 d hd) o1 (i4 d (Nat.le_refl _)) i6' ?_
      have hfn := (fnd_spec (sNext m (rN m (ordN m u d) 2) but (ch d)) (m 4).toNat).1
      by_cases hfd : fnd (sNext m (rN m (ordN m u d) 2) but (ch d)) (m 4).toNat < (m 4).toNat
      · rw [if_pos hfd]
        obtain ⟨t, ht⟩ : ∃ t : Nat, t = fnd (sNext m (rN m (ordN m u d) 2) but (ch d)) (m 4).toNat := ⟨_, rfl⟩
        rw [← ht] at hfd hfn ⊢
        have hts : sTry m u but (d, tr, ch) = t := ht.symm
        have ht4 : (t : Int) < m 4 := by omega
        refine kI_iv (bdk (by omega)) ⟨hF.1, fun _ w5 e5 => ?_, fun q3 => by omega⟩
        rw [i3'] at e5
        obtain ⟨F5, g5, k5⟩ := MF.set hF.1 e5 (slt_o tbC_169 rfl) ⟨by omega, by omega⟩ (by omega)
        obtain ⟨-, a5, -, c5⟩ := stI e5 hF.1 (by omega) (slt_o tbC_169 rfl) ⟨by omega, by omega⟩
        rw [g5]
        refine ⟨fun q4 => ⟨⟨by omega, by omega⟩, fun w7 e7 => ?_⟩, fun q4 => ?_⟩
        · rw [show ((d : Nat) : Int).toNat = d from Int.toNat_natCast d] at e7
          obtain ⟨F7, k7, g7⟩ := MF.oth F5.1 e7 (slt_a tbC_177) (bdk (by omega)) (by omega)
          have hF7 := hF.tr (F5.tr F7)
          have hbase : sRun m u but (n + 1) (d, tr, ch) = if sFit m u ch d t = true then sRun m u but n (d + 1, tr + 1, chSet (chSet ch d (t : Nat)) (d + 1) (-1)) else sRun m u but n (d, tr + 1, chSet ch d (t : Nat)) := by
            show (if ordR m u ≤ d then _ else _) = _
            rw [if_neg hnd, hts, if_pos hfd]
            show (if 4000 ≤ tr then _ else _) = _
            rw [if_neg (by omega)]
          have r26 : gI w7 169 26 = (ordR m u : Nat) := by rw [g7, if_neg (by omega), a5, if_neg (by omega), i1]
          have r27 : gI w7 169 27 = ((tr + 1 : Nat) : Int) := by rw [g7, if_neg (by omega), g5]; rfl
          have r76 : ∀ j, j < ordR m u → gI w7 176 j = (ordN m u j : Nat) := fun j hj => by rw [g7, if_neg (by omega), a5, if_neg (by omega), i2 j hj]
          have r77 : ∀ j, j ≤ d → gI w7 177 j = chSet ch d (t : Nat) j := fun j hj => by
            rw [g7]
            unfold chSet
            by_cases e : j = d
            · rw [if_pos ⟨rfl, e⟩, if_pos e]
            · rw [if_neg (fun z => e z.2), if_neg e, a5, if_neg (by omega)]
              exact i4 j hj
          refine c297 (ch := ch) F7.1 (hF7.mr hM) hu hd ht4 r76 (fun j hj => ⟨by rw [r77 j (by omega)]; exact if_neg (by omega), i5 j hj⟩) ?_
          by_cases hfit : sFit m u ch d t = true
          · rw [if_pos hfit] at hbase ⊢
            rw [hbase] at h9 h
            refine kI_iv (by decide) ⟨F7.1, fun _ => ⟨⟨by omega, by omega⟩, fun w11 e11 => ?_⟩, fun z => absurd z (by decide)⟩
            rw [show ((d : Int) + 1).toNat = d + 1 from by omega] at e11
            obtain ⟨F11, k11, g11⟩ := MF.oth F7.1 e11 (slt_a tbC_177) ⟨by decide, by decide⟩ (by omega)
            have hcs : ∀ k, k < d + 1 → chSet (chSet ch d (t : Nat)) (d + 1) (-1) k = chSet ch d (t : Nat) k := fun k hk => if_neg (by omega)
            have := ih (d + 1, tr + 1, chSet (chSet ch d (t : Nat)) (d + 1) (-1)) w11 (hF7.tr F11) ⟨by rw [g11, if_neg (by omega), r26], fun j hj => by rw [g11, if_neg (by omega), r76 j hj], by rw [g11, if_neg (by omega), r27], fun i hi => ?_, fun k hk => ?_, ?_, by show d + 1 ≤ ordR m u; omega, by show tr + 1 ≤ 4000; omega⟩ h9 h (some (iv (t : Nat))) rfl
            · exact this
            · have hi' : i ≤ d + 1 := hi
              show _ = chSet (chSet ch d (t : Nat)) (d + 1) (-1) i
              rw [g11]
              by_cases e2 : i = d + 1
              · rw [if_pos ⟨rfl, e2⟩]
                exact (if_pos e2).symm
              · rw [if_neg (fun z => e2 z.2), r77 i (by omega), hcs i (by omega)]
            · have hk' : k < d + 1 := hk
              show 0 ≤ chSet (chSet ch d (t : Nat)) (d + 1) (-1) k ∧ chSet (chSet ch d (t : Nat)) (d + 1) (-1) k < m 4
              rw [hcs k hk']
              unfold chSet
              by_cases e : k = d
              · rw [if_pos e]; omega
              · rw [if_neg e]; exact i5 k (by show k < d; omega)
            · show -1 ≤ chSet (chSet ch d (t : Nat)) (d + 1) (-1) (d + 1) ∧ chSet (chSet ch d (t : Nat)) (d + 1) (-1) (d + 1) < m 4
              rw [show chSet (chSet ch d (t : Nat)) (d + 1) (-1) (d + 1) = -1 from if_pos rfl]
              omega
          · rw [if_neg hfit] at hbase ⊢
            rw [hbase] at h9 h
            refine kI_iv bd0 ⟨F7.1, fun z => absurd rfl z, fun _ => ?_⟩
            have := ih (d, tr + 1, chSet ch d (t : Nat)) w7 hF7 ⟨r26, r76, r27, r77, fun k hk => ?_, ?_, i7, by show tr + 1 ≤ 4000; omega⟩ h9 h (some (iv (t : Nat))) rfl
            · exact this
            · have hk' : k < d := hk
              show 0 ≤ chSet ch d (t : Nat) k ∧ chSet ch d (t : Nat) k < m 4
              rw [show chSet ch d (t : Nat) k = ch k from if_neg (by omega)]
              exact i5 k hk'
            · show -1 ≤ chSet ch d (t : Nat) d ∧ chSet ch d (t : Nat) d < m 4
              rw [show chSet ch d (t : Nat) d = (t : Int) from if_pos rfl]
              omega
        · have q4' : 4000 ≤ tr := by omega
          have hbase : sRun m u but (n + 1) (d, tr, ch) = (-2, (d, tr, ch)) := by
            show (if ordR m u ≤ d then _ else _) = _
            rw [if_neg hnd, hts, if_pos hfd]
            exact if_pos q4'
          rw [hbase] at h
          exact h w5 (hF.tr F5) ⟨by rw [a5, if_neg (by omega), i1], fun j hj => by rw [a5, if_neg (by omega), i2 j hj], fun z => absurd rfl z, fun z => absurd (show (-2 : Int) = 1 from z) (by decide)⟩
      · rw [if_neg hfd]
        have hts : ¬ sTry m u but (d, tr, ch) < (m 4).toNat := hfd
        refine kI_iv ⟨by decide, by decide⟩ ⟨hF.1, fun q3 => absurd rfl q3, fun _ => ⟨⟨by show -2147483648 ≤ (d : Int) + (-1); omega, by show (d : Int) + (-1) < 2147483648; omega⟩, fun q4 => ?_, fun q4 => ?_⟩⟩
        · have q5 : 0 ≤ (d : Int) + (-1) := q4
          have q4' : d ≠ 0 := by omega
          obtain ⟨e, rfl⟩ : ∃ e, d = e + 1 := ⟨d - 1, by omega⟩
          have hbase : sRun m u but (n + 1) (e + 1, tr, ch) = sRun m u but n (e, tr, ch) := by
            show (if ordR m u ≤ e + 1 then _ else _) = _
            rw [if_neg hnd, if_neg hts]
            exact if_neg q4'
          rw [hbase] at h9 h
          have := ih (e, tr, ch) w' hF ⟨i1, i2, i3, fun i hi => i4 i (by have : i ≤ e := hi; show i ≤ e + 1; omega), fun k hk => i5 k (by have : k < e := hk; show k < e + 1; omega), by have := i5 e (by show e < e + 1; omega); show -1 ≤ ch e ∧ ch e < m 4; have h7 : 0 ≤ ch e ∧ ch e < m 4 := this; omega, by show e ≤ ordR m u; omega, i8⟩ h9 h (some (iv (-1))) rfl
          rw [show (((e + 1, tr, ch) : SS).1 : Int) + (-1) = (e : Int) from by show ((e + 1 : Nat) : Int) + (-1) = e; omega]
          exact this
        · have q5 : (d : Int) + (-1) < 0 := q4
          have q4' : d = 0 := by omega
          subst q4'
          have hbase : sRun m u but (n + 1) (0, tr, ch) = (0, (0, tr, ch)) := by
            show (if ordR m u ≤ 0 then _ else _) = _
            rw [if_neg hnd, if_neg hts]
            exact if_pos rfl
          rw [hbase] at h
          exact h w' hF ⟨i1, i2, fun _ => i3, fun z => absurd (show (0 : Int) = 1 from z) (by decide)⟩
theorem c298 {but : Int} (hs : Sh w) (hM : MR w m) (hu : (u : Int) < m 1) (hbut : bd but) (h : ∀ w2, MF w w2 → SmF w2 m u (sSeek m u but) → Q (.inl (some (iv (sSeek m u but).1))) w2) : pC 298 [.ref 169, iv (u : Nat), iv but] w Q := by
  have h1 := hM.ok.u
  have h4 := hM.ok.t
  refine e298 hs (bdk (by omega)) hbut (c294 hs hM (bdk (by omega)) (fun w1 F1 n1 hV => ⟨F1.1, fun w3 e3 w4 e4 => ?_⟩))
  obtain ⟨F3, g3, k3⟩ := MF.set F1.1 e3 (slt_o tbC_169 rfl) bd0 (by omega)
  obtain ⟨-, a3, -, -⟩ := stI e3 F1.1 (by omega) (slt_o tbC_169 rfl) bd0
  obtain ⟨F4, k4, g4⟩ := MF.oth F3.1 e4 (slt_a tbC_177) ⟨by decide, by decide⟩ (by omega)
  exact l298 hM hu hbut 12000 (0, 0, fun _ => -1) w4 (F1.tr (F3.tr F4)) ⟨by rw [g4, if_neg (by omega), a3, if_neg (by omega), n1], fun j hj => by rw [g4, if_neg (by omega), a3, if_neg (by omega), hV j hj], by rw [g4, if_neg (by omega), g3]; rfl, fun i hi => by
    have hi0 : i = 0 := by have : i ≤ 0 := hi; omega
    rw [g4, if_pos ⟨rfl, hi0⟩], fun k hk => absurd hk (Nat.not_lt_zero _), ⟨Int.le_refl _, by show (-1 : Int) < m 4; omega⟩, Nat.zero_le _, Nat.zero_le _⟩ (sSeek_fuel m u but) h none rfl
theorem sRun_bd (m : Row) (u but : Int) : ∀ (n : Nat) (σ : SS), (sRun m u but n σ).1 = -9 ∨ (sRun m u but n σ).1 = 1 ∨ (sRun m u but n σ).1 = 0 ∨ (sRun m u but n σ).1 = -2 := by
  intro n
  induction n with
  | zero => intro σ; exact Or.inl rfl
  | succ n ih =>
    intro σ
    unfold sRun
    split
    · exact Or.inr (Or.inl rfl)
    · split
      · split
        · exact Or.inr (Or.inr (Or.inr rfl))
        · split
          · exact ih _
          · exact ih _
      · split
        · exact Or.inr (Or.inr (Or.inl rfl))
        · exact ih _
theorem sSeek_bd (m : Row) (u but : Int) : (sSeek m u but).1 = 1 ∨ (sSeek m u but).1 = 0 ∨ (sSeek m u but).1 = -2 := by
  have h1 := sSeek_fuel m u but
  have h2 := sRun_bd m u but 12000 (0, 0, fun _ => -1)
  rcases h2 with h2 | h2
  · exact absurd h2 h1
  · exact h2
theorem sSeek_b (m : Row) (u but : Int) : bd (sSeek m u but).1 := by
  have := sSeek_bd m u but
  exact ⟨by omega, by omega⟩
theorem c299 (hs : Sh w) (hM : MR w m) (hu : (u : Int) < m 1) (h : ∀ w2, MF w w2 → SmF w2 m u (sSeek m u (-1)) → Q (.inl (some (iv (sSeek m u (-1)).1))) w2) : pC 299 [.ref 169, iv (u : Nat)] w Q := by
  have h1 := hM.ok.u
  exact e299 hs (bdk (by omega)) (c298 hs hM hu ⟨by decide, by decide⟩ (fun w2 F2 hK => kI_iv (sSeek_b m u (-1)) ⟨F2.1, h w2 F2 hK⟩))
end MSK2
