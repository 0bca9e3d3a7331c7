/-! THE MODEL's FACE: what a question looks up -/
/-! 257: PinBarrelModel.size(I)I -/
theorem b257 : mB 257 = cX9_size := rfl
theorem r257 : mR 257 = (some .int) := rfl
theorem p257 (a b : Nat) : phi 257 a ≤ phi 257 b := Nat.le_refl 0
theorem d257_0 : decode cX9_size 0 = .ok (.aload_n 0, 1) := by decide +kernel
theorem d257_1 : decode cX9_size 1 = .ok (.iload_n 1, 1) := by decide +kernel
theorem d257_2 : decode cX9_size 2 = .ok (.i2l, 1) := by decide +kernel
theorem d257_3 : decode cX9_size 3 = .ok (.lconst 0, 1) := by decide +kernel
theorem d257_4 : decode cX9_size 4 = .ok (.ldc2_w 326, 3) := by decide +kernel
theorem d257_7 : decode cX9_size 7 = .ok (.invokestatic 81, 3) := by decide +kernel
theorem d257_10 : decode cX9_size 10 = .ok (.ifCond .ne 7, 3) := by decide +kernel
theorem d257_13 : decode cX9_size 13 = .ok (.iconst 1, 1) := by decide +kernel
theorem d257_14 : decode cX9_size 14 = .ok (.goto 4, 3) := by decide +kernel
theorem d257_17 : decode cX9_size 17 = .ok (.iconst 0, 1) := by decide +kernel
theorem d257_18 : decode cX9_size 18 = .ok (.invokevirtual 328, 3) := by decide +kernel
theorem d257_21 : decode cX9_size 21 = .ok (.ifCond .eq 5, 3) := by decide +kernel
theorem d257_24 : decode cX9_size 24 = .ok (.iconst 0, 1) := by decide +kernel
theorem d257_25 : decode cX9_size 25 = .ok (.ireturn, 1) := by decide +kernel
theorem d257_26 : decode cX9_size 26 = .ok (.iload_n 1, 1) := by decide +kernel
theorem d257_27 : decode cX9_size 27 = .ok (.bipush 6, 2) := by decide +kernel
theorem d257_29 : decode cX9_size 29 = .ok (.if_icmp .ge 10, 3) := by decide +kernel
theorem d257_32 : decode cX9_size 32 = .ok (.aload_n 0, 1) := by decide +kernel
theorem d257_33 : decode cX9_size 33 = .ok (.getfield 9, 3) := by decide +kernel
theorem d257_36 : decode cX9_size 36 = .ok (.iload_n 1, 1) := by decide +kernel
theorem d257_37 : decode cX9_size 37 = .ok (.iaload, 1) := by decide +kernel
theorem d257_38 : decode cX9_size 38 = .ok (.ireturn, 1) := by decide +kernel
theorem d257_39 : decode cX9_size 39 = .ok (.iload_n 1, 1) := by decide +kernel
theorem d257_40 : decode cX9_size 40 = .ok (.tableswitch 94 6 12 #[44, 49, 57, 65, 73, 81, 89], 44) := by decide +kernel
theorem d257_84 : decode cX9_size 84 = .ok (.aload_n 0, 1) := by decide +kernel
theorem d257_85 : decode cX9_size 85 = .ok (.invokevirtual 332, 3) := by decide +kernel
theorem d257_88 : decode cX9_size 88 = .ok (.ireturn, 1) := by decide +kernel
theorem d257_89 : decode cX9_size 89 = .ok (.aload_n 0, 1) := by decide +kernel
theorem d257_90 : decode cX9_size 90 = .ok (.getfield 9, 3) := by decide +kernel
theorem d257_93 : decode cX9_size 93 = .ok (.bipush 6, 2) := by decide +kernel
theorem d257_95 : decode cX9_size 95 = .ok (.iaload, 1) := by decide +kernel
theorem d257_96 : decode cX9_size 96 = .ok (.ireturn, 1) := by decide +kernel
theorem d257_97 : decode cX9_size 97 = .ok (.aload_n 0, 1) := by decide +kernel
theorem d257_98 : decode cX9_size 98 = .ok (.getfield 9, 3) := by decide +kernel
theorem d257_101 : decode cX9_size 101 = .ok (.bipush 7, 2) := by decide +kernel
theorem d257_103 : decode cX9_size 103 = .ok (.iaload, 1) := by decide +kernel
theorem d257_104 : decode cX9_size 104 = .ok (.ireturn, 1) := by decide +kernel
theorem d257_105 : decode cX9_size 105 = .ok (.aload_n 0, 1) := by decide +kernel
theorem d257_106 : decode cX9_size 106 = .ok (.getfield 9, 3) := by decide +kernel
theorem d257_109 : decode cX9_size 109 = .ok (.bipush 8, 2) := by decide +kernel
theorem d257_111 : decode cX9_size 111 = .ok (.iaload, 1) := by decide +kernel
theorem d257_112 : decode cX9_size 112 = .ok (.ireturn, 1) := by decide +kernel
theorem d257_113 : decode cX9_size 113 = .ok (.aload_n 0, 1) := by decide +kernel
theorem d257_114 : decode cX9_size 114 = .ok (.getfield 9, 3) := by decide +kernel
theorem d257_117 : decode cX9_size 117 = .ok (.bipush 9, 2) := by decide +kernel
theorem d257_119 : decode cX9_size 119 = .ok (.iaload, 1) := by decide +kernel
theorem d257_120 : decode cX9_size 120 = .ok (.ireturn, 1) := by decide +kernel
theorem d257_121 : decode cX9_size 121 = .ok (.aload_n 0, 1) := by decide +kernel
theorem d257_122 : decode cX9_size 122 = .ok (.getfield 9, 3) := by decide +kernel
theorem d257_125 : decode cX9_size 125 = .ok (.bipush 10, 2) := by decide +kernel
theorem d257_127 : decode cX9_size 127 = .ok (.iaload, 1) := by decide +kernel
theorem d257_128 : decode cX9_size 128 = .ok (.ireturn, 1) := by decide +kernel
theorem d257_129 : decode cX9_size 129 = .ok (.aload_n 0, 1) := by decide +kernel
theorem d257_130 : decode cX9_size 130 = .ok (.invokevirtual 335, 3) := by decide +kernel
theorem d257_133 : decode cX9_size 133 = .ok (.ireturn, 1) := by decide +kernel
theorem d257_134 : decode cX9_size 134 = .ok (.aload_n 0, 1) := by decide +kernel
theorem d257_135 : decode cX9_size 135 = .ok (.getfield 53, 3) := by decide +kernel
theorem d257_138 : decode cX9_size 138 = .ok (.ireturn, 1) := by decide +kernel
theorem v257_0 {w : PW} {Q : PO → PW → Prop} {x1 : Int} (hs : Sh w) (hx1 : bd x1) (h : ((((0 : Int64)).toInt ≤ (i2L x1).toInt ∧ (i2L x1).toInt ≤ ((13 : Int64)).toInt) → ∀ w2 : PW, w2 = sI w 169 0 0 → (6 ≤ x1 → (x1 < 6 ∨ 12 < x1 → Q (.inl (some (iv (gI w2 169 6)))) w2) ∧ (x1 = 6 → pC 248 [.ref 169] w2 (kI fun u6 w5 => Sh w5 ∧ Q (.inl (some (iv u6))) w5)) ∧ (x1 = 7 → Q (.inl (some (iv (gI w2 170 6)))) w2) ∧ (x1 = 8 → Q (.inl (some (iv (gI w2 170 7)))) w2) ∧ (x1 = 9 → Q (.inl (some (iv (gI w2 170 8)))) w2) ∧ (x1 = 10 → Q (.inl (some (iv (gI w2 170 9)))) w2) ∧ (x1 = 11 → Q (.inl (some (iv (gI w2 170 10)))) w2) ∧ (x1 = 12 → pC 256 [.ref 169] w2 (kI fun u8 w7 => Sh w7 ∧ Q (.inl (some (iv u8))) w7))) ∧ (x1 < 6 → (0 ≤ x1 ∧ x1 < 843) ∧ Q (.inl (some (iv (gI w2 170 x1.toNat)))) w2)) ∧ ((¬ (((0 : Int64)).toInt ≤ (i2L x1).toInt ∧ (i2L x1).toInt ≤ ((13 : Int64)).toInt)) → ∀ w9 : PW, w9 = sI w 169 0 1 → Q (.inl (some (iv 0))) w9)) : pX 257 0 [some (.ref 169), some (iv x1)] [] w Q :=
  w_f b257 d257_0 rfl rfl rfl <| w_f b257 d257_1 rfl rfl rfl <| w_f b257 d257_2 rfl rfl rfl <| w_f b257 d257_3 rfl rfl rfl <| w_ldcL b257 d257_4 rfl rfl <| w_cc b257 d257_7 rfl (pcl_s1 (n := 3) rfl rfl rfl (by decide +kernel) rfl rfl) rfl <| c221 hs <| w_ifneZ b257 d257_10 rfl rfl (p257 _ _) (fun c1 => w_f b257 d257_17 rfl rfl rfl <| w_cc b257 d257_18 rfl (pcl_v (n := 1) rfl rfl rfl (by decide +kernel) (sh_isOb hs (tlt 169 rfl) tbC_169) rfl rfl) rfl <| c245 hs ⟨by decide, by decide⟩ (by decide) <| w_ifeq b257 d257_21 rfl rfl (p257 _ _) ⟨by decide, by decide⟩ (fun _ => w_f b257 d257_26 rfl rfl rfl <| w_f b257 d257_27 rfl rfl rfl <| w_icge b257 d257_29 rfl rfl (p257 _ _) hx1 ⟨by decide, by decide⟩ (fun c3 => w_f b257 d257_39 rfl rfl rfl <| Decidable.byCases (p := x1 < 6 ∨ 12 < x1) (fun c4 => w_tsO b257 d257_40 rfl (p257 _ _) hx1 c4 <| w_f b257 d257_134 rfl rfl rfl <| w_gi b257 d257_135 rfl rfl (Sh_sI hs (slt_o tbC_169 rfl)) (tlt 169 rfl) tbC_169 rfl <| w_ri b257 d257_138 r257 ((((h.1 c1) _ rfl).1 c3).1 c4)) (fun cz => Decidable.byCases (p := x1 = 6) (fun c4 => w_tsI (off := 44) b257 d257_40 rfl (p257 _ _) hx1 cz (by rw [c4]; rfl) <| w_f b257 d257_84 rfl rfl rfl <| w_c b257 d257_85 rfl (pcl_v (n := 0) rfl rfl rfl (by decide +kernel) (sh_isOb (Sh_sI hs (slt_o tbC_169 rfl)) (tlt 169 rfl) tbC_169) rfl rfl) rfl _ (hK_I fun u6 w5 hbu6 hkw5 => w_ri b257 d257_88 r257 hkw5.2) ((((h.1 c1) _ rfl).1 c3).2.1 c4)) (fun cn0 => Decidable.byCases (p := x1 = 7) (fun c4 => w_tsI (off := 49) b257 d257_40 rfl (p257 _ _) hx1 cz (by rw [c4]; rfl) <| w_f b257 d257_89 rfl rfl rfl <| w_gr b257 d257_90 rfl rfl (Sh_sI hs (slt_o tbC_169 rfl)) (tlt 169 rfl) tbC_169 rfl (by decide) <| w_f b257 d257_93 rfl rfl rfl <| w_ial b257 d257_95 rfl (Sh_sI hs (slt_o tbC_169 rfl)) (tlt 170 rfl) tbC_170 (bdix (n := 843) ⟨by decide, by decide⟩ rfl) ⟨by decide, by decide⟩ <| w_ri b257 d257_96 r257 ((((h.1 c1) _ rfl).1 c3).2.2.1 c4)) (fun cn1 => Decidable.byCases (p := x1 = 8) (fun c4 => w_tsI (off := 57) b257 d257_40 rfl (p257 _ _) hx1 cz (by rw [c4]; rfl) <| w_f b257 d257_97 rfl rfl rfl <| w_gr b257 d257_98 rfl rfl (Sh_sI hs (slt_o tbC_169 rfl)) (tlt 169 rfl) tbC_169 rfl (by decide) <| w_f b257 d257_101 rfl rfl rfl <| w_ial b257 d257_103 rfl (Sh_sI hs (slt_o tbC_169 rfl)) (tlt 170 rfl) tbC_170 (bdix (n := 843) ⟨by decide, by decide⟩ rfl) ⟨by decide, by decide⟩ <| w_ri b257 d257_104 r257 ((((h.1 c1) _ rfl).1 c3).2.2.2.1 c4)) (fun cn2 => Decidable.byCases (p := x1 = 9) (fun c4 => w_tsI (off := 65) b257 d257_40 rfl (p257 _ _) hx1 cz (by rw [c4]; rfl) <| w_f b257 d257_105 rfl rfl rfl <| w_gr b257 d257_106 rfl rfl (Sh_sI hs (slt_o tbC_169 rfl)) (tlt 169 rfl) tbC_169 rfl (by decide) <| w_f b257 d257_109 rfl rfl rfl <| w_ial b257 d257_111 rfl (Sh_sI hs (slt_o tbC_169 rfl)) (tlt 170 rfl) tbC_170 (bdix (n := 843) ⟨by decide, by decide⟩ rfl) ⟨by decide, by decide⟩ <| w_ri b257 d257_112 r257 ((((h.1 c1) _ rfl).1 c3).2.2.2.2.1 c4)) (fun cn3 => Decidable.byCases (p := x1 = 10) (fun c4 => w_tsI (off := 73) b257 d257_40 rfl (p257 _ _) hx1 cz (by rw [c4]; rfl) <| w_f b257 d257_113 rfl rfl rfl <| w_gr b257 d257_114 rfl rfl (Sh_sI hs (slt_o tbC_169 rfl)) (tlt 169 rfl) tbC_169 rfl (by decide) <| w_f b257 d257_117 rfl rfl rfl <| w_ial b257 d257_119 rfl (Sh_sI hs (slt_o tbC_169 rfl)) (tlt 170 rfl) tbC_170 (bdix (n := 843) ⟨by decide, by decide⟩ rfl) ⟨by decide, by decide⟩ <| w_ri b257 d257_120 r257 ((((h.1 c1) _ rfl).1 c3).2.2.2.2.2.1 c4)) (fun cn4 => Decidable.byCases (p := x1 = 11) (fun c4 => w_tsI (off := 81) b257 d257_40 rfl (p257 _ _) hx1 cz (by rw [c4]; rfl) <| w_f b257 d257_121 rfl rfl rfl <| w_gr b257 d257_122 rfl rfl (Sh_sI hs (slt_o tbC_169 rfl)) (tlt 169 rfl) tbC_169 rfl (by decide) <| w_f b257 d257_125 rfl rfl rfl <| w_ial b257 d257_127 rfl (Sh_sI hs (slt_o tbC_169 rfl)) (tlt 170 rfl) tbC_170 (bdix (n := 843) ⟨by decide, by decide⟩ rfl) ⟨by decide, by decide⟩ <| w_ri b257 d257_128 r257 ((((h.1 c1) _ rfl).1 c3).2.2.2.2.2.2.1 c4)) (fun cn5 => have c4 : x1 = 12 := by omega
  w_tsI (off := 89) b257 d257_40 rfl (p257 _ _) hx1 cz (by rw [c4]; rfl) <| w_f b257 d257_129 rfl rfl rfl <| w_c b257 d257_130 rfl (pcl_v (n := 0) rfl rfl rfl (by decide +kernel) (sh_isOb (Sh_sI hs (slt_o tbC_169 rfl)) (tlt 169 rfl) tbC_169) rfl rfl) rfl _ (hK_I fun u8 w7 hbu8 hkw7 => w_ri b257 d257_133 r257 hkw7.2) ((((h.1 c1) _ rfl).1 c3).2.2.2.2.2.2.2 c4))))))))) (fun c3 => w_f b257 d257_32 rfl rfl rfl <| w_gr b257 d257_33 rfl rfl (Sh_sI hs (slt_o tbC_169 rfl)) (tlt 169 rfl) tbC_169 rfl (by decide) <| w_f b257 d257_36 rfl rfl rfl <| w_ial b257 d257_37 rfl (Sh_sI hs (slt_o tbC_169 rfl)) (tlt 170 rfl) tbC_170 (bdix (n := 843) (((h.1 c1) _ rfl).2 c3).1 rfl) (((h.1 c1) _ rfl).2 c3).1 <| w_ri b257 d257_38 r257 (((h.1 c1) _ rfl).2 c3).2)) (fun c => absurd c (by decide))) (fun c1 => w_f b257 d257_13 rfl rfl rfl <| w_j b257 d257_14 rfl (p257 _ _) <| w_cc b257 d257_18 rfl (pcl_v (n := 1) rfl rfl rfl (by decide +kernel) (sh_isOb hs (tlt 169 rfl) tbC_169) rfl rfl) rfl <| c245 hs ⟨by decide, by decide⟩ (by decide) <| w_ifeq b257 d257_21 rfl rfl (p257 _ _) ⟨by decide, by decide⟩ (fun c => absurd c (by decide)) (fun _ => w_f b257 d257_24 rfl rfl rfl <| w_ri b257 d257_25 r257 ((h.2 c1) _ rfl)))
theorem e257 {w : PW} {Q : PO → PW → Prop} {x1 : Int} (hs : Sh w) (hx1 : bd x1) (h : ((((0 : Int64)).toInt ≤ (i2L x1).toInt ∧ (i2L x1).toInt ≤ ((13 : Int64)).toInt) → ∀ w2 : PW, w2 = sI w 169 0 0 → (6 ≤ x1 → (x1 < 6 ∨ 12 < x1 → Q (.inl (some (iv (gI w2 169 6)))) w2) ∧ (x1 = 6 → pC 248 [.ref 169] w2 (kI fun u6 w5 => Sh w5 ∧ Q (.inl (some (iv u6))) w5)) ∧ (x1 = 7 → Q (.inl (some (iv (gI w2 170 6)))) w2) ∧ (x1 = 8 → Q (.inl (some (iv (gI w2 170 7)))) w2) ∧ (x1 = 9 → Q (.inl (some (iv (gI w2 170 8)))) w2) ∧ (x1 = 10 → Q (.inl (some (iv (gI w2 170 9)))) w2) ∧ (x1 = 11 → Q (.inl (some (iv (gI w2 170 10)))) w2) ∧ (x1 = 12 → pC 256 [.ref 169] w2 (kI fun u8 w7 => Sh w7 ∧ Q (.inl (some (iv u8))) w7))) ∧ (x1 < 6 → (0 ≤ x1 ∧ x1 < 843) ∧ Q (.inl (some (iv (gI w2 170 x1.toNat)))) w2)) ∧ ((¬ (((0 : Int64)).toInt ≤ (i2L x1).toInt ∧ (i2L x1).toInt ≤ ((13 : Int64)).toInt)) → ∀ w9 : PW, w9 = sI w 169 0 1 → Q (.inl (some (iv 0))) w9)) : pC 257 [.ref 169, iv x1] w Q :=
  (pC_in (Nat.le_of_ble_eq_true rfl) rfl Q).mpr (v257_0 hs hx1 h)
/-! 264: PinBarrelModel.ringsAgain(I)I -/
theorem b264 : mB 264 = cX9_ringsAgain := rfl
theorem r264 : mR 264 = (some .int) := rfl
theorem p264 (a b : Nat) : phi 264 a ≤ phi 264 b := Nat.le_refl 0
theorem d264_0 : decode cX9_ringsAgain 0 = .ok (.aload_n 0, 1) := by decide +kernel
theorem d264_1 : decode cX9_ringsAgain 1 = .ok (.iload_n 1, 1) := by decide +kernel
theorem d264_2 : decode cX9_ringsAgain 2 = .ok (.iconst 4, 1) := by decide +kernel
theorem d264_3 : decode cX9_ringsAgain 3 = .ok (.invokevirtual 219, 3) := by decide +kernel
theorem d264_6 : decode cX9_ringsAgain 6 = .ok (.iconst (-1), 1) := by decide +kernel
theorem d264_7 : decode cX9_ringsAgain 7 = .ok (.if_icmp .ne 7, 3) := by decide +kernel
theorem d264_10 : decode cX9_ringsAgain 10 = .ok (.iconst 0, 1) := by decide +kernel
theorem d264_11 : decode cX9_ringsAgain 11 = .ok (.goto 27, 3) := by decide +kernel
theorem d264_14 : decode cX9_ringsAgain 14 = .ok (.iconst 0, 1) := by decide +kernel
theorem d264_15 : decode cX9_ringsAgain 15 = .ok (.aload_n 0, 1) := by decide +kernel
theorem d264_16 : decode cX9_ringsAgain 16 = .ok (.iload_n 1, 1) := by decide +kernel
theorem d264_17 : decode cX9_ringsAgain 17 = .ok (.iconst 4, 1) := by decide +kernel
theorem d264_18 : decode cX9_ringsAgain 18 = .ok (.invokevirtual 219, 3) := by decide +kernel
theorem d264_21 : decode cX9_ringsAgain 21 = .ok (.aload_n 0, 1) := by decide +kernel
theorem d264_22 : decode cX9_ringsAgain 22 = .ok (.iload_n 1, 1) := by decide +kernel
theorem d264_23 : decode cX9_ringsAgain 23 = .ok (.invokevirtual 238, 3) := by decide +kernel
theorem d264_26 : decode cX9_ringsAgain 26 = .ok (.iadd, 1) := by decide +kernel
theorem d264_27 : decode cX9_ringsAgain 27 = .ok (.aload_n 0, 1) := by decide +kernel
theorem d264_28 : decode cX9_ringsAgain 28 = .ok (.getfield 9, 3) := by decide +kernel
theorem d264_31 : decode cX9_ringsAgain 31 = .ok (.bipush 8, 2) := by decide +kernel
theorem d264_33 : decode cX9_ringsAgain 33 = .ok (.iaload, 1) := by decide +kernel
theorem d264_34 : decode cX9_ringsAgain 34 = .ok (.isub, 1) := by decide +kernel
theorem d264_35 : decode cX9_ringsAgain 35 = .ok (.invokestatic 346, 3) := by decide +kernel
theorem d264_38 : decode cX9_ringsAgain 38 = .ok (.ireturn, 1) := by decide +kernel
theorem v264_0 {w : PW} {Q : PO → PW → Prop} {x1 : Int} (hs : Sh w) (hx1 : bd x1) (h : (0 ≤ (11 + 5 * x1) + 4 ∧ (11 + 5 * x1) + 4 < 843) ∧ ((gI w 170 ((11 + 5 * x1) + 4).toNat) ≠ ((-1)) → (0 ≤ (11 + 5 * x1) + 4 ∧ (11 + 5 * x1) + 4 < 843) ∧ (0 ≤ (11 + 5 * x1) + 1 ∧ (11 + 5 * x1) + 1 < 843) ∧ (bd (((gI w 170 ((11 + 5 * x1) + 4).toNat) + ((gI w 170 ((11 + 5 * x1) + 1).toNat) * (gI w 170 3))) - (gI w 170 8))) ∧ Q (.inl (some (iv (max 0 (((gI w 170 ((11 + 5 * x1) + 4).toNat) + ((gI w 170 ((11 + 5 * x1) + 1).toNat) * (gI w 170 3))) - (gI w 170 8)))))) w) ∧ ((gI w 170 ((11 + 5 * x1) + 4).toNat) = ((-1)) → Q (.inl (some (iv 0))) w)) : pX 264 0 [some (.ref 169), some (iv x1)] [] w Q :=
  w_f b264 d264_0 rfl rfl rfl <| w_f b264 d264_1 rfl rfl rfl <| w_f b264 d264_2 rfl rfl rfl <| w_cc b264 d264_3 rfl (pcl_v (n := 2) rfl rfl rfl (by decide +kernel) (sh_isOb hs (tlt 169 rfl) tbC_169) rfl rfl) rfl <| c261 hs hx1 ⟨by decide, by decide⟩ h.1 <| w_f b264 d264_6 rfl rfl rfl <| w_icne b264 d264_7 rfl rfl (p264 _ _) (bd_gI _ _ _) ⟨by decide, by decide⟩ (fun c1 => w_f b264 d264_14 rfl rfl rfl <| w_f b264 d264_15 rfl rfl rfl <| w_f b264 d264_16 rfl rfl rfl <| w_f b264 d264_17 rfl rfl rfl <| w_cc b264 d264_18 rfl (pcl_v (n := 2) rfl rfl rfl (by decide +kernel) (sh_isOb hs (tlt 169 rfl) tbC_169) rfl rfl) rfl <| c261 hs hx1 ⟨by decide, by decide⟩ (h.2.1 c1).1 <| w_f b264 d264_21 rfl rfl rfl <| w_f b264 d264_22 rfl rfl rfl <| w_cc b264 d264_23 rfl (pcl_v (n := 1) rfl rfl rfl (by decide +kernel) (sh_isOb hs (tlt 169 rfl) tbC_169) rfl rfl) rfl <| c262 hs hx1 (h.2.1 c1).2.1 <| w_f b264 d264_26 rfl (pf_iadd (gI w 170 ((11 + 5 * x1) + 4).toNat) ((gI w 170 ((11 + 5 * x1) + 1).toNat) * (gI w 170 3))) rfl <| w_f b264 d264_27 rfl rfl rfl <| w_gr b264 d264_28 rfl rfl hs (tlt 169 rfl) tbC_169 rfl (by decide) <| w_f b264 d264_31 rfl rfl rfl <| w_ial b264 d264_33 rfl hs (tlt 170 rfl) tbC_170 (bdix (n := 843) ⟨by decide, by decide⟩ rfl) ⟨by decide, by decide⟩ <| w_f b264 d264_34 rfl (pf_isub ((gI w 170 ((11 + 5 * x1) + 4).toNat) + ((gI w 170 ((11 + 5 * x1) + 1).toNat) * (gI w 170 3))) (gI w 170 8)) rfl <| w_max b264 d264_35 rfl rfl rfl ⟨by decide, by decide⟩ (h.2.1 c1).2.2.1 <| w_ri b264 d264_38 r264 (h.2.1 c1).2.2.2) (fun c1 => w_f b264 d264_10 rfl rfl rfl <| w_j b264 d264_11 rfl (p264 _ _) <| w_ri b264 d264_38 r264 (h.2.2 c1))
theorem e264 {w : PW} {Q : PO → PW → Prop} {x1 : Int} (hs : Sh w) (hx1 : bd x1) (h : (0 ≤ (11 + 5 * x1) + 4 ∧ (11 + 5 * x1) + 4 < 843) ∧ ((gI w 170 ((11 + 5 * x1) + 4).toNat) ≠ ((-1)) → (0 ≤ (11 + 5 * x1) + 4 ∧ (11 + 5 * x1) + 4 < 843) ∧ (0 ≤ (11 + 5 * x1) + 1 ∧ (11 + 5 * x1) + 1 < 843) ∧ (bd (((gI w 170 ((11 + 5 * x1) + 4).toNat) + ((gI w 170 ((11 + 5 * x1) + 1).toNat) * (gI w 170 3))) - (gI w 170 8))) ∧ Q (.inl (some (iv (max 0 (((gI w 170 ((11 + 5 * x1) + 4).toNat) + ((gI w 170 ((11 + 5 * x1) + 1).toNat) * (gI w 170 3))) - (gI w 170 8)))))) w) ∧ ((gI w 170 ((11 + 5 * x1) + 4).toNat) = ((-1)) → Q (.inl (some (iv 0))) w)) : pC 264 [.ref 169, iv x1] w Q :=
  (pC_in (Nat.le_of_ble_eq_true rfl) rfl Q).mpr (v264_0 hs hx1 h)
/-! 265: PinBarrelModel.tooth(II)I -/
theorem b265 : mB 265 = cX9_tooth := rfl
theorem r265 : mR 265 = (some .int) := rfl
theorem p265 (a b : Nat) : phi 265 a ≤ phi 265 b := Nat.le_refl 0
theorem d265_0 : decode cX9_tooth 0 = .ok (.aload_n 0, 1) := by decide +kernel
theorem d265_1 : decode cX9_tooth 1 = .ok (.iload_n 1, 1) := by decide +kernel
theorem d265_2 : decode cX9_tooth 2 = .ok (.invokevirtual 351, 3) := by decide +kernel
theorem d265_5 : decode cX9_tooth 5 = .ok (.ifCond .ne 28, 3) := by decide +kernel
theorem d265_8 : decode cX9_tooth 8 = .ok (.aload_n 0, 1) := by decide +kernel
theorem d265_9 : decode cX9_tooth 9 = .ok (.iload_n 2, 1) := by decide +kernel
theorem d265_10 : decode cX9_tooth 10 = .ok (.i2l, 1) := by decide +kernel
theorem d265_11 : decode cX9_tooth 11 = .ok (.lconst 0, 1) := by decide +kernel
theorem d265_12 : decode cX9_tooth 12 = .ok (.ldc2_w 354, 3) := by decide +kernel
theorem d265_15 : decode cX9_tooth 15 = .ok (.invokestatic 81, 3) := by decide +kernel
theorem d265_18 : decode cX9_tooth 18 = .ok (.ifCond .ne 7, 3) := by decide +kernel
theorem d265_21 : decode cX9_tooth 21 = .ok (.iconst 1, 1) := by decide +kernel
theorem d265_22 : decode cX9_tooth 22 = .ok (.goto 4, 3) := by decide +kernel
theorem d265_25 : decode cX9_tooth 25 = .ok (.iconst 0, 1) := by decide +kernel
theorem d265_26 : decode cX9_tooth 26 = .ok (.iconst 2, 1) := by decide +kernel
theorem d265_27 : decode cX9_tooth 27 = .ok (.invokevirtual 356, 3) := by decide +kernel
theorem d265_30 : decode cX9_tooth 30 = .ok (.ifCond .eq 5, 3) := by decide +kernel
theorem d265_33 : decode cX9_tooth 33 = .ok (.iconst 0, 1) := by decide +kernel
theorem d265_34 : decode cX9_tooth 34 = .ok (.ireturn, 1) := by decide +kernel
theorem d265_35 : decode cX9_tooth 35 = .ok (.iload_n 2, 1) := by decide +kernel
theorem d265_36 : decode cX9_tooth 36 = .ok (.tableswitch 91 0 6 #[44, 51, 58, 64, 70, 77, 84], 44) := by decide +kernel
theorem d265_80 : decode cX9_tooth 80 = .ok (.aload_n 0, 1) := by decide +kernel
theorem d265_81 : decode cX9_tooth 81 = .ok (.iload_n 1, 1) := by decide +kernel
theorem d265_82 : decode cX9_tooth 82 = .ok (.iconst 0, 1) := by decide +kernel
theorem d265_83 : decode cX9_tooth 83 = .ok (.invokevirtual 219, 3) := by decide +kernel
theorem d265_86 : decode cX9_tooth 86 = .ok (.ireturn, 1) := by decide +kernel
theorem d265_87 : decode cX9_tooth 87 = .ok (.aload_n 0, 1) := by decide +kernel
theorem d265_88 : decode cX9_tooth 88 = .ok (.iload_n 1, 1) := by decide +kernel
theorem d265_89 : decode cX9_tooth 89 = .ok (.iconst 1, 1) := by decide +kernel
theorem d265_90 : decode cX9_tooth 90 = .ok (.invokevirtual 219, 3) := by decide +kernel
theorem d265_93 : decode cX9_tooth 93 = .ok (.ireturn, 1) := by decide +kernel
theorem d265_94 : decode cX9_tooth 94 = .ok (.aload_n 0, 1) := by decide +kernel
theorem d265_95 : decode cX9_tooth 95 = .ok (.iload_n 1, 1) := by decide +kernel
theorem d265_96 : decode cX9_tooth 96 = .ok (.invokevirtual 238, 3) := by decide +kernel
theorem d265_99 : decode cX9_tooth 99 = .ok (.ireturn, 1) := by decide +kernel
theorem d265_100 : decode cX9_tooth 100 = .ok (.aload_n 0, 1) := by decide +kernel
theorem d265_101 : decode cX9_tooth 101 = .ok (.iload_n 1, 1) := by decide +kernel
theorem d265_102 : decode cX9_tooth 102 = .ok (.invokevirtual 360, 3) := by decide +kernel
theorem d265_105 : decode cX9_tooth 105 = .ok (.ireturn, 1) := by decide +kernel
theorem d265_106 : decode cX9_tooth 106 = .ok (.aload_n 0, 1) := by decide +kernel
theorem d265_107 : decode cX9_tooth 107 = .ok (.iload_n 1, 1) := by decide +kernel
theorem d265_108 : decode cX9_tooth 108 = .ok (.iconst 2, 1) := by decide +kernel
theorem d265_109 : decode cX9_tooth 109 = .ok (.invokevirtual 219, 3) := by decide +kernel
theorem d265_112 : decode cX9_tooth 112 = .ok (.ireturn, 1) := by decide +kernel
theorem d265_113 : decode cX9_tooth 113 = .ok (.aload_n 0, 1) := by decide +kernel
theorem d265_114 : decode cX9_tooth 114 = .ok (.iload_n 1, 1) := by decide +kernel
theorem d265_115 : decode cX9_tooth 115 = .ok (.iconst 3, 1) := by decide +kernel
theorem d265_116 : decode cX9_tooth 116 = .ok (.invokevirtual 219, 3) := by decide +kernel
theorem d265_119 : decode cX9_tooth 119 = .ok (.ireturn, 1) := by decide +kernel
theorem d265_120 : decode cX9_tooth 120 = .ok (.aload_n 0, 1) := by decide +kernel
theorem d265_121 : decode cX9_tooth 121 = .ok (.iload_n 1, 1) := by decide +kernel
theorem d265_122 : decode cX9_tooth 122 = .ok (.iconst 4, 1) := by decide +kernel
theorem d265_123 : decode cX9_tooth 123 = .ok (.invokevirtual 219, 3) := by decide +kernel
theorem d265_126 : decode cX9_tooth 126 = .ok (.ireturn, 1) := by decide +kernel
theorem d265_127 : decode cX9_tooth 127 = .ok (.aload_n 0, 1) := by decide +kernel
theorem d265_128 : decode cX9_tooth 128 = .ok (.iload_n 1, 1) := by decide +kernel
theorem d265_129 : decode cX9_tooth 129 = .ok (.invokevirtual 363, 3) := by decide +kernel
theorem d265_132 : decode cX9_tooth 132 = .ok (.ireturn, 1) := by decide +kernel
theorem v265_0 {w : PW} {Q : PO → PW → Prop} {x1 : Int} {x2 : Int} (hs : Sh w) (hx1 : bd x1) (hx2 : bd x2) (h : (bd ((gI w 170 4) - 1)) ∧ ((0 ≤ x1 ∧ x1 < gI w 170 4) → ∀ w2 : PW, w2 = sI w 169 0 0 → ((((0 : Int64)).toInt ≤ (i2L x2).toInt ∧ (i2L x2).toInt ≤ ((7 : Int64)).toInt) → (x2 < 0 ∨ 6 < x2 → pC 264 [.ref 169, iv x1] w2 (kI fun u6 w5 => Sh w5 ∧ Q (.inl (some (iv u6))) w5)) ∧ (x2 = 0 → (0 ≤ (11 + 5 * x1) + 0 ∧ (11 + 5 * x1) + 0 < 843) ∧ Q (.inl (some (iv (gI w2 170 ((11 + 5 * x1) + 0).toNat)))) w2) ∧ (x2 = 1 → (0 ≤ (11 + 5 * x1) + 1 ∧ (11 + 5 * x1) + 1 < 843) ∧ Q (.inl (some (iv (gI w2 170 ((11 + 5 * x1) + 1).toNat)))) w2) ∧ (x2 = 2 → (0 ≤ (11 + 5 * x1) + 1 ∧ (11 + 5 * x1) + 1 < 843) ∧ Q (.inl (some (iv ((gI w2 170 ((11 + 5 * x1) + 1).toNat) * (gI w2 170 3))))) w2) ∧ (x2 = 3 → pC 263 [.ref 169, iv x1] w2 (kI fun u8 w7 => Sh w7 ∧ Q (.inl (some (iv u8))) w7)) ∧ (x2 = 4 → (0 ≤ (11 + 5 * x1) + 2 ∧ (11 + 5 * x1) + 2 < 843) ∧ Q (.inl (some (iv (gI w2 170 ((11 + 5 * x1) + 2).toNat)))) w2) ∧ (x2 = 5 → (0 ≤ (11 + 5 * x1) + 3 ∧ (11 + 5 * x1) + 3 < 843) ∧ Q (.inl (some (iv (gI w2 170 ((11 + 5 * x1) + 3).toNat)))) w2) ∧ (x2 = 6 → (0 ≤ (11 + 5 * x1) + 4 ∧ (11 + 5 * x1) + 4 < 843) ∧ Q (.inl (some (iv (gI w2 170 ((11 + 5 * x1) + 4).toNat)))) w2)) ∧ ((¬ (((0 : Int64)).toInt ≤ (i2L x2).toInt ∧ (i2L x2).toInt ≤ ((7 : Int64)).toInt)) → ∀ w9 : PW, w9 = sI w2 169 0 2 → Q (.inl (some (iv 0))) w9)) ∧ ((¬ (0 ≤ x1 ∧ x1 < gI w 170 4)) → ∀ w11 : PW, w11 = sI w 169 0 1 → Q (.inl (some (iv 0))) w11)) : pX 265 0 [some (.ref 169), some (iv x1), some (iv x2)] [] w Q :=
  w_f b265 d265_0 rfl rfl rfl <| w_f b265 d265_1 rfl rfl rfl <| w_cc b265 d265_2 rfl (pcl_v (n := 1) rfl rfl rfl (by decide +kernel) (sh_isOb hs (tlt 169 rfl) tbC_169) rfl rfl) rfl <| c259 hs hx1 h.1 (fun c1 => w_ifne b265 d265_5 rfl rfl (p265 _ _) ⟨by decide, by decide⟩ (fun c => absurd c (by decide)) (fun _ => w_f b265 d265_8 rfl rfl rfl <| w_f b265 d265_9 rfl rfl rfl <| w_f b265 d265_10 rfl rfl rfl <| w_f b265 d265_11 rfl rfl rfl <| w_ldcL b265 d265_12 rfl rfl <| w_cc b265 d265_15 rfl (pcl_s1 (n := 3) rfl rfl rfl (by decide +kernel) rfl rfl) rfl <| c221 (Sh_sI hs (slt_o tbC_169 rfl)) <| w_ifneZ b265 d265_18 rfl rfl (p265 _ _) (fun c3 => w_f b265 d265_25 rfl rfl rfl <| w_f b265 d265_26 rfl rfl rfl <| w_cc b265 d265_27 rfl (pcl_v (n := 2) rfl rfl rfl (by decide +kernel) (sh_isOb (Sh_sI hs (slt_o tbC_169 rfl)) (tlt 169 rfl) tbC_169) rfl rfl) rfl <| c260a (Sh_sI hs (slt_o tbC_169 rfl)) ⟨by decide, by decide⟩ ⟨by decide, by decide⟩ <| w_ifeq b265 d265_30 rfl rfl (p265 _ _) ⟨by decide, by decide⟩ (fun _ => w_f b265 d265_35 rfl rfl rfl <| Decidable.byCases (p := x2 < 0 ∨ 6 < x2) (fun c4 => w_tsO b265 d265_36 rfl (p265 _ _) hx2 c4 <| w_f b265 d265_127 rfl rfl rfl <| w_f b265 d265_128 rfl rfl rfl <| w_c b265 d265_129 rfl (pcl_v (n := 1) rfl rfl rfl (by decide +kernel) (sh_isOb (Sh_sI hs (slt_o tbC_169 rfl)) (tlt 169 rfl) tbC_169) rfl rfl) rfl _ (hK_I fun u6 w5 hbu6 hkw5 => w_ri b265 d265_132 r265 hkw5.2) (((h.2.1 c1 _ rfl).1 c3).1 c4)) (fun cz => Decidable.byCases (p := x2 = 0) (fun c4 => w_tsI (off := 44) b265 d265_36 rfl (p265 _ _) hx2 cz (by rw [c4]; rfl) <| w_f b265 d265_80 rfl rfl rfl <| w_f b265 d265_81 rfl rfl rfl <| w_f b265 d265_82 rfl rfl rfl <| w_cc b265 d265_83 rfl (pcl_v (n := 2) rfl rfl rfl (by decide +kernel) (sh_isOb (Sh_sI hs (slt_o tbC_169 rfl)) (tlt 169 rfl) tbC_169) rfl rfl) rfl <| c261 (Sh_sI hs (slt_o tbC_169 rfl)) hx1 ⟨by decide, by decide⟩ (((h.2.1 c1 _ rfl).1 c3).2.1 c4).1 <| w_ri b265 d265_86 r265 (((h.2.1 c1 _ rfl).1 c3).2.1 c4).2) (fun cn0 => Decidable.byCases (p := x2 = 1) (fun c4 => w_tsI (off := 51) b265 d265_36 rfl (p265 _ _) hx2 cz (by rw [c4]; rfl) <| w_f b265 d265_87 rfl rfl rfl <| w_f b265 d265_88 rfl rfl rfl <| w_f b265 d265_89 rfl rfl rfl <| w_cc b265 d265_90 rfl (pcl_v (n := 2) rfl rfl rfl (by decide +kernel) (sh_isOb (Sh_sI hs (slt_o tbC_169 rfl)) (tlt 169 rfl) tbC_169) rfl rfl) rfl <| c261 (Sh_sI hs (slt_o tbC_169 rfl)) hx1 ⟨by decide, by decide⟩ (((h.2.1 c1 _ rfl).1 c3).2.2.1 c4).1 <| w_ri b265 d265_93 r265 (((h.2.1 c1 _ rfl).1 c3).2.2.1 c4).2) (fun cn1 => Decidable.byCases (p := x2 = 2) (fun c4 => w_tsI (off := 58) b265 d265_36 rfl (p265 _ _) hx2 cz (by rw [c4]; rfl) <| w_f b265 d265_94 rfl rfl rfl <| w_f b265 d265_95 rfl rfl rfl <| w_cc b265 d265_96 rfl (pcl_v (n := 1) rfl rfl rfl (by decide +kernel) (sh_isOb (Sh_sI hs (slt_o tbC_169 rfl)) (tlt 169 rfl) tbC_169) rfl rfl) rfl <| c262 (Sh_sI hs (slt_o tbC_169 rfl)) hx1 (((h.2.1 c1 _ rfl).1 c3).2.2.2.1 c4).1 <| w_ri b265 d265_99 r265 (((h.2.1 c1 _ rfl).1 c3).2.2.2.1 c4).2) (fun cn2 => Decidable.byCases (p := x2 = 3) (fun c4 => w_tsI (off := 64) b265 d265_36 rfl (p265 _ _) hx2 cz (by rw [c4]; rfl) <| w_f b265 d265_100 rfl rfl rfl <| w_f b265 d265_101 rfl rfl rfl <| w_c b265 d265_102 rfl (pcl_v (n := 1) rfl rfl rfl (by decide +kernel) (sh_isOb (Sh_sI hs (slt_o tbC_169 rfl)) (tlt 169 rfl) tbC_169) rfl rfl) rfl _ (hK_I fun u8 w7 hbu8 hkw7 => w_ri b265 d265_105 r265 hkw7.2) (((h.2.1 c1 _ rfl).1 c3).2.2.2.2.1 c4)) (fun cn3 => Decidable.byCases (p := x2 = 4) (fun c4 => w_tsI (off := 70) b265 d265_36 rfl (p265 _ _) hx2 cz (by rw [c4]; rfl) <| w_f b265 d265_106 rfl rfl rfl <| w_f b265 d265_107 rfl rfl rfl <| w_f b265 d265_108 rfl rfl rfl <| w_cc b265 d265_109 rfl (pcl_v (n := 2) rfl rfl rfl (by decide +kernel) (sh_isOb (Sh_sI hs (slt_o tbC_169 rfl)) (tlt 169 rfl) tbC_169) rfl rfl) rfl <| c261 (Sh_sI hs (slt_o tbC_169 rfl)) hx1 ⟨by decide, by decide⟩ (((h.2.1 c1 _ rfl).1 c3).2.2.2.2.2.1 c4).1 <| w_ri b265 d265_112 r265 (((h.2.1 c1 _ rfl).1 c3).2.2.2.2.2.1 c4).2) (fun cn4 => Decidable.byCases (p := x2 = 5) (fun c4 => w_tsI (off := 77) b265 d265_36 rfl (p265 _ _) hx2 cz (by rw [c4]; rfl) <| w_f b265 d265_113 rfl rfl rfl <| w_f b265 d265_114 rfl rfl rfl <| w_f b265 d265_115 rfl rfl rfl <| w_cc b265 d265_116 rfl (pcl_v (n := 2) rfl rfl rfl (by decide +kernel) (sh_isOb (Sh_sI hs (slt_o tbC_169 rfl)) (tlt 169 rfl) tbC_169) rfl rfl) rfl <| c261 (Sh_sI hs (slt_o tbC_169 rfl)) hx1 ⟨by decide, by decide⟩ (((h.2.1 c1 _ rfl).1 c3).2.2.2.2.2.2.1 c4).1 <| w_ri b265 d265_119 r265 (((h.2.1 c1 _ rfl).1 c3).2.2.2.2.2.2.1 c4).2) (fun cn5 => have c4 : x2 = 6 := by omega
  w_tsI (off := 84) b265 d265_36 rfl (p265 _ _) hx2 cz (by rw [c4]; rfl) <| w_f b265 d265_120 rfl rfl rfl <| w_f b265 d265_121 rfl rfl rfl <| w_f b265 d265_122 rfl rfl rfl <| w_cc b265 d265_123 rfl (pcl_v (n := 2) rfl rfl rfl (by decide +kernel) (sh_isOb (Sh_sI hs (slt_o tbC_169 rfl)) (tlt 169 rfl) tbC_169) rfl rfl) rfl <| c261 (Sh_sI hs (slt_o tbC_169 rfl)) hx1 ⟨by decide, by decide⟩ (((h.2.1 c1 _ rfl).1 c3).2.2.2.2.2.2.2 c4).1 <| w_ri b265 d265_126 r265 (((h.2.1 c1 _ rfl).1 c3).2.2.2.2.2.2.2 c4).2)))))))) (fun c => absurd c (by decide))) (fun c3 => w_f b265 d265_21 rfl rfl rfl <| w_j b265 d265_22 rfl (p265 _ _) <| w_f b265 d265_26 rfl rfl rfl <| w_cc b265 d265_27 rfl (pcl_v (n := 2) rfl rfl rfl (by decide +kernel) (sh_isOb (Sh_sI hs (slt_o tbC_169 rfl)) (tlt 169 rfl) tbC_169) rfl rfl) rfl <| c260b (Sh_sI hs (slt_o tbC_169 rfl)) ⟨by decide, by decide⟩ ⟨by decide, by decide⟩ <| w_ifeq b265 d265_30 rfl rfl (p265 _ _) ⟨by decide, by decide⟩ (fun c => absurd c (by decide)) (fun _ => w_f b265 d265_33 rfl rfl rfl <| w_ri b265 d265_34 r265 (((h.2.1 c1 _ rfl).2 c3) _ rfl))))) (fun c10 => w_ifne b265 d265_5 rfl rfl (p265 _ _) ⟨by decide, by decide⟩ (fun _ => w_f b265 d265_33 rfl rfl rfl <| w_ri b265 d265_34 r265 (h.2.2 c10 _ rfl)) (fun c => absurd c (by decide)))
theorem e265 {w : PW} {Q : PO → PW → Prop} {x1 : Int} {x2 : Int} (hs : Sh w) (hx1 : bd x1) (hx2 : bd x2) (h : (bd ((gI w 170 4) - 1)) ∧ ((0 ≤ x1 ∧ x1 < gI w 170 4) → ∀ w2 : PW, w2 = sI w 169 0 0 → ((((0 : Int64)).toInt ≤ (i2L x2).toInt ∧ (i2L x2).toInt ≤ ((7 : Int64)).toInt) → (x2 < 0 ∨ 6 < x2 → pC 264 [.ref 169, iv x1] w2 (kI fun u6 w5 => Sh w5 ∧ Q (.inl (some (iv u6))) w5)) ∧ (x2 = 0 → (0 ≤ (11 + 5 * x1) + 0 ∧ (11 + 5 * x1) + 0 < 843) ∧ Q (.inl (some (iv (gI w2 170 ((11 + 5 * x1) + 0).toNat)))) w2) ∧ (x2 = 1 → (0 ≤ (11 + 5 * x1) + 1 ∧ (11 + 5 * x1) + 1 < 843) ∧ Q (.inl (some (iv (gI w2 170 ((11 + 5 * x1) + 1).toNat)))) w2) ∧ (x2 = 2 → (0 ≤ (11 + 5 * x1) + 1 ∧ (11 + 5 * x1) + 1 < 843) ∧ Q (.inl (some (iv ((gI w2 170 ((11 + 5 * x1) + 1).toNat) * (gI w2 170 3))))) w2) ∧ (x2 = 3 → pC 263 [.ref 169, iv x1] w2 (kI fun u8 w7 => Sh w7 ∧ Q (.inl (some (iv u8))) w7)) ∧ (x2 = 4 → (0 ≤ (11 + 5 * x1) + 2 ∧ (11 + 5 * x1) + 2 < 843) ∧ Q (.inl (some (iv (gI w2 170 ((11 + 5 * x1) + 2).toNat)))) w2) ∧ (x2 = 5 → (0 ≤ (11 + 5 * x1) + 3 ∧ (11 + 5 * x1) + 3 < 843) ∧ Q (.inl (some (iv (gI w2 170 ((11 + 5 * x1) + 3).toNat)))) w2) ∧ (x2 = 6 → (0 ≤ (11 + 5 * x1) + 4 ∧ (11 + 5 * x1) + 4 < 843) ∧ Q (.inl (some (iv (gI w2 170 ((11 + 5 * x1) + 4).toNat)))) w2)) ∧ ((¬ (((0 : Int64)).toInt ≤ (i2L x2).toInt ∧ (i2L x2).toInt ≤ ((7 : Int64)).toInt)) → ∀ w9 : PW, w9 = sI w2 169 0 2 → Q (.inl (some (iv 0))) w9)) ∧ ((¬ (0 ≤ x1 ∧ x1 < gI w 170 4)) → ∀ w11 : PW, w11 = sI w 169 0 1 → Q (.inl (some (iv 0))) w11)) : pC 265 [.ref 169, iv x1, iv x2] w Q :=
  (pC_in (Nat.le_of_ble_eq_true rfl) rfl Q).mpr (v265_0 hs hx1 hx2 h)
/-! 270: PinBarrelModel.note(II)I -/
theorem b270 : mB 270 = cX9_note := rfl
theorem r270 : mR 270 = (some .int) := rfl
theorem p270 (a b : Nat) : phi 270 a ≤ phi 270 b := Nat.le_refl 0
theorem d270_0 : decode cX9_note 0 = .ok (.aload_n 0, 1) := by decide +kernel
theorem d270_1 : decode cX9_note 1 = .ok (.iload_n 1, 1) := by decide +kernel
theorem d270_2 : decode cX9_note 2 = .ok (.invokevirtual 366, 3) := by decide +kernel
theorem d270_5 : decode cX9_note 5 = .ok (.ifCond .ne 28, 3) := by decide +kernel
theorem d270_8 : decode cX9_note 8 = .ok (.aload_n 0, 1) := by decide +kernel
theorem d270_9 : decode cX9_note 9 = .ok (.iload_n 2, 1) := by decide +kernel
theorem d270_10 : decode cX9_note 10 = .ok (.i2l, 1) := by decide +kernel
theorem d270_11 : decode cX9_note 11 = .ok (.lconst 0, 1) := by decide +kernel
theorem d270_12 : decode cX9_note 12 = .ok (.ldc2_w 369, 3) := by decide +kernel
theorem d270_15 : decode cX9_note 15 = .ok (.invokestatic 81, 3) := by decide +kernel
theorem d270_18 : decode cX9_note 18 = .ok (.ifCond .ne 7, 3) := by decide +kernel
theorem d270_21 : decode cX9_note 21 = .ok (.iconst 1, 1) := by decide +kernel
theorem d270_22 : decode cX9_note 22 = .ok (.goto 4, 3) := by decide +kernel
theorem d270_25 : decode cX9_note 25 = .ok (.iconst 0, 1) := by decide +kernel
theorem d270_26 : decode cX9_note 26 = .ok (.iconst 2, 1) := by decide +kernel
theorem d270_27 : decode cX9_note 27 = .ok (.invokevirtual 356, 3) := by decide +kernel
theorem d270_30 : decode cX9_note 30 = .ok (.ifCond .eq 5, 3) := by decide +kernel
theorem d270_33 : decode cX9_note 33 = .ok (.iconst 0, 1) := by decide +kernel
theorem d270_34 : decode cX9_note 34 = .ok (.ireturn, 1) := by decide +kernel
theorem d270_35 : decode cX9_note 35 = .ok (.iload_n 2, 1) := by decide +kernel
theorem d270_36 : decode cX9_note 36 = .ok (.iconst 3, 1) := by decide +kernel
theorem d270_37 : decode cX9_note 37 = .ok (.if_icmp .ne 11, 3) := by decide +kernel
theorem d270_40 : decode cX9_note 40 = .ok (.aload_n 0, 1) := by decide +kernel
theorem d270_41 : decode cX9_note 41 = .ok (.iload_n 1, 1) := by decide +kernel
theorem d270_42 : decode cX9_note 42 = .ok (.invokevirtual 289, 3) := by decide +kernel
theorem d270_45 : decode cX9_note 45 = .ok (.goto 9, 3) := by decide +kernel
theorem d270_48 : decode cX9_note 48 = .ok (.aload_n 0, 1) := by decide +kernel
theorem d270_49 : decode cX9_note 49 = .ok (.iload_n 1, 1) := by decide +kernel
theorem d270_50 : decode cX9_note 50 = .ok (.iload_n 2, 1) := by decide +kernel
theorem d270_51 : decode cX9_note 51 = .ok (.invokevirtual 283, 3) := by decide +kernel
theorem d270_54 : decode cX9_note 54 = .ok (.ireturn, 1) := by decide +kernel
theorem v270_0 {w : PW} {Q : PO → PW → Prop} {x1 : Int} {x2 : Int} (hs : Sh w) (hx1 : bd x1) (hx2 : bd x2) (h : (bd ((gI w 170 5) - 1)) ∧ ((0 ≤ x1 ∧ x1 < gI w 170 5) → ∀ w2 : PW, w2 = sI w 169 0 0 → ((((0 : Int64)).toInt ≤ (i2L x2).toInt ∧ (i2L x2).toInt ≤ ((3 : Int64)).toInt) → (x2 ≠ 3 → (0 ≤ (71 + 3 * x1) + x2 ∧ (71 + 3 * x1) + x2 < 843) ∧ Q (.inl (some (iv (gI w2 170 ((71 + 3 * x1) + x2).toNat)))) w2) ∧ (x2 = 3 → pC 269 [.ref 169, iv x1] w2 (kI fun u6 w5 => Sh w5 ∧ Q (.inl (some (iv u6))) w5))) ∧ ((¬ (((0 : Int64)).toInt ≤ (i2L x2).toInt ∧ (i2L x2).toInt ≤ ((3 : Int64)).toInt)) → ∀ w7 : PW, w7 = sI w2 169 0 2 → Q (.inl (some (iv 0))) w7)) ∧ ((¬ (0 ≤ x1 ∧ x1 < gI w 170 5)) → ∀ w9 : PW, w9 = sI w 169 0 1 → Q (.inl (some (iv 0))) w9)) : pX 270 0 [some (.ref 169), some (iv x1), some (iv x2)] [] w Q :=
  w_f b270 d270_0 rfl rfl rfl <| w_f b270 d270_1 rfl rfl rfl <| w_cc b270 d270_2 rfl (pcl_v (n := 1) rfl rfl rfl (by decide +kernel) (sh_isOb hs (tlt 169 rfl) tbC_169) rfl rfl) rfl <| c266 hs hx1 h.1 (fun c1 => w_ifne b270 d270_5 rfl rfl (p270 _ _) ⟨by decide, by decide⟩ (fun c => absurd c (by decide)) (fun _ => w_f b270 d270_8 rfl rfl rfl <| w_f b270 d270_9 rfl rfl rfl <| w_f b270 d270_10 rfl rfl rfl <| w_f b270 d270_11 rfl rfl rfl <| w_ldcL b270 d270_12 rfl rfl <| w_cc b270 d270_15 rfl (pcl_s1 (n := 3) rfl rfl rfl (by decide +kernel) rfl rfl) rfl <| c221 (Sh_sI hs (slt_o tbC_169 rfl)) <| w_ifneZ b270 d270_18 rfl rfl (p270 _ _) (fun c3 => w_f b270 d270_25 rfl rfl rfl <| w_f b270 d270_26 rfl rfl rfl <| w_cc b270 d270_27 rfl (pcl_v (n := 2) rfl rfl rfl (by decide +kernel) (sh_isOb (Sh_sI hs (slt_o tbC_169 rfl)) (tlt 169 rfl) tbC_169) rfl rfl) rfl <| c260a (Sh_sI hs (slt_o tbC_169 rfl)) ⟨by decide, by decide⟩ ⟨by decide, by decide⟩ <| w_ifeq b270 d270_30 rfl rfl (p270 _ _) ⟨by decide, by decide⟩ (fun _ => w_f b270 d270_35 rfl rfl rfl <| w_f b270 d270_36 rfl rfl rfl <| w_icne b270 d270_37 rfl rfl (p270 _ _) hx2 ⟨by decide, by decide⟩ (fun c4 => w_f b270 d270_48 rfl rfl rfl <| w_f b270 d270_49 rfl rfl rfl <| w_f b270 d270_50 rfl rfl rfl <| w_cc b270 d270_51 rfl (pcl_v (n := 2) rfl rfl rfl (by decide +kernel) (sh_isOb (Sh_sI hs (slt_o tbC_169 rfl)) (tlt 169 rfl) tbC_169) rfl rfl) rfl <| c267 (Sh_sI hs (slt_o tbC_169 rfl)) hx1 hx2 (((h.2.1 c1 _ rfl).1 c3).1 c4).1 <| w_ri b270 d270_54 r270 (((h.2.1 c1 _ rfl).1 c3).1 c4).2) (fun c4 => w_f b270 d270_40 rfl rfl rfl <| w_f b270 d270_41 rfl rfl rfl <| w_c b270 d270_42 rfl (pcl_v (n := 1) rfl rfl rfl (by decide +kernel) (sh_isOb (Sh_sI hs (slt_o tbC_169 rfl)) (tlt 169 rfl) tbC_169) rfl rfl) rfl _ (hK_I fun u6 w5 hbu6 hkw5 => w_j b270 d270_45 rfl (p270 _ _) <| w_ri b270 d270_54 r270 hkw5.2) (((h.2.1 c1 _ rfl).1 c3).2 c4))) (fun c => absurd c (by decide))) (fun c3 => w_f b270 d270_21 rfl rfl rfl <| w_j b270 d270_22 rfl (p270 _ _) <| w_f b270 d270_26 rfl rfl rfl <| w_cc b270 d270_27 rfl (pcl_v (n := 2) rfl rfl rfl (by decide +kernel) (sh_isOb (Sh_sI hs (slt_o tbC_169 rfl)) (tlt 169 rfl) tbC_169) rfl rfl) rfl <| c260b (Sh_sI hs (slt_o tbC_169 rfl)) ⟨by decide, by decide⟩ ⟨by decide, by decide⟩ <| w_ifeq b270 d270_30 rfl rfl (p270 _ _) ⟨by decide, by decide⟩ (fun c => absurd c (by decide)) (fun _ => w_f b270 d270_33 rfl rfl rfl <| w_ri b270 d270_34 r270 (((h.2.1 c1 _ rfl).2 c3) _ rfl))))) (fun c8 => w_ifne b270 d270_5 rfl rfl (p270 _ _) ⟨by decide, by decide⟩ (fun _ => w_f b270 d270_33 rfl rfl rfl <| w_ri b270 d270_34 r270 (h.2.2 c8 _ rfl)) (fun c => absurd c (by decide)))
theorem e270 {w : PW} {Q : PO → PW → Prop} {x1 : Int} {x2 : Int} (hs : Sh w) (hx1 : bd x1) (hx2 : bd x2) (h : (bd ((gI w 170 5) - 1)) ∧ ((0 ≤ x1 ∧ x1 < gI w 170 5) → ∀ w2 : PW, w2 = sI w 169 0 0 → ((((0 : Int64)).toInt ≤ (i2L x2).toInt ∧ (i2L x2).toInt ≤ ((3 : Int64)).toInt) → (x2 ≠ 3 → (0 ≤ (71 + 3 * x1) + x2 ∧ (71 + 3 * x1) + x2 < 843) ∧ Q (.inl (some (iv (gI w2 170 ((71 + 3 * x1) + x2).toNat)))) w2) ∧ (x2 = 3 → pC 269 [.ref 169, iv x1] w2 (kI fun u6 w5 => Sh w5 ∧ Q (.inl (some (iv u6))) w5))) ∧ ((¬ (((0 : Int64)).toInt ≤ (i2L x2).toInt ∧ (i2L x2).toInt ≤ ((3 : Int64)).toInt)) → ∀ w7 : PW, w7 = sI w2 169 0 2 → Q (.inl (some (iv 0))) w7)) ∧ ((¬ (0 ≤ x1 ∧ x1 < gI w 170 5)) → ∀ w9 : PW, w9 = sI w 169 0 1 → Q (.inl (some (iv 0))) w9)) : pC 270 [.ref 169, iv x1, iv x2] w Q :=
  (pC_in (Nat.le_of_ble_eq_true rfl) rfl Q).mpr (v270_0 hs hx1 hx2 h)
/-! 276: PinBarrelModel.pinStep(III)I -/
theorem b276 : mB 276 = cX9_pinStep := rfl
theorem r276 : mR 276 = (some .int) := rfl
theorem p276 (a b : Nat) : phi 276 a ≤ phi 276 b := Nat.le_refl 0
theorem d276_0 : decode cX9_pinStep 0 = .ok (.aload_n 0, 1) := by decide +kernel
theorem d276_1 : decode cX9_pinStep 1 = .ok (.iload_n 1, 1) := by decide +kernel
theorem d276_2 : decode cX9_pinStep 2 = .ok (.invokevirtual 377, 3) := by decide +kernel
theorem d276_5 : decode cX9_pinStep 5 = .ok (.ifCond .ne 24, 3) := by decide +kernel
theorem d276_8 : decode cX9_pinStep 8 = .ok (.aload_n 0, 1) := by decide +kernel
theorem d276_9 : decode cX9_pinStep 9 = .ok (.aload_n 0, 1) := by decide +kernel
theorem d276_10 : decode cX9_pinStep 10 = .ok (.iload_n 2, 1) := by decide +kernel
theorem d276_11 : decode cX9_pinStep 11 = .ok (.invokevirtual 343, 3) := by decide +kernel
theorem d276_14 : decode cX9_pinStep 14 = .ok (.ifCond .ne 7, 3) := by decide +kernel
theorem d276_17 : decode cX9_pinStep 17 = .ok (.iconst 1, 1) := by decide +kernel
theorem d276_18 : decode cX9_pinStep 18 = .ok (.goto 4, 3) := by decide +kernel
theorem d276_21 : decode cX9_pinStep 21 = .ok (.iconst 0, 1) := by decide +kernel
theorem d276_22 : decode cX9_pinStep 22 = .ok (.iconst 2, 1) := by decide +kernel
theorem d276_23 : decode cX9_pinStep 23 = .ok (.invokevirtual 356, 3) := by decide +kernel
theorem d276_26 : decode cX9_pinStep 26 = .ok (.ifCond .eq 5, 3) := by decide +kernel
theorem d276_29 : decode cX9_pinStep 29 = .ok (.iconst 0, 1) := by decide +kernel
theorem d276_30 : decode cX9_pinStep 30 = .ok (.ireturn, 1) := by decide +kernel
theorem d276_31 : decode cX9_pinStep 31 = .ok (.iload_n 3, 1) := by decide +kernel
theorem d276_32 : decode cX9_pinStep 32 = .ok (.istore 4, 2) := by decide +kernel
theorem d276_34 : decode cX9_pinStep 34 = .ok (.iconst 0, 1) := by decide +kernel
theorem d276_35 : decode cX9_pinStep 35 = .ok (.istore 5, 2) := by decide +kernel
theorem d276_37 : decode cX9_pinStep 37 = .ok (.iload 5, 2) := by decide +kernel
theorem d276_39 : decode cX9_pinStep 39 = .ok (.aload_n 0, 1) := by decide +kernel
theorem d276_40 : decode cX9_pinStep 40 = .ok (.getfield 9, 3) := by decide +kernel
theorem d276_43 : decode cX9_pinStep 43 = .ok (.iconst 0, 1) := by decide +kernel
theorem d276_44 : decode cX9_pinStep 44 = .ok (.iaload, 1) := by decide +kernel
theorem d276_45 : decode cX9_pinStep 45 = .ok (.if_icmp .ge 34, 3) := by decide +kernel
theorem d276_48 : decode cX9_pinStep 48 = .ok (.aload_n 0, 1) := by decide +kernel
theorem d276_49 : decode cX9_pinStep 49 = .ok (.iload_n 1, 1) := by decide +kernel
theorem d276_50 : decode cX9_pinStep 50 = .ok (.iload 5, 2) := by decide +kernel
theorem d276_52 : decode cX9_pinStep 52 = .ok (.iload_n 2, 1) := by decide +kernel
theorem d276_53 : decode cX9_pinStep 53 = .ok (.invokevirtual 228, 3) := by decide +kernel
theorem d276_56 : decode cX9_pinStep 56 = .ok (.ifCond .ne 6, 3) := by decide +kernel
theorem d276_59 : decode cX9_pinStep 59 = .ok (.goto 14, 3) := by decide +kernel
theorem d276_62 : decode cX9_pinStep 62 = .ok (.iload 4, 2) := by decide +kernel
theorem d276_64 : decode cX9_pinStep 64 = .ok (.ifCond .ne 6, 3) := by decide +kernel
theorem d276_67 : decode cX9_pinStep 67 = .ok (.iload 5, 2) := by decide +kernel
theorem d276_69 : decode cX9_pinStep 69 = .ok (.ireturn, 1) := by decide +kernel
theorem d276_70 : decode cX9_pinStep 70 = .ok (.iinc 4 (-1), 3) := by decide +kernel
theorem d276_73 : decode cX9_pinStep 73 = .ok (.iinc 5 1, 3) := by decide +kernel
theorem d276_76 : decode cX9_pinStep 76 = .ok (.goto (-39), 3) := by decide +kernel
theorem d276_79 : decode cX9_pinStep 79 = .ok (.iconst (-1), 1) := by decide +kernel
theorem d276_80 : decode cX9_pinStep 80 = .ok (.ireturn, 1) := by decide +kernel
theorem v276_0 {w : PW} {Q : PO → PW → Prop} {x1 : Int} {x2 : Int} {x3 : Int} (hs : Sh w) (hx1 : bd x1) (hx2 : bd x2) (hx3 : bd x3) (h : (bd ((gI w 170 1) - 1)) ∧ ((0 ≤ x1 ∧ x1 < gI w 170 1) → ∀ w2 : PW, w2 = sI w 169 0 0 → (bd ((gI w2 170 4) - 1)) ∧ ((0 ≤ x2 ∧ x2 < gI w2 170 4) → pX 276 37 [some (.ref 169), some (iv x1), some (iv x2), some (iv x3), some (iv x3), some (iv 0)] [] w2 Q) ∧ ((¬ (0 ≤ x2 ∧ x2 < gI w2 170 4)) → ∀ w4 : PW, w4 = sI w2 169 0 2 → Q (.inl (some (iv 0))) w4)) ∧ ((¬ (0 ≤ x1 ∧ x1 < gI w 170 1)) → ∀ w6 : PW, w6 = sI w 169 0 1 → Q (.inl (some (iv 0))) w6)) : pX 276 0 [some (.ref 169), some (iv x1), some (iv x2), some (iv x3), none, none] [] w Q :=
  w_f b276 d276_0 rfl rfl rfl <| w_f b276 d276_1 rfl rfl rfl <| w_cc b276 d276_2 rfl (pcl_v (n := 1) rfl rfl rfl (by decide +kernel) (sh_isOb hs (tlt 169 rfl) tbC_169) rfl rfl) rfl <| c275 hs hx1 h.1 (fun c1 => w_ifne b276 d276_5 rfl rfl (p276 _ _) ⟨by decide, by decide⟩ (fun c => absurd c (by decide)) (fun _ => w_f b276 d276_8 rfl rfl rfl <| w_f b276 d276_9 rfl rfl rfl <| w_f b276 d276_10 rfl rfl rfl <| w_cc b276 d276_11 rfl (pcl_v (n := 1) rfl rfl rfl (by decide +kernel) (sh_isOb (Sh_sI hs (slt_o tbC_169 rfl)) (tlt 169 rfl) tbC_169) rfl rfl) rfl <| c258 (Sh_sI hs (slt_o tbC_169 rfl)) hx2 (h.2.1 c1 _ rfl).1 <| w_ifneZ b276 d276_14 rfl rfl (p276 _ _) (fun c3 => w_f b276 d276_21 rfl rfl rfl <| w_f b276 d276_22 rfl rfl rfl <| w_cc b276 d276_23 rfl (pcl_v (n := 2) rfl rfl rfl (by decide +kernel) (sh_isOb (Sh_sI hs (slt_o tbC_169 rfl)) (tlt 169 rfl) tbC_169) rfl rfl) rfl <| c260a (Sh_sI hs (slt_o tbC_169 rfl)) ⟨by decide, by decide⟩ ⟨by decide, by decide⟩ <| w_ifeq b276 d276_26 rfl rfl (p276 _ _) ⟨by decide, by decide⟩ (fun _ => w_f b276 d276_31 rfl rfl rfl <| w_f b276 d276_32 rfl rfl rfl <| w_f b276 d276_34 rfl rfl rfl <| w_f b276 d276_35 rfl rfl rfl <| ((h.2.1 c1 _ rfl).2.1 c3)) (fun c => absurd c (by decide))) (fun c3 => w_f b276 d276_17 rfl rfl rfl <| w_j b276 d276_18 rfl (p276 _ _) <| w_f b276 d276_22 rfl rfl rfl <| w_cc b276 d276_23 rfl (pcl_v (n := 2) rfl rfl rfl (by decide +kernel) (sh_isOb (Sh_sI hs (slt_o tbC_169 rfl)) (tlt 169 rfl) tbC_169) rfl rfl) rfl <| c260b (Sh_sI hs (slt_o tbC_169 rfl)) ⟨by decide, by decide⟩ ⟨by decide, by decide⟩ <| w_ifeq b276 d276_26 rfl rfl (p276 _ _) ⟨by decide, by decide⟩ (fun c => absurd c (by decide)) (fun _ => w_f b276 d276_29 rfl rfl rfl <| w_ri b276 d276_30 r276 (((h.2.1 c1 _ rfl).2.2 c3) _ rfl))))) (fun c5 => w_ifne b276 d276_5 rfl rfl (p276 _ _) ⟨by decide, by decide⟩ (fun _ => w_f b276 d276_29 rfl rfl rfl <| w_ri b276 d276_30 r276 (h.2.2 c5 _ rfl)) (fun c => absurd c (by decide)))
theorem e276 {w : PW} {Q : PO → PW → Prop} {x1 : Int} {x2 : Int} {x3 : Int} (hs : Sh w) (hx1 : bd x1) (hx2 : bd x2) (hx3 : bd x3) (h : (bd ((gI w 170 1) - 1)) ∧ ((0 ≤ x1 ∧ x1 < gI w 170 1) → ∀ w2 : PW, w2 = sI w 169 0 0 → (bd ((gI w2 170 4) - 1)) ∧ ((0 ≤ x2 ∧ x2 < gI w2 170 4) → pX 276 37 [some (.ref 169), some (iv x1), some (iv x2), some (iv x3), some (iv x3), some (iv 0)] [] w2 Q) ∧ ((¬ (0 ≤ x2 ∧ x2 < gI w2 170 4)) → ∀ w4 : PW, w4 = sI w2 169 0 2 → Q (.inl (some (iv 0))) w4)) ∧ ((¬ (0 ≤ x1 ∧ x1 < gI w 170 1)) → ∀ w6 : PW, w6 = sI w 169 0 1 → Q (.inl (some (iv 0))) w6)) : pC 276 [.ref 169, iv x1, iv x2, iv x3] w Q :=
  (pC_in (Nat.le_of_ble_eq_true rfl) rfl Q).mpr (v276_0 hs hx1 hx2 hx3 h)
theorem v276_37 {w : PW} {Q : PO → PW → Prop} {x1 : Int} {x2 : Int} {x3 : Int} {x4 : Int} {x5 : Int} (hs : Sh w) (hx1 : bd x1) (hx2 : bd x2) (hx3 : bd x3) (hx4 : bd x4) (hx5 : bd x5) (h : ((gI w 170 0) ≤ x5 → Q (.inl (some (iv ((-1))))) w) ∧ (x5 < (gI w 170 0) → (bd ((251 + 64 * x1) + x5)) ∧ (0 ≤ (251 + 64 * x1) + x5 ∧ (251 + 64 * x1) + x5 < 843) ∧ (0 ≤ x2 ∧ x2 < 32) ∧ ((tI (gI w 170 ((251 + 64 * x1) + x5).toNat) (x2).toNat = true) → (x4 ≠ 0 → pX 276 37 [some (.ref 169), some (iv x1), some (iv x2), some (iv x3), some (iv (x4 + (-1))), some (iv (x5 + 1))] [] w Q) ∧ (x4 = 0 → Q (.inl (some (iv x5))) w)) ∧ ((¬ (tI (gI w 170 ((251 + 64 * x1) + x5).toNat) (x2).toNat = true)) → pX 276 37 [some (.ref 169), some (iv x1), some (iv x2), some (iv x3), some (iv x4), some (iv (x5 + 1))] [] w Q))) : pX 276 37 [some (.ref 169), some (iv x1), some (iv x2), some (iv x3), some (iv x4), some (iv x5)] [] w Q :=
  w_f b276 d276_37 rfl rfl rfl <| w_f b276 d276_39 rfl rfl rfl <| w_gr b276 d276_40 rfl rfl hs (tlt 169 rfl) tbC_169 rfl (by decide) <| w_f b276 d276_43 rfl rfl rfl <| w_ial b276 d276_44 rfl hs (tlt 170 rfl) tbC_170 (bdix (n := 843) ⟨by decide, by decide⟩ rfl) ⟨by decide, by decide⟩ <| w_icge b276 d276_45 rfl rfl (p276 _ _) hx5 (bd_gI _ _ _) (fun c1 => w_f b276 d276_79 rfl rfl rfl <| w_ri b276 d276_80 r276 (h.1 c1)) (fun c1 => w_f b276 d276_48 rfl rfl rfl <| w_f b276 d276_49 rfl rfl rfl <| w_f b276 d276_50 rfl rfl rfl <| w_f b276 d276_52 rfl rfl rfl <| w_cc b276 d276_53 rfl (pcl_v (n := 3) rfl rfl rfl (by decide +kernel) (sh_isOb hs (tlt 169 rfl) tbC_169) rfl rfl) rfl <| c251 hs hx1 hx5 hx2 (h.2 c1).1 (h.2 c1).2.1 (h.2 c1).2.2.1 <| w_ifneZ b276 d276_56 rfl rfl (p276 _ _) (fun c2 => w_f b276 d276_62 rfl rfl rfl <| w_ifne b276 d276_64 rfl rfl (p276 _ _) hx4 (fun c3 => w_f b276 d276_70 rfl (pf_iinc rfl rfl) rfl <| w_f b276 d276_73 rfl (pf_iinc rfl rfl) rfl <| w_j b276 d276_76 rfl (p276 _ _) <| (((h.2 c1).2.2.2.1 c2).1 c3)) (fun c3 => w_f b276 d276_67 rfl rfl rfl <| w_ri b276 d276_69 r276 (((h.2 c1).2.2.2.1 c2).2 c3))) (fun c2 => w_j b276 d276_59 rfl (p276 _ _) <| w_f b276 d276_73 rfl (pf_iinc rfl rfl) rfl <| w_j b276 d276_76 rfl (p276 _ _) <| ((h.2 c1).2.2.2.2 c2)))
/-! 283: PinBarrelModel.conflict(III)I -/
theorem b283 : mB 283 = cX9_conflict := rfl
theorem r283 : mR 283 = (some .int) := rfl
theorem p283 (a b : Nat) : phi 283 a ≤ phi 283 b := Nat.le_refl 0
theorem d283_0 : decode cX9_conflict 0 = .ok (.aload_n 0, 1) := by decide +kernel
theorem d283_1 : decode cX9_conflict 1 = .ok (.aload_n 0, 1) := by decide +kernel
theorem d283_2 : decode cX9_conflict 2 = .ok (.iload_n 1, 1) := by decide +kernel
theorem d283_3 : decode cX9_conflict 3 = .ok (.invokevirtual 340, 3) := by decide +kernel
theorem d283_6 : decode cX9_conflict 6 = .ok (.ifCond .eq 15, 3) := by decide +kernel
theorem d283_9 : decode cX9_conflict 9 = .ok (.iload_n 3, 1) := by decide +kernel
theorem d283_10 : decode cX9_conflict 10 = .ok (.i2l, 1) := by decide +kernel
theorem d283_11 : decode cX9_conflict 11 = .ok (.lconst 0, 1) := by decide +kernel
theorem d283_12 : decode cX9_conflict 12 = .ok (.ldc2_w 369, 3) := by decide +kernel
theorem d283_15 : decode cX9_conflict 15 = .ok (.invokestatic 81, 3) := by decide +kernel
theorem d283_18 : decode cX9_conflict 18 = .ok (.ifCond .ne 7, 3) := by decide +kernel
theorem d283_21 : decode cX9_conflict 21 = .ok (.iconst 1, 1) := by decide +kernel
theorem d283_22 : decode cX9_conflict 22 = .ok (.goto 4, 3) := by decide +kernel
theorem d283_25 : decode cX9_conflict 25 = .ok (.iconst 0, 1) := by decide +kernel
theorem d283_26 : decode cX9_conflict 26 = .ok (.invokevirtual 328, 3) := by decide +kernel
theorem d283_29 : decode cX9_conflict 29 = .ok (.ifCond .eq 5, 3) := by decide +kernel
theorem d283_32 : decode cX9_conflict 32 = .ok (.iconst 0, 1) := by decide +kernel
theorem d283_33 : decode cX9_conflict 33 = .ok (.ireturn, 1) := by decide +kernel
theorem d283_34 : decode cX9_conflict 34 = .ok (.iload_n 2, 1) := by decide +kernel
theorem d283_35 : decode cX9_conflict 35 = .ok (.ifCond .lt 13, 3) := by decide +kernel
theorem d283_38 : decode cX9_conflict 38 = .ok (.aload_n 0, 1) := by decide +kernel
theorem d283_39 : decode cX9_conflict 39 = .ok (.iload_n 1, 1) := by decide +kernel
theorem d283_40 : decode cX9_conflict 40 = .ok (.iload_n 2, 1) := by decide +kernel
theorem d283_41 : decode cX9_conflict 41 = .ok (.invokevirtual 256, 3) := by decide +kernel
theorem d283_44 : decode cX9_conflict 44 = .ok (.iload_n 2, 1) := by decide +kernel
theorem d283_45 : decode cX9_conflict 45 = .ok (.if_icmp .gt 5, 3) := by decide +kernel
theorem d283_48 : decode cX9_conflict 48 = .ok (.iconst (-1), 1) := by decide +kernel
theorem d283_49 : decode cX9_conflict 49 = .ok (.ireturn, 1) := by decide +kernel
theorem d283_50 : decode cX9_conflict 50 = .ok (.iload_n 3, 1) := by decide +kernel
theorem d283_51 : decode cX9_conflict 51 = .ok (.ifCond .ne 10, 3) := by decide +kernel
theorem d283_54 : decode cX9_conflict 54 = .ok (.aload_n 0, 1) := by decide +kernel
theorem d283_55 : decode cX9_conflict 55 = .ok (.getfield 241, 3) := by decide +kernel
theorem d283_58 : decode cX9_conflict 58 = .ok (.goto 31, 3) := by decide +kernel
theorem d283_61 : decode cX9_conflict 61 = .ok (.iload_n 3, 1) := by decide +kernel
theorem d283_62 : decode cX9_conflict 62 = .ok (.iconst 1, 1) := by decide +kernel
theorem d283_63 : decode cX9_conflict 63 = .ok (.if_icmp .ne 10, 3) := by decide +kernel
theorem d283_66 : decode cX9_conflict 66 = .ok (.aload_n 0, 1) := by decide +kernel
theorem d283_67 : decode cX9_conflict 67 = .ok (.getfield 244, 3) := by decide +kernel
theorem d283_70 : decode cX9_conflict 70 = .ok (.goto 19, 3) := by decide +kernel
theorem d283_73 : decode cX9_conflict 73 = .ok (.iload_n 3, 1) := by decide +kernel
theorem d283_74 : decode cX9_conflict 74 = .ok (.iconst 2, 1) := by decide +kernel
theorem d283_75 : decode cX9_conflict 75 = .ok (.if_icmp .ne 10, 3) := by decide +kernel
theorem d283_78 : decode cX9_conflict 78 = .ok (.aload_n 0, 1) := by decide +kernel
theorem d283_79 : decode cX9_conflict 79 = .ok (.getfield 247, 3) := by decide +kernel
theorem d283_82 : decode cX9_conflict 82 = .ok (.goto 7, 3) := by decide +kernel
theorem d283_85 : decode cX9_conflict 85 = .ok (.aload_n 0, 1) := by decide +kernel
theorem d283_86 : decode cX9_conflict 86 = .ok (.getfield 250, 3) := by decide +kernel
theorem d283_89 : decode cX9_conflict 89 = .ok (.ireturn, 1) := by decide +kernel
theorem v283_0 {w : PW} {Q : PO → PW → Prop} {x1 : Int} {x2 : Int} {x3 : Int} (hs : Sh w) (hx1 : bd x1) (hx2 : bd x2) (hx3 : bd x3) (h : (bd ((gI w 170 1) - 1)) ∧ ((¬ (0 ≤ x1 ∧ x1 < gI w 170 1)) → ∀ w2 : PW, w2 = sI w 169 0 1 → Q (.inl (some (iv 0))) w2) ∧ ((0 ≤ x1 ∧ x1 < gI w 170 1) → ((((0 : Int64)).toInt ≤ (i2L x3).toInt ∧ (i2L x3).toInt ≤ ((3 : Int64)).toInt) → ∀ w4 : PW, w4 = sI w 169 0 0 → (x2 < 0 → Q (.inl (some (iv ((-1))))) w4) ∧ (0 ≤ x2 → pC 280 [.ref 169, iv x1, iv x2] w4 (kI fun u7 w6 => Sh w6 ∧ (x2 < u7 → (x3 ≠ 0 → (x3 ≠ 1 → (x3 ≠ 2 → Q (.inl (some (iv (gI w6 169 20)))) w6) ∧ (x3 = 2 → Q (.inl (some (iv (gI w6 169 19)))) w6)) ∧ (x3 = 1 → Q (.inl (some (iv (gI w6 169 18)))) w6)) ∧ (x3 = 0 → Q (.inl (some (iv (gI w6 169 17)))) w6)) ∧ (u7 ≤ x2 → Q (.inl (some (iv ((-1))))) w6)))) ∧ ((¬ (((0 : Int64)).toInt ≤ (i2L x3).toInt ∧ (i2L x3).toInt ≤ ((3 : Int64)).toInt)) → ∀ w12 : PW, w12 = sI w 169 0 1 → Q (.inl (some (iv 0))) w12))) : pX 283 0 [some (.ref 169), some (iv x1), some (iv x2), some (iv x3)] [] w Q :=
  w_f b283 d283_0 rfl rfl rfl <| w_f b283 d283_1 rfl rfl rfl <| w_f b283 d283_2 rfl rfl rfl <| w_cc b283 d283_3 rfl (pcl_v (n := 1) rfl rfl rfl (by decide +kernel) (sh_isOb hs (tlt 169 rfl) tbC_169) rfl rfl) rfl <| c271 hs hx1 h.1 <| w_ifeqZ b283 d283_6 rfl rfl (p283 _ _) (fun c1 => w_f b283 d283_21 rfl rfl rfl <| w_j b283 d283_22 rfl (p283 _ _) <| w_cc b283 d283_26 rfl (pcl_v (n := 1) rfl rfl rfl (by decide +kernel) (sh_isOb hs (tlt 169 rfl) tbC_169) rfl rfl) rfl <| c245 hs ⟨by decide, by decide⟩ (by decide) <| w_ifeq b283 d283_29 rfl rfl (p283 _ _) ⟨by decide, by decide⟩ (fun c => absurd c (by decide)) (fun _ => w_f b283 d283_32 rfl rfl rfl <| w_ri b283 d283_33 r283 ((h.2.1 c1) _ rfl))) (fun c1 => w_f b283 d283_9 rfl rfl rfl <| w_f b283 d283_10 rfl rfl rfl <| w_f b283 d283_11 rfl rfl rfl <| w_ldcL b283 d283_12 rfl rfl <| w_cc b283 d283_15 rfl (pcl_s1 (n := 3) rfl rfl rfl (by decide +kernel) rfl rfl) rfl <| c221 hs <| w_ifneZ b283 d283_18 rfl rfl (p283 _ _) (fun c3 => w_f b283 d283_25 rfl rfl rfl <| w_cc b283 d283_26 rfl (pcl_v (n := 1) rfl rfl rfl (by decide +kernel) (sh_isOb hs (tlt 169 rfl) tbC_169) rfl rfl) rfl <| c245 hs ⟨by decide, by decide⟩ (by decide) <| w_ifeq b283 d283_29 rfl rfl (p283 _ _) ⟨by decide, by decide⟩ (fun _ => w_f b283 d283_34 rfl rfl rfl <| w_iflt b283 d283_35 rfl rfl (p283 _ _) hx2 (fun c5 => w_f b283 d283_48 rfl rfl rfl <| w_ri b283 d283_49 r283 ((((h.2.2 c1).1 c3) _ rfl).1 c5)) (fun c5 => w_f b283 d283_38 rfl rfl rfl <| w_f b283 d283_39 rfl rfl rfl <| w_f b283 d283_40 rfl rfl rfl <| w_c b283 d283_41 rfl (pcl_v (n := 2) rfl rfl rfl (by decide +kernel) (sh_isOb (Sh_sI hs (slt_o tbC_169 rfl)) (tlt 169 rfl) tbC_169) rfl rfl) rfl _ (hK_I fun u7 w6 hbu7 hkw6 => w_f b283 d283_44 rfl rfl rfl <| w_icgt b283 d283_45 rfl rfl (p283 _ _) hbu7 hx2 (fun c8 => w_f b283 d283_50 rfl rfl rfl <| w_ifne b283 d283_51 rfl rfl (p283 _ _) hx3 (fun c9 => w_f b283 d283_61 rfl rfl rfl <| w_f b283 d283_62 rfl rfl rfl <| w_icne b283 d283_63 rfl rfl (p283 _ _) hx3 ⟨by decide, by decide⟩ (fun c10 => w_f b283 d283_73 rfl rfl rfl <| w_f b283 d283_74 rfl rfl rfl <| w_icne b283 d283_75 rfl rfl (p283 _ _) hx3 ⟨by decide, by decide⟩ (fun c11 => w_f b283 d283_85 rfl rfl rfl <| w_gi b283 d283_86 rfl rfl hkw6.1 (tlt 169 rfl) tbC_169 rfl <| w_ri b283 d283_89 r283 ((((hkw6.2.1 c8).1 c9).1 c10).1 c11)) (fun c11 => w_f b283 d283_78 rfl rfl rfl <| w_gi b283 d283_79 rfl rfl hkw6.1 (tlt 169 rfl) tbC_169 rfl <| w_j b283 d283_82 rfl (p283 _ _) <| w_ri b283 d283_89 r283 ((((hkw6.2.1 c8).1 c9).1 c10).2 c11))) (fun c10 => w_f b283 d283_66 rfl rfl rfl <| w_gi b283 d283_67 rfl rfl hkw6.1 (tlt 169 rfl) tbC_169 rfl <| w_j b283 d283_70 rfl (p283 _ _) <| w_ri b283 d283_89 r283 (((hkw6.2.1 c8).1 c9).2 c10))) (fun c9 => w_f b283 d283_54 rfl rfl rfl <| w_gi b283 d283_55 rfl rfl hkw6.1 (tlt 169 rfl) tbC_169 rfl <| w_j b283 d283_58 rfl (p283 _ _) <| w_ri b283 d283_89 r283 ((hkw6.2.1 c8).2 c9))) (fun c8 => w_f b283 d283_48 rfl rfl rfl <| w_ri b283 d283_49 r283 (hkw6.2.2 c8))) ((((h.2.2 c1).1 c3) _ rfl).2 c5))) (fun c => absurd c (by decide))) (fun c3 => w_f b283 d283_21 rfl rfl rfl <| w_j b283 d283_22 rfl (p283 _ _) <| w_cc b283 d283_26 rfl (pcl_v (n := 1) rfl rfl rfl (by decide +kernel) (sh_isOb hs (tlt 169 rfl) tbC_169) rfl rfl) rfl <| c245 hs ⟨by decide, by decide⟩ (by decide) <| w_ifeq b283 d283_29 rfl rfl (p283 _ _) ⟨by decide, by decide⟩ (fun c => absurd c (by decide)) (fun _ => w_f b283 d283_32 rfl rfl rfl <| w_ri b283 d283_33 r283 (((h.2.2 c1).2 c3) _ rfl))))
theorem e283 {w : PW} {Q : PO → PW → Prop} {x1 : Int} {x2 : Int} {x3 : Int} (hs : Sh w) (hx1 : bd x1) (hx2 : bd x2) (hx3 : bd x3) (h : (bd ((gI w 170 1) - 1)) ∧ ((¬ (0 ≤ x1 ∧ x1 < gI w 170 1)) → ∀ w2 : PW, w2 = sI w 169 0 1 → Q (.inl (some (iv 0))) w2) ∧ ((0 ≤ x1 ∧ x1 < gI w 170 1) → ((((0 : Int64)).toInt ≤ (i2L x3).toInt ∧ (i2L x3).toInt ≤ ((3 : Int64)).toInt) → ∀ w4 : PW, w4 = sI w 169 0 0 → (x2 < 0 → Q (.inl (some (iv ((-1))))) w4) ∧ (0 ≤ x2 → pC 280 [.ref 169, iv x1, iv x2] w4 (kI fun u7 w6 => Sh w6 ∧ (x2 < u7 → (x3 ≠ 0 → (x3 ≠ 1 → (x3 ≠ 2 → Q (.inl (some (iv (gI w6 169 20)))) w6) ∧ (x3 = 2 → Q (.inl (some (iv (gI w6 169 19)))) w6)) ∧ (x3 = 1 → Q (.inl (some (iv (gI w6 169 18)))) w6)) ∧ (x3 = 0 → Q (.inl (some (iv (gI w6 169 17)))) w6)) ∧ (u7 ≤ x2 → Q (.inl (some (iv ((-1))))) w6)))) ∧ ((¬ (((0 : Int64)).toInt ≤ (i2L x3).toInt ∧ (i2L x3).toInt ≤ ((3 : Int64)).toInt)) → ∀ w12 : PW, w12 = sI w 169 0 1 → Q (.inl (some (iv 0))) w12))) : pC 283 [.ref 169, iv x1, iv x2, iv x3] w Q :=
  (pC_in (Nat.le_of_ble_eq_true rfl) rfl Q).mpr (v283_0 hs hx1 hx2 hx3 h)
section MQ3
variable {w w2 : PW} {Q : PO → PW → Prop} {m : Row} {x1 x2 x3 : Int} {r : PO} {E : Nat}
/-- a question that is asked, or refused -/
theorem moG {P : Prop} [Decidable P] (hs : Sh w) (hE : E < 1000) (h : ∀ w2, MqF w w2 → gI w2 169 0 = moE (if P then r else .inr E) → Q (moV (if P then r else .inr E)) w2) : (P → ∀ w2, w2 = sI w 169 0 0 → MqF w w2 ∧ gI w2 169 0 = 0 ∧ ∀ w3, MqF w2 w3 → gI w3 169 0 = moE r → Q (moV r) w3) ∧ (¬ P → ∀ w2, w2 = sI w 169 0 (E : Nat) → Q (.inl (some (iv 0))) w2) := by
  refine ⟨fun q w2 e2 => ?_, fun q w2 e2 => ?_⟩
  · obtain ⟨F2, g2⟩ := MqF.th hs e2 bd0
    exact ⟨F2, g2, fun w3 F3 g3 => mo_t h q w3 (F2.tr F3) g3⟩
  · obtain ⟨F2, g2⟩ := MqF.th hs e2 (bdk (by omega))
    exact mo_f h q w2 F2 g2
theorem moI {z : Int} (h : ∀ w3, MqF w2 w3 → gI w3 169 0 = moE (rI z) → Q (moV (rI z)) w3) (g2 : gI w2 169 0 = 0) : ∀ w3, MF w2 w3 → Q (.inl (some (iv z))) w3 := fun w3 F3 => h w3 F3.2.1 (F3.2.2.1.trans g2)
theorem c257 {n : Nat} (hs : Sh w) (hM : MR w m) (hn : gI w 169 6 = (n : Nat)) (hx1 : bd x1) (h : ∀ w2, MqF w w2 → gI w2 169 0 = moE (sp65 m n x1) → Q (moV (sp65 m n x1)) w2) : pC 257 [.ref 169, iv x1] w Q := by
  have ha := sAll_bd hM.ok
  have hc := sCo_bd m
  refine e257 hs hx1 ?_
  rw [i2L_toInt hx1, show (0 : Int64).toInt = 0 from by decide, show (13 : Int64).toInt = 13 from by decide]
  refine ⟨fun q w2 e2 => ?_, (moG hs (by decide) h).2⟩
  obtain ⟨F2, g2, h2⟩ := (moG hs (by decide) h).1 q w2 e2
  have hM2 := F2.mr hM
  have h3 := moI h2 g2
  have hv : ∀ z, sSize m n x1 = z → Q (.inl (some (iv z))) w2 := fun z e => by
    have := h3 w2 (MF.rf F2.1)
    rw [e] at this
    exact this
  rw [hM2.g (k := 6) rfl, hM2.g (k := 7) rfl, hM2.g (k := 8) rfl, hM2.g (k := 9) rfl, hM2.g (k := 10) rfl]
  refine ⟨fun q6 => ⟨fun q => ?_, fun q => ?_, fun q => ?_, fun q => ?_, fun q => ?_, fun q => ?_, fun q => ?_, fun q => ?_⟩, fun q => ⟨⟨by omega, by omega⟩, ?_⟩⟩
  · rw [F2.2.2.2.1, hn]
    exact hv _ (by unfold sSize; rw [if_neg (by omega), if_neg (by omega), if_neg (by omega), if_neg (by omega), if_neg (by omega), if_neg (by omega), if_neg (by omega), if_neg (by omega)])
  · exact c248 F2.1 hM2 (kI_iv ⟨by omega, by omega⟩ ⟨F2.1, hv _ (by unfold sSize; rw [if_neg (by omega), if_pos q])⟩)
  · exact hv _ (by unfold sSize; rw [if_neg (by omega), if_neg (by omega), if_pos q])
  · exact hv _ (by unfold sSize; rw [if_neg (by omega), if_neg (by omega), if_neg (by omega), if_pos q])
  · exact hv _ (by unfold sSize; rw [if_neg (by omega), if_neg (by omega), if_neg (by omega), if_neg (by omega), if_pos q])
  · exact hv _ (by unfold sSize; rw [if_neg (by omega), if_neg (by omega), if_neg (by omega), if_neg (by omega), if_neg (by omega), if_pos q])
  · exact hv _ (by unfold sSize; rw [if_neg (by omega), if_neg (by omega), if_neg (by omega), if_neg (by omega), if_neg (by omega), if_neg (by omega), if_pos q])
  · have he : sSize m n x1 = (sCo m : Nat) := by unfold sSize; rw [if_neg (by omega), if_neg (by omega), if_neg (by omega), if_neg (by omega), if_neg (by omega), if_neg (by omega), if_neg (by omega), if_pos q]
    exact c256 F2.1 hM2 (fun w3 F3 => kI_iv (bdk (by omega)) ⟨F3.1, by have := h3 w3 F3; rw [he] at this; exact this⟩)
  · rw [hM2.i (n := x1.toNat) (by omega) (by omega)]
    exact hv _ (by unfold sSize; rw [if_pos q])
theorem c264 {t : Nat} (hs : Sh w) (hM : MR w m) (ht : (t : Int) < m 4) (h : Q (.inl (some (iv (sRest m t)))) w) : pC 264 [.ref 169, iv (t : Nat)] w Q := by
  have h4 := hM.ok.t
  have h8 := hM.ok.pt
  obtain ⟨b1, b2, b3, b4, b5⟩ := hM.ok.T ht
  have hn := sNeed_bd hM.ok ht
  refine e264 hs (bdk (by omega)) ?_
  rw [hM.T4 (by omega), hM.need (by omega), hM.g (k := 8) rfl]
  unfold sRest at h
  refine ⟨⟨by omega, by omega⟩, fun q => ⟨⟨by omega, by omega⟩, ⟨by omega, by omega⟩, ⟨by omega, by omega⟩, ?_⟩, fun q => ?_⟩
  · rw [if_neg q] at h
    exact h
  · rw [if_pos q] at h
    exact h
/-- the same questions as the class's, told as the model tells them -/
def sq69 (m : Row) (x1 x2 : Int) : PO := if 0 ≤ x1 ∧ x1 < m 4 then (if 0 ≤ x2 ∧ x2 ≤ 7 then rI (sTooA m x1.toNat x2) else .inr 2) else .inr 1
theorem c265 (hs : Sh w) (hM : MR w m) (hx1 : bd x1) (hx2 : bd x2) (h : ∀ w2, MqF w w2 → gI w2 169 0 = moE (sq69 m x1 x2) → Q (moV (sq69 m x1 x2)) w2) : pC 265 [.ref 169, iv x1, iv x2] w Q := by
  have h4 := hM.ok.t
  have h8 := hM.ok.pt
  refine e265 hs hx1 hx2 ?_
  rw [hM.g (k := 4) rfl, i2L_toInt hx2, show (0 : Int64).toInt = 0 from by decide, show (7 : Int64).toInt = 7 from by decide]
  refine ⟨⟨by omega, by omega⟩, fun q w2 e2 => ?_, (moG hs (by decide) h).2⟩
  obtain ⟨F2, g2, h2⟩ := (moG hs (by decide) h).1 q w2 e2
  have hM2 := F2.mr hM
  refine ⟨fun q2 => ?_, fun q2 w9 e9 => ?_⟩
  · have h3 := moI (mo_t h2 q2) g2
    obtain ⟨t, rfl⟩ := nat_of q.1
    rw [Int.toNat_natCast] at h3
    obtain ⟨b1, b2, b3, b4, b5⟩ := hM.ok.T q.2
    have hn := sNeed_bd hM.ok q.2
    have hst := sTooth_bd hM.ok t
    have hv : ∀ z, sTooA m t x2 = z → Q (.inl (some (iv z))) w2 := fun z e => by
      have := h3 w2 (MF.rf F2.1)
      rw [e] at this
      exact this
    rw [hM2.T0 (by omega), hM2.T2 (by omega), hM2.T3 (by omega), hM2.T4 (by omega), hM2.need (by omega), hM2.T1 (by omega)]
    refine ⟨fun q => ?_, fun q => ⟨⟨by omega, by omega⟩, ?_⟩, fun q => ⟨⟨by omega, by omega⟩, ?_⟩, fun q => ⟨⟨by omega, by omega⟩, ?_⟩, fun q => ?_, fun q => ⟨⟨by omega, by omega⟩, ?_⟩, fun q => ⟨⟨by omega, by omega⟩, ?_⟩, fun q => ⟨⟨by omega, by omega⟩, ?_⟩⟩
    · have hr : bd (sRest m t) := by unfold sRest; split <;> (constructor <;> omega)
      exact c264 F2.1 hM2 (by omega) (kI_iv hr ⟨F2.1, hv _ (by unfold sTooA; rw [if_neg (by omega), if_neg (by omega), if_neg (by omega), if_neg (by omega), if_neg (by omega), if_neg (by omega), if_neg (by omega)])⟩)
    · exact hv _ (by unfold sTooA; rw [if_pos q])
    · exact hv _ (by unfold sTooA; rw [if_neg (by omega), if_pos q])
    · exact hv _ (by unfold sTooA; rw [if_neg (by omega), if_neg (by omega), if_pos q])
    · exact c263 F2.1 hM2 (by omega) (kI_iv ⟨by omega, by omega⟩ ⟨F2.1, hv _ (by unfold sTooA; rw [if_neg (by omega), if_neg (by omega), if_neg (by omega), if_pos q])⟩)
    · exact hv _ (by unfold sTooA; rw [if_neg (by omega), if_neg (by omega), if_neg (by omega), if_neg (by omega), if_pos q])
    · exact hv _ (by unfold sTooA; rw [if_neg (by omega), if_neg (by omega), if_neg (by omega), if_neg (by omega), if_neg (by omega), if_pos q])
    · exact hv _ (by unfold sTooA; rw [if_neg (by omega), if_neg (by omega), if_neg (by omega), if_neg (by omega), if_neg (by omega), if_neg (by omega), if_pos q])
  · obtain ⟨F9, g9⟩ := MqF.th F2.1 e9 ⟨by decide, by decide⟩
    exact mo_f h2 q2 w9 F9 g9
def sq74 (m : Row) (x1 x2 : Int) : PO := if 0 ≤ x1 ∧ x1 < m 5 then (if 0 ≤ x2 ∧ x2 ≤ 3 then rI (sNotA m x1.toNat x2) else .inr 2) else .inr 1
theorem c270 (hs : Sh w) (hM : MR w m) (hx1 : bd x1) (hx2 : bd x2) (h : ∀ w2, MqF w w2 → gI w2 169 0 = moE (sq74 m x1 x2) → Q (moV (sq74 m x1 x2)) w2) : pC 270 [.ref 169, iv x1, iv x2] w Q := by
  have h4 := hM.ok.t
  have h5 := hM.ok.n
  refine e270 hs hx1 hx2 ?_
  rw [hM.g (k := 5) rfl, i2L_toInt hx2, show (0 : Int64).toInt = 0 from by decide, show (3 : Int64).toInt = 3 from by decide]
  refine ⟨⟨by omega, by omega⟩, fun q w2 e2 => ?_, (moG hs (by decide) h).2⟩
  obtain ⟨F2, g2, h2⟩ := (moG hs (by decide) h).1 q w2 e2
  have hM2 := F2.mr hM
  refine ⟨fun q2 => ?_, fun q2 w9 e9 => ?_⟩
  · have h3 := moI (mo_t h2 q2) g2 w2 (MF.rf F2.1)
    obtain ⟨t, rfl⟩ := nat_of q.1
    obtain ⟨k2, rfl⟩ := nat_of q2.1
    unfold sNotA at h3
    rw [Int.toNat_natCast, Int.toNat_natCast] at h3
    have hp : -1 ≤ sPlay m t ∧ sPlay m t < ((m 4).toNat : Nat) := sel_bd
    refine ⟨fun q3 => ⟨⟨by omega, by omega⟩, ?_⟩, fun q3 => c269 F2.1 hM2 q.2 (kI_iv ⟨by omega, by omega⟩ ⟨F2.1, ?_⟩)⟩
    · rw [if_neg q3] at h3
      rw [hM2.i (x := 71 + 3 * (t : Int) + (k2 : Int)) (n := 71 + 3 * t + k2) rfl (by omega)]
      exact h3
    · rw [if_pos q3] at h3
      exact h3
  · obtain ⟨F9, g9⟩ := MqF.th F2.1 e9 ⟨by decide, by decide⟩
    exact mo_f h2 q2 w9 F9 g9
theorem ofInt_per (z : Int) : Int32.ofInt (z + 4294967296) = Int32.ofInt z := by
  apply Int32.toInt_inj.mp
  rw [Int32.toInt_ofInt, Int32.toInt_ofInt]
  exact Int.add_bmod_right z Int32.size
theorem iv_per (z : Int) : iv (z + 4294967296) = iv z := congrArg Value.int (ofInt_per z)
theorem l276_37 {u t : Nat} (hs : Sh w) (hM : MR w m) (hu : (u : Int) < m 1) (ht : (t : Int) < m 4) (hx3 : bd x3) (h : Q (.inl (some (iv (sel (fun s => rPin m u s t) x3 (m 0).toNat)))) w) : ∀ k i : Nat, i + k = (m 0).toNat → ∀ y : Int, bd y → (0 ≤ x3 → y = x3 - (cnt (fun s => rPin m u s t) i : Nat) ∧ ((cnt (fun s => rPin m u s t) i : Nat) : Int) ≤ x3) → (x3 < 0 → y < 0 ∨ 2147483647 - (i : Int) ≤ y) → pX 276 37 [some (.ref 169), some (iv (u : Nat)), some (iv (t : Nat)), some (iv x3), some (iv y), some (iv (i : Nat))] [] w Q := by
  have h0 := hM.ok.s
  have h1 := hM.ok.u
  have h4 := hM.ok.t
  intro k
  induction k with
  | zero =>
    intro i hi y hy ha hb
    refine v276_37 hs (bdk (by omega)) (bdk (by omega)) hx3 hy (bdk (by omega)) ?_
    rw [hM.g (k := 0) rfl]
    refine ⟨fun _ => ?_, fun q => by omega⟩
    rw [show (m 0).toNat = i from by omega, sel_no (by
      by_cases q : 0 ≤ x3
      · exact Or.inr (ha q).2
      · omega)] at h
    exact h
  | succ k ih =>
    intro i hi y hy ha hb
    have hy2 := hy
    obtain ⟨y1, y2⟩ := hy2
    refine v276_37 hs (bdk (by omega)) (bdk (by omega)) hx3 hy (bdk (by omega)) ?_
    rw [hM.g (k := 0) rfl, hM.pin (by omega) (by omega), Int.toNat_natCast]
    refine ⟨fun q => by omega, fun _ => ⟨⟨by omega, by omega⟩, ⟨by omega, by omega⟩, ⟨by omega, by omega⟩, fun q => ⟨fun q2 => ?_, fun q2 => ?_⟩, fun q => ?_⟩⟩
    · have hc : cnt (fun s => rPin m u s t) (i + 1) = cnt (fun s => rPin m u s t) i + 1 := cnt_t (P := fun s => rPin m u s t) q
      by_cases q4 : y = -2147483648
      · have := ih (i + 1) (by omega) 2147483647 ⟨by decide, by decide⟩ (fun z => by have := ha z; omega) (fun z => by omega)
        rw [show iv (y + (-1)) = iv 2147483647 from by rw [← iv_per, q4]; rfl]
        exact this
      · exact ih (i + 1) (by omega) (y + (-1)) ⟨by omega, by omega⟩ (fun z => by have := ha z; omega) (fun z => by have := hb z; omega)
    · by_cases q3 : 0 ≤ x3
      · rw [sel_at (i := i) (by omega) q (by have := ha q3; omega)] at h
        exact h
      · have := hb (by omega); omega
    · have hc : cnt (fun s => rPin m u s t) (i + 1) = cnt (fun s => rPin m u s t) i := cnt_f (P := fun s => rPin m u s t) (Bool.eq_false_iff.mpr q)
      have := ih (i + 1) (by omega) y hy (fun z => by rw [hc]; exact ha z) (fun z => by have := hb z; omega)
      exact this
theorem c276 (hs : Sh w) (hM : MR w m) (hx1 : bd x1) (hx2 : bd x2) (hx3 : bd x3) (h : ∀ w2, MqF w w2 → gI w2 169 0 = moE (sp82 m x1 x2 x3) → Q (moV (sp82 m x1 x2 x3)) w2) : pC 276 [.ref 169, iv x1, iv x2, iv x3] w Q := by
  have h1 := hM.ok.u
  have h4 := hM.ok.t
  refine e276 hs hx1 hx2 hx3 ?_
  rw [hM.g (k := 1) rfl]
  refine ⟨⟨by omega, by omega⟩, fun q w2 e2 => ?_, (moG hs (by decide) h).2⟩
  obtain ⟨F2, g2, h2⟩ := (moG hs (by decide) h).1 q w2 e2
  have hM2 := F2.mr hM
  rw [hM2.g (k := 4) rfl]
  refine ⟨⟨by omega, by omega⟩, fun q2 => ?_, fun q2 w9 e9 => ?_⟩
  · have h3 := moI (mo_t h2 q2) g2 w2 (MF.rf F2.1)
    obtain ⟨u, rfl⟩ := nat_of q.1
    obtain ⟨t, rfl⟩ := nat_of q2.1
    rw [Int.toNat_natCast, Int.toNat_natCast] at h3
    exact l276_37 F2.1 hM2 q.2 q2.2 hx3 h3 _ 0 (Nat.zero_add _) x3 hx3 (fun z => ⟨by show x3 = x3 - (0 : Int); omega, z⟩) (fun z => Or.inl z)
  · obtain ⟨F9, g9⟩ := MqF.th F2.1 e9 ⟨by decide, by decide⟩
    exact mo_f h2 q2 w9 F9 g9
theorem c283 (hs : Sh w) (hM : MR w m) (hx1 : bd x1) (hx2 : bd x2) (hx3 : bd x3) (h : ∀ w2, MqF w w2 → gI w2 169 0 = moE (sp97 m x1 x2 x3) → Q (moV (sp97 m x1 x2 x3)) w2) : pC 283 [.ref 169, iv x1, iv x2, iv x3] w Q := by
  have h0 := hM.ok.s
  have h1 := hM.ok.u
  have h4 := hM.ok.t
  refine e283 hs hx1 hx2 hx3 ?_
  rw [hM.g (k := 1) rfl, i2L_toInt hx3, show (0 : Int64).toInt = 0 from by decide, show (3 : Int64).toInt = 3 from by decide]
  refine ⟨⟨by omega, by omega⟩, (moG hs (by decide) h).2, fun q => ⟨fun q3 w4 e4 => ?_, (moG hs (by decide) (mo_t h q)).2⟩⟩
  obtain ⟨F2, g2, h2⟩ := (moG hs (by decide) (mo_t h q)).1 q3 w4 e4
  have hM2 := F2.mr hM
  have h3 := moI h2 g2
  obtain ⟨u, rfl⟩ := nat_of q.1
  rw [Int.toNat_natCast] at h3
  have hb := sCf_768 hM.ok u
  have hno : ∀ w3, MF w4 w3 → (x2 < 0 ∨ (sCf m u : Int) ≤ x2) → Q (.inl (some (iv (-1)))) w3 := fun w3 F3 z => by
    have := h3 w3 F3
    rw [if_pos (sel_no z)] at this
    exact this
  refine ⟨fun q4 => hno w4 (MF.rf F2.1) (Or.inl q4), fun q4 => c280 F2.1 hx2 hM2 q.2 (fun c hc hp hx w5 F5 g17 g18 g19 g20 => kI_iv ⟨by have := cnt_le (sCfP m u) c; omega, by have := cnt_le (sCfP m u) c; omega⟩ ⟨F5.1, fun _ => ?_, fun z => by omega⟩) (fun z w5 F5 => kI_iv (bdk (by omega)) ⟨F5.1, fun q5 => by omega, fun _ => hno w5 F5 z⟩)⟩
  have h5 := h3 w5 F5
  have hS : ((c % 64 : Nat) : Int) < m 0 ∧ 0 < sShort m u (c / 64) (c % 64) := by
    unfold sCfP at hp
    rw [Bool.and_eq_true, decide_eq_true_eq, decide_eq_true_eq] at hp
    exact hp
  have hT : c < 64 * (m 4).toNat := by
    by_cases q7 : c < 64 * (m 4).toNat
    · exact q7
    · have a1 : 0 < sShort m u (c / 64) (c % 64) := hS.2
      have hr : rPin m u (c % 64) (c / 64) ≠ true := fun z => by
        have := (hM.ok.P q.2 hS.1).2 (c / 64) (by omega) z
        omega
      unfold sShort at a1
      rw [if_neg hr] at a1
      omega
  rw [sel_at (i := c) hT hp hx, if_neg (by omega), Int.toNat_natCast] at h5
  rw [g17, g18, g19, g20]
  refine ⟨fun n0 => ⟨fun n1 => ⟨fun n2 => ?_, fun n2 => ?_⟩, fun n1 => ?_⟩, fun n0 => ?_⟩
  · rw [if_neg n0, if_neg n1, if_neg n2] at h5
    exact h5
  · rw [if_neg n0, if_neg n1, if_pos n2] at h5
    exact h5
  · rw [if_neg n0, if_pos n1] at h5
    exact h5
  · rw [if_pos n0] at h5
    exact h5
end MQ3
