/-! THE READER: the class -/
/-! 9: PinBarrel$Reader.take(J)Z -/
theorem b9 : mB 9 = cX4_take := rfl
theorem r9 : mR 9 = (some .boolean) := rfl
theorem p9 (a b : Nat) : phi 9 a ≤ phi 9 b := Nat.le_refl 0
theorem d9_0 : decode cX4_take 0 = .ok (.iconst 0, 1) := by decide +kernel
theorem d9_1 : decode cX4_take 1 = .ok (.istore_n 3, 1) := by decide +kernel
theorem d9_2 : decode cX4_take 2 = .ok (.bipush 56, 2) := by decide +kernel
theorem d9_4 : decode cX4_take 4 = .ok (.istore 4, 2) := by decide +kernel
theorem d9_6 : decode cX4_take 6 = .ok (.iload 4, 2) := by decide +kernel
theorem d9_8 : decode cX4_take 8 = .ok (.ifCond .lt 25, 3) := by decide +kernel
theorem d9_11 : decode cX4_take 11 = .ok (.lload_n 1, 1) := by decide +kernel
theorem d9_12 : decode cX4_take 12 = .ok (.iload 4, 2) := by decide +kernel
theorem d9_14 : decode cX4_take 14 = .ok (.lushr, 1) := by decide +kernel
theorem d9_15 : decode cX4_take 15 = .ok (.ldc2_w 31, 3) := by decide +kernel
theorem d9_18 : decode cX4_take 18 = .ok (.land, 1) := by decide +kernel
theorem d9_19 : decode cX4_take 19 = .ok (.lconst 0, 1) := by decide +kernel
theorem d9_20 : decode cX4_take 20 = .ok (.lcmp, 1) := by decide +kernel
theorem d9_21 : decode cX4_take 21 = .ok (.ifCond .eq 6, 3) := by decide +kernel
theorem d9_24 : decode cX4_take 24 = .ok (.iinc 3 1, 3) := by decide +kernel
theorem d9_27 : decode cX4_take 27 = .ok (.iinc 4 (-8), 3) := by decide +kernel
theorem d9_30 : decode cX4_take 30 = .ok (.goto (-24), 3) := by decide +kernel
theorem d9_33 : decode cX4_take 33 = .ok (.aload_n 0, 1) := by decide +kernel
theorem d9_34 : decode cX4_take 34 = .ok (.getfield 15, 3) := by decide +kernel
theorem d9_37 : decode cX4_take 37 = .ok (.iload_n 3, 1) := by decide +kernel
theorem d9_38 : decode cX4_take 38 = .ok (.iadd, 1) := by decide +kernel
theorem d9_39 : decode cX4_take 39 = .ok (.sipush 700, 3) := by decide +kernel
theorem d9_42 : decode cX4_take 42 = .ok (.if_icmp .le 5, 3) := by decide +kernel
theorem d9_45 : decode cX4_take 45 = .ok (.iconst 0, 1) := by decide +kernel
theorem d9_46 : decode cX4_take 46 = .ok (.ireturn, 1) := by decide +kernel
theorem d9_47 : decode cX4_take 47 = .ok (.bipush 56, 2) := by decide +kernel
theorem d9_49 : decode cX4_take 49 = .ok (.istore 4, 2) := by decide +kernel
theorem d9_51 : decode cX4_take 51 = .ok (.iload 4, 2) := by decide +kernel
theorem d9_53 : decode cX4_take 53 = .ok (.ifCond .lt 57, 3) := by decide +kernel
theorem d9_56 : decode cX4_take 56 = .ok (.lload_n 1, 1) := by decide +kernel
theorem d9_57 : decode cX4_take 57 = .ok (.iload 4, 2) := by decide +kernel
theorem d9_59 : decode cX4_take 59 = .ok (.lushr, 1) := by decide +kernel
theorem d9_60 : decode cX4_take 60 = .ok (.ldc2_w 31, 3) := by decide +kernel
theorem d9_63 : decode cX4_take 63 = .ok (.land, 1) := by decide +kernel
theorem d9_64 : decode cX4_take 64 = .ok (.l2i, 1) := by decide +kernel
theorem d9_65 : decode cX4_take 65 = .ok (.istore 5, 2) := by decide +kernel
theorem d9_67 : decode cX4_take 67 = .ok (.iload 5, 2) := by decide +kernel
theorem d9_69 : decode cX4_take 69 = .ok (.ifCond .eq 35, 3) := by decide +kernel
theorem d9_72 : decode cX4_take 72 = .ok (.aload_n 0, 1) := by decide +kernel
theorem d9_73 : decode cX4_take 73 = .ok (.getfield 15, 3) := by decide +kernel
theorem d9_76 : decode cX4_take 76 = .ok (.sipush 700, 3) := by decide +kernel
theorem d9_79 : decode cX4_take 79 = .ok (.if_icmp .ge 25, 3) := by decide +kernel
theorem d9_82 : decode cX4_take 82 = .ok (.aload_n 0, 1) := by decide +kernel
theorem d9_83 : decode cX4_take 83 = .ok (.getfield 9, 3) := by decide +kernel
theorem d9_86 : decode cX4_take 86 = .ok (.aload_n 0, 1) := by decide +kernel
theorem d9_87 : decode cX4_take 87 = .ok (.getfield 15, 3) := by decide +kernel
theorem d9_90 : decode cX4_take 90 = .ok (.iload 5, 2) := by decide +kernel
theorem d9_92 : decode cX4_take 92 = .ok (.i2c, 1) := by decide +kernel
theorem d9_93 : decode cX4_take 93 = .ok (.castore, 1) := by decide +kernel
theorem d9_94 : decode cX4_take 94 = .ok (.aload_n 0, 1) := by decide +kernel
theorem d9_95 : decode cX4_take 95 = .ok (.dup, 1) := by decide +kernel
theorem d9_96 : decode cX4_take 96 = .ok (.getfield 15, 3) := by decide +kernel
theorem d9_99 : decode cX4_take 99 = .ok (.iconst 1, 1) := by decide +kernel
theorem d9_100 : decode cX4_take 100 = .ok (.iadd, 1) := by decide +kernel
theorem d9_101 : decode cX4_take 101 = .ok (.putfield 15, 3) := by decide +kernel
theorem d9_104 : decode cX4_take 104 = .ok (.iinc 4 (-8), 3) := by decide +kernel
theorem d9_107 : decode cX4_take 107 = .ok (.goto (-56), 3) := by decide +kernel
theorem d9_110 : decode cX4_take 110 = .ok (.iconst 1, 1) := by decide +kernel
theorem d9_111 : decode cX4_take 111 = .ok (.ireturn, 1) := by decide +kernel
theorem v9_0 {w : PW} {Q : PO → PW → Prop} {y1 : Int64} (hs : Sh w)  (h : pX 9 6 [some (.ref 135), some (.long y1), none, some (iv 0), some (iv 56), none] [] w Q) : pX 9 0 [some (.ref 135), some (.long y1), none, none, none, none] [] w Q :=
  w_f b9 d9_0 rfl rfl rfl <| w_f b9 d9_1 rfl rfl rfl <| w_f b9 d9_2 rfl rfl rfl <| w_f b9 d9_4 rfl rfl rfl <| h
theorem e9 {w : PW} {Q : PO → PW → Prop} {y1 : Int64} (hs : Sh w)  (h : pX 9 6 [some (.ref 135), some (.long y1), none, some (iv 0), some (iv 56), none] [] w Q) : pC 9 [.ref 135, .long y1] w Q :=
  (pC_in (Nat.le_of_ble_eq_true rfl) rfl Q).mpr (v9_0 hs  h)
theorem v9_6 {w : PW} {Q : PO → PW → Prop} {y1 : Int64} {x3 : Int} {x4 : Int} {o5 : Option Value} (hs : Sh w) (hx3 : bd x3) (hx4 : bd x4) (ho5 : pc2 o5 = false) (h : (x4 < 0 → (bd ((gI w 135 1) + x3)) ∧ (((gI w 135 1) + x3) ≤ 700 → pX 9 51 [some (.ref 135), some (.long y1), none, some (iv x3), some (iv 56), o5] [] w Q) ∧ (700 < ((gI w 135 1) + x3) → Q (.inl (some (iv 0))) w)) ∧ (0 ≤ x4 → ((lCmp ((lUsh y1 x4) &&& ((255 : Int64))) ((0 : Int64))) = 0 → pX 9 6 [some (.ref 135), some (.long y1), none, some (iv x3), some (iv (x4 + (-8))), o5] [] w Q) ∧ ((lCmp ((lUsh y1 x4) &&& ((255 : Int64))) ((0 : Int64))) ≠ 0 → pX 9 6 [some (.ref 135), some (.long y1), none, some (iv (x3 + 1)), some (iv (x4 + (-8))), o5] [] w Q))) : pX 9 6 [some (.ref 135), some (.long y1), none, some (iv x3), some (iv x4), o5] [] w Q :=
  w_f b9 d9_6 rfl rfl rfl <| w_iflt b9 d9_8 rfl rfl (p9 _ _) hx4 (fun c1 => w_f b9 d9_33 rfl rfl rfl <| w_gi b9 d9_34 rfl rfl hs (tlt 135 rfl) tbC_135 rfl <| w_f b9 d9_37 rfl rfl rfl <| w_f b9 d9_38 rfl (pf_iadd (gI w 135 1) x3) rfl <| w_f b9 d9_39 rfl rfl rfl <| w_icle b9 d9_42 rfl rfl (p9 _ _) (h.1 c1).1 ⟨by decide, by decide⟩ (fun c2 => w_f b9 d9_47 rfl rfl rfl <| w_f b9 d9_49 rfl rfl rfl <| ((h.1 c1).2.1 c2)) (fun c2 => w_f b9 d9_45 rfl rfl rfl <| w_rz b9 d9_46 r9 (by decide) ((h.1 c1).2.2 c2))) (fun c1 => w_f b9 d9_11 rfl rfl rfl <| w_f b9 d9_12 rfl rfl rfl <| w_f b9 d9_14 rfl rfl rfl <| w_ldcL b9 d9_15 rfl rfl <| w_f b9 d9_18 rfl rfl rfl <| w_f b9 d9_19 rfl rfl rfl <| w_f b9 d9_20 rfl (pf_lcmp _ _) rfl <| w_ifeq b9 d9_21 rfl rfl (p9 _ _) (bd_toInt _) (fun c3 => w_f b9 d9_27 rfl (pf_iinc rfl rfl) rfl <| w_j b9 d9_30 rfl (p9 _ _) <| ((h.2 c1).1 c3)) (fun c3 => w_f b9 d9_24 rfl (pf_iinc rfl rfl) rfl <| w_f b9 d9_27 rfl (pf_iinc rfl rfl) rfl <| w_j b9 d9_30 rfl (p9 _ _) <| ((h.2 c1).2 c3)))
theorem v9_51 {w : PW} {Q : PO → PW → Prop} {y1 : Int64} {x3 : Int} {x4 : Int} {o5 : Option Value} (hs : Sh w) (hx3 : bd x3) (hx4 : bd x4) (ho5 : pc2 o5 = false) (h : (x4 < 0 → Q (.inl (some (iv 1))) w) ∧ (0 ≤ x4 → ((l2I ((lUsh y1 x4) &&& ((255 : Int64)))) = 0 → pX 9 51 [some (.ref 135), some (.long y1), none, some (iv x3), some (iv (x4 + (-8))), some (iv (l2I ((lUsh y1 x4) &&& ((255 : Int64)))))] [] w Q) ∧ ((l2I ((lUsh y1 x4) &&& ((255 : Int64)))) ≠ 0 → (700 ≤ (gI w 135 1) → pX 9 51 [some (.ref 135), some (.long y1), none, some (iv x3), some (iv (x4 + (-8))), some (iv (l2I ((lUsh y1 x4) &&& ((255 : Int64)))))] [] w Q) ∧ ((gI w 135 1) < 700 → (0 ≤ (gI w 135 1) ∧ (gI w 135 1) < 700) ∧ (vp_nar .char (Int32.ofInt (i2C (l2I ((lUsh y1 x4) &&& ((255 : Int64)))))) = Int32.ofInt (i2C (l2I ((lUsh y1 x4) &&& ((255 : Int64)))))) ∧ ∀ w4 : PW, w4 = sI w 136 (gI w 135 1).toNat (i2C (l2I ((lUsh y1 x4) &&& ((255 : Int64))))) → ∀ w5 : PW, w5 = sI w4 135 1 ((gI w4 135 1) + 1) → pX 9 51 [some (.ref 135), some (.long y1), none, some (iv x3), some (iv (x4 + (-8))), some (iv (l2I ((lUsh y1 x4) &&& ((255 : Int64)))))] [] w5 Q)))) : pX 9 51 [some (.ref 135), some (.long y1), none, some (iv x3), some (iv x4), o5] [] w Q :=
  w_f b9 d9_51 rfl rfl rfl <| w_iflt b9 d9_53 rfl rfl (p9 _ _) hx4 (fun c1 => w_f b9 d9_110 rfl rfl rfl <| w_rz b9 d9_111 r9 (by decide) (h.1 c1)) (fun c1 => w_f b9 d9_56 rfl rfl rfl <| w_f b9 d9_57 rfl rfl rfl <| w_f b9 d9_59 rfl rfl rfl <| w_ldcL b9 d9_60 rfl rfl <| w_f b9 d9_63 rfl rfl rfl <| w_f b9 d9_64 rfl (pf_l2i _) rfl <| w_f b9 d9_65 rfl rfl rfl <| w_f b9 d9_67 rfl rfl rfl <| w_ifeq b9 d9_69 rfl rfl (p9 _ _) (bd_toInt _) (fun c2 => w_f b9 d9_104 rfl (pf_iinc rfl rfl) rfl <| w_j b9 d9_107 rfl (p9 _ _) <| ((h.2 c1).1 c2)) (fun c2 => w_f b9 d9_72 rfl rfl rfl <| w_gi b9 d9_73 rfl rfl hs (tlt 135 rfl) tbC_135 rfl <| w_f b9 d9_76 rfl rfl rfl <| w_icge b9 d9_79 rfl rfl (p9 _ _) (bd_gI _ _ _) ⟨by decide, by decide⟩ (fun c3 => w_f b9 d9_104 rfl (pf_iinc rfl rfl) rfl <| w_j b9 d9_107 rfl (p9 _ _) <| (((h.2 c1).2 c2).1 c3)) (fun c3 => w_f b9 d9_82 rfl rfl rfl <| w_gr b9 d9_83 rfl rfl hs (tlt 135 rfl) tbC_135 rfl (by decide) <| w_f b9 d9_86 rfl rfl rfl <| w_gi b9 d9_87 rfl rfl hs (tlt 135 rfl) tbC_135 rfl <| w_f b9 d9_90 rfl rfl rfl <| w_f b9 d9_92 rfl (pf_i2c _) rfl <| w_cas b9 d9_93 rfl hs (tlt 136 rfl) tbC_136 (bdix (n := 700) (((h.2 c1).2 c2).2 c3).1 rfl) (((h.2 c1).2 c2).2 c3).1 (((h.2 c1).2 c2).2 c3).2.1 <| w_f b9 d9_94 rfl rfl rfl <| w_f b9 d9_95 rfl rfl rfl <| w_gi b9 d9_96 rfl rfl (Sh_sI hs (slt_a tbC_136)) (tlt 135 rfl) tbC_135 rfl <| w_f b9 d9_99 rfl rfl rfl <| w_f b9 d9_100 rfl (pf_iadd _ 1) rfl <| w_pi b9 d9_101 rfl rfl (Sh_sI hs (slt_a tbC_136)) (tlt 135 rfl) tbC_135 rfl rfl rfl <| w_f b9 d9_104 rfl (pf_iinc rfl rfl) rfl <| w_j b9 d9_107 rfl (p9 _ _) <| (((((h.2 c1).2 c2).2 c3).2.2 _ rfl) _ rfl))))
/-! 11: PinBarrel$Reader.skipSpaces()V -/
theorem b11 : mB 11 = cX4_skipSpaces := rfl
theorem r11 : mR 11 = none := rfl
theorem p11 (a b : Nat) : phi 11 a ≤ phi 11 b := Nat.le_refl 0
theorem d11_0 : decode cX4_skipSpaces 0 = .ok (.aload_n 0, 1) := by decide +kernel
theorem d11_1 : decode cX4_skipSpaces 1 = .ok (.getfield 28, 3) := by decide +kernel
theorem d11_4 : decode cX4_skipSpaces 4 = .ok (.aload_n 0, 1) := by decide +kernel
theorem d11_5 : decode cX4_skipSpaces 5 = .ok (.getfield 15, 3) := by decide +kernel
theorem d11_8 : decode cX4_skipSpaces 8 = .ok (.if_icmp .ge 30, 3) := by decide +kernel
theorem d11_11 : decode cX4_skipSpaces 11 = .ok (.aload_n 0, 1) := by decide +kernel
theorem d11_12 : decode cX4_skipSpaces 12 = .ok (.getfield 9, 3) := by decide +kernel
theorem d11_15 : decode cX4_skipSpaces 15 = .ok (.aload_n 0, 1) := by decide +kernel
theorem d11_16 : decode cX4_skipSpaces 16 = .ok (.getfield 28, 3) := by decide +kernel
theorem d11_19 : decode cX4_skipSpaces 19 = .ok (.caload, 1) := by decide +kernel
theorem d11_20 : decode cX4_skipSpaces 20 = .ok (.bipush 32, 2) := by decide +kernel
theorem d11_22 : decode cX4_skipSpaces 22 = .ok (.if_icmp .ne 16, 3) := by decide +kernel
theorem d11_25 : decode cX4_skipSpaces 25 = .ok (.aload_n 0, 1) := by decide +kernel
theorem d11_26 : decode cX4_skipSpaces 26 = .ok (.dup, 1) := by decide +kernel
theorem d11_27 : decode cX4_skipSpaces 27 = .ok (.getfield 28, 3) := by decide +kernel
theorem d11_30 : decode cX4_skipSpaces 30 = .ok (.iconst 1, 1) := by decide +kernel
theorem d11_31 : decode cX4_skipSpaces 31 = .ok (.iadd, 1) := by decide +kernel
theorem d11_32 : decode cX4_skipSpaces 32 = .ok (.putfield 28, 3) := by decide +kernel
theorem d11_35 : decode cX4_skipSpaces 35 = .ok (.goto (-35), 3) := by decide +kernel
theorem d11_38 : decode cX4_skipSpaces 38 = .ok (.return_, 1) := by decide +kernel
theorem v11_0 {w : PW} {Q : PO → PW → Prop}  (hs : Sh w)  (h : ((gI w 135 1) ≤ (gI w 135 5) → Q (.inl none) w) ∧ ((gI w 135 5) < (gI w 135 1) → (0 ≤ (gI w 135 5) ∧ (gI w 135 5) < 700) ∧ ((gI w 136 (gI w 135 5).toNat) ≠ 32 → Q (.inl none) w) ∧ ((gI w 136 (gI w 135 5).toNat) = 32 → ∀ w3 : PW, w3 = sI w 135 5 ((gI w 135 5) + 1) → pX 11 0 [some (.ref 135)] [] w3 Q))) : pX 11 0 [some (.ref 135)] [] w Q :=
  w_f b11 d11_0 rfl rfl rfl <| w_gi b11 d11_1 rfl rfl hs (tlt 135 rfl) tbC_135 rfl <| w_f b11 d11_4 rfl rfl rfl <| w_gi b11 d11_5 rfl rfl hs (tlt 135 rfl) tbC_135 rfl <| w_icge b11 d11_8 rfl rfl (p11 _ _) (bd_gI _ _ _) (bd_gI _ _ _) (fun c1 => w_rv b11 d11_38 r11 (h.1 c1)) (fun c1 => w_f b11 d11_11 rfl rfl rfl <| w_gr b11 d11_12 rfl rfl hs (tlt 135 rfl) tbC_135 rfl (by decide) <| w_f b11 d11_15 rfl rfl rfl <| w_gi b11 d11_16 rfl rfl hs (tlt 135 rfl) tbC_135 rfl <| w_cal b11 d11_19 rfl hs (tlt 136 rfl) tbC_136 (bdix (n := 700) (h.2 c1).1 rfl) (h.2 c1).1 <| w_f b11 d11_20 rfl rfl rfl <| w_icne b11 d11_22 rfl rfl (p11 _ _) (bd_gI _ _ _) ⟨by decide, by decide⟩ (fun c2 => w_rv b11 d11_38 r11 ((h.2 c1).2.1 c2)) (fun c2 => w_f b11 d11_25 rfl rfl rfl <| w_f b11 d11_26 rfl rfl rfl <| w_gi b11 d11_27 rfl rfl hs (tlt 135 rfl) tbC_135 rfl <| w_f b11 d11_30 rfl rfl rfl <| w_f b11 d11_31 rfl (pf_iadd (gI w 135 5) 1) rfl <| w_pi b11 d11_32 rfl rfl hs (tlt 135 rfl) tbC_135 rfl rfl rfl <| w_j b11 d11_35 rfl (p11 _ _) <| (((h.2 c1).2.2 c2) _ rfl)))
theorem e11 {w : PW} {Q : PO → PW → Prop}  (hs : Sh w)  (h : ((gI w 135 1) ≤ (gI w 135 5) → Q (.inl none) w) ∧ ((gI w 135 5) < (gI w 135 1) → (0 ≤ (gI w 135 5) ∧ (gI w 135 5) < 700) ∧ ((gI w 136 (gI w 135 5).toNat) ≠ 32 → Q (.inl none) w) ∧ ((gI w 136 (gI w 135 5).toNat) = 32 → ∀ w3 : PW, w3 = sI w 135 5 ((gI w 135 5) + 1) → pX 11 0 [some (.ref 135)] [] w3 Q))) : pC 11 [.ref 135] w Q :=
  (pC_in (Nat.le_of_ble_eq_true rfl) rfl Q).mpr (v11_0 hs  h)
/-! 12: PinBarrel$Reader.readWord()I -/
theorem b12 : mB 12 = cX4_readWord := rfl
theorem r12 : mR 12 = (some .int) := rfl
theorem p12 (a b : Nat) : phi 12 a ≤ phi 12 b := Nat.le_refl 0
theorem d12_0 : decode cX4_readWord 0 = .ok (.aload_n 0, 1) := by decide +kernel
theorem d12_1 : decode cX4_readWord 1 = .ok (.invokevirtual 37, 3) := by decide +kernel
theorem d12_4 : decode cX4_readWord 4 = .ok (.aload_n 0, 1) := by decide +kernel
theorem d12_5 : decode cX4_readWord 5 = .ok (.getfield 28, 3) := by decide +kernel
theorem d12_8 : decode cX4_readWord 8 = .ok (.istore_n 1, 1) := by decide +kernel
theorem d12_9 : decode cX4_readWord 9 = .ok (.aload_n 0, 1) := by decide +kernel
theorem d12_10 : decode cX4_readWord 10 = .ok (.getfield 28, 3) := by decide +kernel
theorem d12_13 : decode cX4_readWord 13 = .ok (.aload_n 0, 1) := by decide +kernel
theorem d12_14 : decode cX4_readWord 14 = .ok (.getfield 15, 3) := by decide +kernel
theorem d12_17 : decode cX4_readWord 17 = .ok (.if_icmp .ge 44, 3) := by decide +kernel
theorem d12_20 : decode cX4_readWord 20 = .ok (.aload_n 0, 1) := by decide +kernel
theorem d12_21 : decode cX4_readWord 21 = .ok (.getfield 9, 3) := by decide +kernel
theorem d12_24 : decode cX4_readWord 24 = .ok (.aload_n 0, 1) := by decide +kernel
theorem d12_25 : decode cX4_readWord 25 = .ok (.getfield 28, 3) := by decide +kernel
theorem d12_28 : decode cX4_readWord 28 = .ok (.caload, 1) := by decide +kernel
theorem d12_29 : decode cX4_readWord 29 = .ok (.bipush 97, 2) := by decide +kernel
theorem d12_31 : decode cX4_readWord 31 = .ok (.if_icmp .lt 30, 3) := by decide +kernel
theorem d12_34 : decode cX4_readWord 34 = .ok (.aload_n 0, 1) := by decide +kernel
theorem d12_35 : decode cX4_readWord 35 = .ok (.getfield 9, 3) := by decide +kernel
theorem d12_38 : decode cX4_readWord 38 = .ok (.aload_n 0, 1) := by decide +kernel
theorem d12_39 : decode cX4_readWord 39 = .ok (.getfield 28, 3) := by decide +kernel
theorem d12_42 : decode cX4_readWord 42 = .ok (.caload, 1) := by decide +kernel
theorem d12_43 : decode cX4_readWord 43 = .ok (.bipush 122, 2) := by decide +kernel
theorem d12_45 : decode cX4_readWord 45 = .ok (.if_icmp .gt 16, 3) := by decide +kernel
theorem d12_48 : decode cX4_readWord 48 = .ok (.aload_n 0, 1) := by decide +kernel
theorem d12_49 : decode cX4_readWord 49 = .ok (.dup, 1) := by decide +kernel
theorem d12_50 : decode cX4_readWord 50 = .ok (.getfield 28, 3) := by decide +kernel
theorem d12_53 : decode cX4_readWord 53 = .ok (.iconst 1, 1) := by decide +kernel
theorem d12_54 : decode cX4_readWord 54 = .ok (.iadd, 1) := by decide +kernel
theorem d12_55 : decode cX4_readWord 55 = .ok (.putfield 28, 3) := by decide +kernel
theorem d12_58 : decode cX4_readWord 58 = .ok (.goto (-49), 3) := by decide +kernel
theorem d12_61 : decode cX4_readWord 61 = .ok (.iload_n 1, 1) := by decide +kernel
theorem d12_62 : decode cX4_readWord 62 = .ok (.ireturn, 1) := by decide +kernel
theorem v12_0 {w : PW} {Q : PO → PW → Prop}  (hs : Sh w)  (h : pC 11 [.ref 135] w (kV fun w1 => Sh w1 ∧ pX 12 9 [some (.ref 135), some (iv (gI w1 135 5))] [] w1 Q)) : pX 12 0 [some (.ref 135), none] [] w Q :=
  w_f b12 d12_0 rfl rfl rfl <| w_c b12 d12_1 rfl (pcl_v (n := 0) rfl rfl rfl (by decide +kernel) (sh_isOb hs (tlt 135 rfl) tbC_135) rfl rfl) rfl _ (hK_V fun w1 hkw1 => w_f b12 d12_4 rfl rfl rfl <| w_gi b12 d12_5 rfl rfl hkw1.1 (tlt 135 rfl) tbC_135 rfl <| w_f b12 d12_8 rfl rfl rfl <| hkw1.2) h
theorem e12 {w : PW} {Q : PO → PW → Prop}  (hs : Sh w)  (h : pC 11 [.ref 135] w (kV fun w1 => Sh w1 ∧ pX 12 9 [some (.ref 135), some (iv (gI w1 135 5))] [] w1 Q)) : pC 12 [.ref 135] w Q :=
  (pC_in (Nat.le_of_ble_eq_true rfl) rfl Q).mpr (v12_0 hs  h)
theorem v12_9 {w : PW} {Q : PO → PW → Prop} {x1 : Int} (hs : Sh w) (hx1 : bd x1) (h : ((gI w 135 1) ≤ (gI w 135 5) → Q (.inl (some (iv x1))) w) ∧ ((gI w 135 5) < (gI w 135 1) → (0 ≤ (gI w 135 5) ∧ (gI w 135 5) < 700) ∧ ((gI w 136 (gI w 135 5).toNat) < 97 → Q (.inl (some (iv x1))) w) ∧ (97 ≤ (gI w 136 (gI w 135 5).toNat) → (0 ≤ (gI w 135 5) ∧ (gI w 135 5) < 700) ∧ (122 < (gI w 136 (gI w 135 5).toNat) → Q (.inl (some (iv x1))) w) ∧ ((gI w 136 (gI w 135 5).toNat) ≤ 122 → ∀ w4 : PW, w4 = sI w 135 5 ((gI w 135 5) + 1) → pX 12 9 [some (.ref 135), some (iv x1)] [] w4 Q)))) : pX 12 9 [some (.ref 135), some (iv x1)] [] w Q :=
  w_f b12 d12_9 rfl rfl rfl <| w_gi b12 d12_10 rfl rfl hs (tlt 135 rfl) tbC_135 rfl <| w_f b12 d12_13 rfl rfl rfl <| w_gi b12 d12_14 rfl rfl hs (tlt 135 rfl) tbC_135 rfl <| w_icge b12 d12_17 rfl rfl (p12 _ _) (bd_gI _ _ _) (bd_gI _ _ _) (fun c1 => w_f b12 d12_61 rfl rfl rfl <| w_ri b12 d12_62 r12 (h.1 c1)) (fun c1 => w_f b12 d12_20 rfl rfl rfl <| w_gr b12 d12_21 rfl rfl hs (tlt 135 rfl) tbC_135 rfl (by decide) <| w_f b12 d12_24 rfl rfl rfl <| w_gi b12 d12_25 rfl rfl hs (tlt 135 rfl) tbC_135 rfl <| w_cal b12 d12_28 rfl hs (tlt 136 rfl) tbC_136 (bdix (n := 700) (h.2 c1).1 rfl) (h.2 c1).1 <| w_f b12 d12_29 rfl rfl rfl <| w_iclt b12 d12_31 rfl rfl (p12 _ _) (bd_gI _ _ _) ⟨by decide, by decide⟩ (fun c2 => w_f b12 d12_61 rfl rfl rfl <| w_ri b12 d12_62 r12 ((h.2 c1).2.1 c2)) (fun c2 => w_f b12 d12_34 rfl rfl rfl <| w_gr b12 d12_35 rfl rfl hs (tlt 135 rfl) tbC_135 rfl (by decide) <| w_f b12 d12_38 rfl rfl rfl <| w_gi b12 d12_39 rfl rfl hs (tlt 135 rfl) tbC_135 rfl <| w_cal b12 d12_42 rfl hs (tlt 136 rfl) tbC_136 (bdix (n := 700) ((h.2 c1).2.2 c2).1 rfl) ((h.2 c1).2.2 c2).1 <| w_f b12 d12_43 rfl rfl rfl <| w_icgt b12 d12_45 rfl rfl (p12 _ _) (bd_gI _ _ _) ⟨by decide, by decide⟩ (fun c3 => w_f b12 d12_61 rfl rfl rfl <| w_ri b12 d12_62 r12 (((h.2 c1).2.2 c2).2.1 c3)) (fun c3 => w_f b12 d12_48 rfl rfl rfl <| w_f b12 d12_49 rfl rfl rfl <| w_gi b12 d12_50 rfl rfl hs (tlt 135 rfl) tbC_135 rfl <| w_f b12 d12_53 rfl rfl rfl <| w_f b12 d12_54 rfl (pf_iadd (gI w 135 5) 1) rfl <| w_pi b12 d12_55 rfl rfl hs (tlt 135 rfl) tbC_135 rfl rfl rfl <| w_j b12 d12_58 rfl (p12 _ _) <| ((((h.2 c1).2.2 c2).2.2 c3) _ rfl))))
/-! 13: PinBarrel$Reader.isWord(ILjava/lang/String;)Z -/
theorem b13 : mB 13 = cX4_isWord := rfl
theorem r13 : mR 13 = (some .boolean) := rfl
theorem p13 (a b : Nat) : phi 13 a ≤ phi 13 b := Nat.le_refl 0
theorem d13_0 : decode cX4_isWord 0 = .ok (.aload_n 0, 1) := by decide +kernel
theorem d13_1 : decode cX4_isWord 1 = .ok (.getfield 28, 3) := by decide +kernel
theorem d13_4 : decode cX4_isWord 4 = .ok (.iload_n 1, 1) := by decide +kernel
theorem d13_5 : decode cX4_isWord 5 = .ok (.isub, 1) := by decide +kernel
theorem d13_6 : decode cX4_isWord 6 = .ok (.aload_n 2, 1) := by decide +kernel
theorem d13_7 : decode cX4_isWord 7 = .ok (.invokevirtual 132, 3) := by decide +kernel
theorem d13_10 : decode cX4_isWord 10 = .ok (.if_icmp .eq 5, 3) := by decide +kernel
theorem d13_13 : decode cX4_isWord 13 = .ok (.iconst 0, 1) := by decide +kernel
theorem d13_14 : decode cX4_isWord 14 = .ok (.ireturn, 1) := by decide +kernel
theorem d13_15 : decode cX4_isWord 15 = .ok (.iconst 0, 1) := by decide +kernel
theorem d13_16 : decode cX4_isWord 16 = .ok (.istore_n 3, 1) := by decide +kernel
theorem d13_17 : decode cX4_isWord 17 = .ok (.iload_n 3, 1) := by decide +kernel
theorem d13_18 : decode cX4_isWord 18 = .ok (.aload_n 2, 1) := by decide +kernel
theorem d13_19 : decode cX4_isWord 19 = .ok (.invokevirtual 132, 3) := by decide +kernel
theorem d13_22 : decode cX4_isWord 22 = .ok (.if_icmp .ge 27, 3) := by decide +kernel
theorem d13_25 : decode cX4_isWord 25 = .ok (.aload_n 0, 1) := by decide +kernel
theorem d13_26 : decode cX4_isWord 26 = .ok (.getfield 9, 3) := by decide +kernel
theorem d13_29 : decode cX4_isWord 29 = .ok (.iload_n 1, 1) := by decide +kernel
theorem d13_30 : decode cX4_isWord 30 = .ok (.iload_n 3, 1) := by decide +kernel
theorem d13_31 : decode cX4_isWord 31 = .ok (.iadd, 1) := by decide +kernel
theorem d13_32 : decode cX4_isWord 32 = .ok (.caload, 1) := by decide +kernel
theorem d13_33 : decode cX4_isWord 33 = .ok (.aload_n 2, 1) := by decide +kernel
theorem d13_34 : decode cX4_isWord 34 = .ok (.iload_n 3, 1) := by decide +kernel
theorem d13_35 : decode cX4_isWord 35 = .ok (.invokevirtual 136, 3) := by decide +kernel
theorem d13_38 : decode cX4_isWord 38 = .ok (.if_icmp .eq 5, 3) := by decide +kernel
theorem d13_41 : decode cX4_isWord 41 = .ok (.iconst 0, 1) := by decide +kernel
theorem d13_42 : decode cX4_isWord 42 = .ok (.ireturn, 1) := by decide +kernel
theorem d13_43 : decode cX4_isWord 43 = .ok (.iinc 3 1, 3) := by decide +kernel
theorem d13_46 : decode cX4_isWord 46 = .ok (.goto (-29), 3) := by decide +kernel
theorem d13_49 : decode cX4_isWord 49 = .ok (.iconst 1, 1) := by decide +kernel
theorem d13_50 : decode cX4_isWord 50 = .ok (.ireturn, 1) := by decide +kernel
theorem v13_0 {w : PW} {Q : PO → PW → Prop} {x1 : Int} {r2 : Nat} (hs : Sh w) (hx1 : bd x1) (hr2 : r2 < 38) (h : (bd ((gI w 135 5) - x1)) ∧ (((gI w 135 5) - x1) = (((sTx.getD r2 []).length : Int)) → pX 13 17 [some (.ref 135), some (iv x1), some (.ref (pSB + r2)), some (iv 0)] [] w Q) ∧ (((gI w 135 5) - x1) ≠ (((sTx.getD r2 []).length : Int)) → Q (.inl (some (iv 0))) w)) : pX 13 0 [some (.ref 135), some (iv x1), some (.ref (pSB + r2)), none] [] w Q :=
  w_f b13 d13_0 rfl rfl rfl <| w_gi b13 d13_1 rfl rfl hs (tlt 135 rfl) tbC_135 rfl <| w_f b13 d13_4 rfl rfl rfl <| w_f b13 d13_5 rfl (pf_isub (gI w 135 5) x1) rfl <| w_f b13 d13_6 rfl rfl rfl <| w_slen b13 d13_7 rfl rfl hr2 rfl <| w_iceq b13 d13_10 rfl rfl (p13 _ _) h.1 (bd_sl hr2) (fun c1 => w_f b13 d13_15 rfl rfl rfl <| w_f b13 d13_16 rfl rfl rfl <| (h.2.1 c1)) (fun c1 => w_f b13 d13_13 rfl rfl rfl <| w_rz b13 d13_14 r13 (by decide) (h.2.2 c1))
theorem e13 {w : PW} {Q : PO → PW → Prop} {x1 : Int} {r2 : Nat} (hs : Sh w) (hx1 : bd x1) (hr2 : r2 < 38) (h : (bd ((gI w 135 5) - x1)) ∧ (((gI w 135 5) - x1) = (((sTx.getD r2 []).length : Int)) → pX 13 17 [some (.ref 135), some (iv x1), some (.ref (pSB + r2)), some (iv 0)] [] w Q) ∧ (((gI w 135 5) - x1) ≠ (((sTx.getD r2 []).length : Int)) → Q (.inl (some (iv 0))) w)) : pC 13 [.ref 135, iv x1, .ref (pSB + r2)] w Q :=
  (pC_in (Nat.le_of_ble_eq_true rfl) rfl Q).mpr (v13_0 hs hx1 hr2 h)
theorem v13_17 {w : PW} {Q : PO → PW → Prop} {x1 : Int} {r2 : Nat} {x3 : Int} (hs : Sh w) (hx1 : bd x1) (hr2 : r2 < 38) (hx3 : bd x3) (h : ((((sTx.getD r2 []).length : Int)) ≤ x3 → Q (.inl (some (iv 1))) w) ∧ (x3 < (((sTx.getD r2 []).length : Int)) → (0 ≤ (x1 + x3) ∧ (x1 + x3) < 700) ∧ (0 ≤ x3 ∧ x3 < (sTx.getD r2 []).length) ∧ ((gI w 136 (x1 + x3).toNat) = (((sTx.getD r2 []).getD x3.toNat 0 : Int)) → pX 13 17 [some (.ref 135), some (iv x1), some (.ref (pSB + r2)), some (iv (x3 + 1))] [] w Q) ∧ ((gI w 136 (x1 + x3).toNat) ≠ (((sTx.getD r2 []).getD x3.toNat 0 : Int)) → Q (.inl (some (iv 0))) w))) : pX 13 17 [some (.ref 135), some (iv x1), some (.ref (pSB + r2)), some (iv x3)] [] w Q :=
  w_f b13 d13_17 rfl rfl rfl <| w_f b13 d13_18 rfl rfl rfl <| w_slen b13 d13_19 rfl rfl hr2 rfl <| w_icge b13 d13_22 rfl rfl (p13 _ _) hx3 (bd_sl hr2) (fun c1 => w_f b13 d13_49 rfl rfl rfl <| w_rz b13 d13_50 r13 (by decide) (h.1 c1)) (fun c1 => w_f b13 d13_25 rfl rfl rfl <| w_gr b13 d13_26 rfl rfl hs (tlt 135 rfl) tbC_135 rfl (by decide) <| w_f b13 d13_29 rfl rfl rfl <| w_f b13 d13_30 rfl rfl rfl <| w_f b13 d13_31 rfl (pf_iadd x1 x3) rfl <| w_cal b13 d13_32 rfl hs (tlt 136 rfl) tbC_136 (bdix (n := 700) (h.2 c1).1 rfl) (h.2 c1).1 <| w_f b13 d13_33 rfl rfl rfl <| w_f b13 d13_34 rfl rfl rfl <| w_chat b13 d13_35 rfl rfl hr2 rfl hx3 (h.2 c1).2.1 <| w_iceq b13 d13_38 rfl rfl (p13 _ _) (bd_gI _ _ _) (bd_sc hr2 (h.2 c1).2.1) (fun c2 => w_f b13 d13_43 rfl (pf_iinc rfl rfl) rfl <| w_j b13 d13_46 rfl (p13 _ _) <| ((h.2 c1).2.2.1 c2)) (fun c2 => w_f b13 d13_41 rfl rfl rfl <| w_rz b13 d13_42 r13 (by decide) ((h.2 c1).2.2.2 c2)))
/-! 15: PinBarrel$Reader.readNumber(II)I -/
theorem b15 : mB 15 = cX4_readNumber := rfl
theorem r15 : mR 15 = (some .int) := rfl
theorem p15 (a b : Nat) : phi 15 a ≤ phi 15 b := Nat.le_refl 0
theorem d15_0 : decode cX4_readNumber 0 = .ok (.aload_n 0, 1) := by decide +kernel
theorem d15_1 : decode cX4_readNumber 1 = .ok (.invokevirtual 37, 3) := by decide +kernel
theorem d15_4 : decode cX4_readNumber 4 = .ok (.aload_n 0, 1) := by decide +kernel
theorem d15_5 : decode cX4_readNumber 5 = .ok (.getfield 28, 3) := by decide +kernel
theorem d15_8 : decode cX4_readNumber 8 = .ok (.istore_n 3, 1) := by decide +kernel
theorem d15_9 : decode cX4_readNumber 9 = .ok (.iconst 0, 1) := by decide +kernel
theorem d15_10 : decode cX4_readNumber 10 = .ok (.istore 4, 2) := by decide +kernel
theorem d15_12 : decode cX4_readNumber 12 = .ok (.aload_n 0, 1) := by decide +kernel
theorem d15_13 : decode cX4_readNumber 13 = .ok (.getfield 28, 3) := by decide +kernel
theorem d15_16 : decode cX4_readNumber 16 = .ok (.aload_n 0, 1) := by decide +kernel
theorem d15_17 : decode cX4_readNumber 17 = .ok (.getfield 15, 3) := by decide +kernel
theorem d15_20 : decode cX4_readNumber 20 = .ok (.if_icmp .ge 70, 3) := by decide +kernel
theorem d15_23 : decode cX4_readNumber 23 = .ok (.aload_n 0, 1) := by decide +kernel
theorem d15_24 : decode cX4_readNumber 24 = .ok (.getfield 9, 3) := by decide +kernel
theorem d15_27 : decode cX4_readNumber 27 = .ok (.aload_n 0, 1) := by decide +kernel
theorem d15_28 : decode cX4_readNumber 28 = .ok (.getfield 28, 3) := by decide +kernel
theorem d15_31 : decode cX4_readNumber 31 = .ok (.caload, 1) := by decide +kernel
theorem d15_32 : decode cX4_readNumber 32 = .ok (.bipush 48, 2) := by decide +kernel
theorem d15_34 : decode cX4_readNumber 34 = .ok (.if_icmp .lt 56, 3) := by decide +kernel
theorem d15_37 : decode cX4_readNumber 37 = .ok (.aload_n 0, 1) := by decide +kernel
theorem d15_38 : decode cX4_readNumber 38 = .ok (.getfield 9, 3) := by decide +kernel
theorem d15_41 : decode cX4_readNumber 41 = .ok (.aload_n 0, 1) := by decide +kernel
theorem d15_42 : decode cX4_readNumber 42 = .ok (.getfield 28, 3) := by decide +kernel
theorem d15_45 : decode cX4_readNumber 45 = .ok (.caload, 1) := by decide +kernel
theorem d15_46 : decode cX4_readNumber 46 = .ok (.bipush 57, 2) := by decide +kernel
theorem d15_48 : decode cX4_readNumber 48 = .ok (.if_icmp .gt 42, 3) := by decide +kernel
theorem d15_51 : decode cX4_readNumber 51 = .ok (.sipush 1000, 3) := by decide +kernel
theorem d15_54 : decode cX4_readNumber 54 = .ok (.bipush 10, 2) := by decide +kernel
theorem d15_56 : decode cX4_readNumber 56 = .ok (.iload 4, 2) := by decide +kernel
theorem d15_58 : decode cX4_readNumber 58 = .ok (.imul, 1) := by decide +kernel
theorem d15_59 : decode cX4_readNumber 59 = .ok (.aload_n 0, 1) := by decide +kernel
theorem d15_60 : decode cX4_readNumber 60 = .ok (.getfield 9, 3) := by decide +kernel
theorem d15_63 : decode cX4_readNumber 63 = .ok (.aload_n 0, 1) := by decide +kernel
theorem d15_64 : decode cX4_readNumber 64 = .ok (.getfield 28, 3) := by decide +kernel
theorem d15_67 : decode cX4_readNumber 67 = .ok (.caload, 1) := by decide +kernel
theorem d15_68 : decode cX4_readNumber 68 = .ok (.iadd, 1) := by decide +kernel
theorem d15_69 : decode cX4_readNumber 69 = .ok (.bipush 48, 2) := by decide +kernel
theorem d15_71 : decode cX4_readNumber 71 = .ok (.isub, 1) := by decide +kernel
theorem d15_72 : decode cX4_readNumber 72 = .ok (.invokestatic 127, 3) := by decide +kernel
theorem d15_75 : decode cX4_readNumber 75 = .ok (.istore 4, 2) := by decide +kernel
theorem d15_77 : decode cX4_readNumber 77 = .ok (.aload_n 0, 1) := by decide +kernel
theorem d15_78 : decode cX4_readNumber 78 = .ok (.dup, 1) := by decide +kernel
theorem d15_79 : decode cX4_readNumber 79 = .ok (.getfield 28, 3) := by decide +kernel
theorem d15_82 : decode cX4_readNumber 82 = .ok (.iconst 1, 1) := by decide +kernel
theorem d15_83 : decode cX4_readNumber 83 = .ok (.iadd, 1) := by decide +kernel
theorem d15_84 : decode cX4_readNumber 84 = .ok (.putfield 28, 3) := by decide +kernel
theorem d15_87 : decode cX4_readNumber 87 = .ok (.goto (-75), 3) := by decide +kernel
theorem d15_90 : decode cX4_readNumber 90 = .ok (.aload_n 0, 1) := by decide +kernel
theorem d15_91 : decode cX4_readNumber 91 = .ok (.getfield 28, 3) := by decide +kernel
theorem d15_94 : decode cX4_readNumber 94 = .ok (.iload_n 3, 1) := by decide +kernel
theorem d15_95 : decode cX4_readNumber 95 = .ok (.if_icmp .ne 12, 3) := by decide +kernel
theorem d15_98 : decode cX4_readNumber 98 = .ok (.aload_n 0, 1) := by decide +kernel
theorem d15_99 : decode cX4_readNumber 99 = .ok (.iconst 1, 1) := by decide +kernel
theorem d15_100 : decode cX4_readNumber 100 = .ok (.iload_n 3, 1) := by decide +kernel
theorem d15_101 : decode cX4_readNumber 101 = .ok (.invokevirtual 40, 3) := by decide +kernel
theorem d15_104 : decode cX4_readNumber 104 = .ok (.pop, 1) := by decide +kernel
theorem d15_105 : decode cX4_readNumber 105 = .ok (.iconst (-1), 1) := by decide +kernel
theorem d15_106 : decode cX4_readNumber 106 = .ok (.ireturn, 1) := by decide +kernel
theorem d15_107 : decode cX4_readNumber 107 = .ok (.iload 4, 2) := by decide +kernel
theorem d15_109 : decode cX4_readNumber 109 = .ok (.iload_n 1, 1) := by decide +kernel
theorem d15_110 : decode cX4_readNumber 110 = .ok (.if_icmp .lt 9, 3) := by decide +kernel
theorem d15_113 : decode cX4_readNumber 113 = .ok (.iload 4, 2) := by decide +kernel
theorem d15_115 : decode cX4_readNumber 115 = .ok (.iload_n 2, 1) := by decide +kernel
theorem d15_116 : decode cX4_readNumber 116 = .ok (.if_icmp .le 12, 3) := by decide +kernel
theorem d15_119 : decode cX4_readNumber 119 = .ok (.aload_n 0, 1) := by decide +kernel
theorem d15_120 : decode cX4_readNumber 120 = .ok (.iconst 2, 1) := by decide +kernel
theorem d15_121 : decode cX4_readNumber 121 = .ok (.iload_n 3, 1) := by decide +kernel
theorem d15_122 : decode cX4_readNumber 122 = .ok (.invokevirtual 40, 3) := by decide +kernel
theorem d15_125 : decode cX4_readNumber 125 = .ok (.pop, 1) := by decide +kernel
theorem d15_126 : decode cX4_readNumber 126 = .ok (.iconst (-1), 1) := by decide +kernel
theorem d15_127 : decode cX4_readNumber 127 = .ok (.ireturn, 1) := by decide +kernel
theorem d15_128 : decode cX4_readNumber 128 = .ok (.iload 4, 2) := by decide +kernel
theorem d15_130 : decode cX4_readNumber 130 = .ok (.ireturn, 1) := by decide +kernel
theorem v15_0 {w : PW} {Q : PO → PW → Prop} {x1 : Int} {x2 : Int} (hs : Sh w) (hx1 : bd x1) (hx2 : bd x2) (h : pC 11 [.ref 135] w (kV fun w1 => Sh w1 ∧ pX 15 12 [some (.ref 135), some (iv x1), some (iv x2), some (iv (gI w1 135 5)), some (iv 0)] [] w1 Q)) : pX 15 0 [some (.ref 135), some (iv x1), some (iv x2), none, none] [] w Q :=
  w_f b15 d15_0 rfl rfl rfl <| w_c b15 d15_1 rfl (pcl_v (n := 0) rfl rfl rfl (by decide +kernel) (sh_isOb hs (tlt 135 rfl) tbC_135) rfl rfl) rfl _ (hK_V fun w1 hkw1 => w_f b15 d15_4 rfl rfl rfl <| w_gi b15 d15_5 rfl rfl hkw1.1 (tlt 135 rfl) tbC_135 rfl <| w_f b15 d15_8 rfl rfl rfl <| w_f b15 d15_9 rfl rfl rfl <| w_f b15 d15_10 rfl rfl rfl <| hkw1.2) h
theorem e15 {w : PW} {Q : PO → PW → Prop} {x1 : Int} {x2 : Int} (hs : Sh w) (hx1 : bd x1) (hx2 : bd x2) (h : pC 11 [.ref 135] w (kV fun w1 => Sh w1 ∧ pX 15 12 [some (.ref 135), some (iv x1), some (iv x2), some (iv (gI w1 135 5)), some (iv 0)] [] w1 Q)) : pC 15 [.ref 135, iv x1, iv x2] w Q :=
  (pC_in (Nat.le_of_ble_eq_true rfl) rfl Q).mpr (v15_0 hs hx1 hx2 h)
theorem v15_12 {w : PW} {Q : PO → PW → Prop} {x1 : Int} {x2 : Int} {x3 : Int} {x4 : Int} (hs : Sh w) (hx1 : bd x1) (hx2 : bd x2) (hx3 : bd x3) (hx4 : bd x4) (h : ((gI w 135 1) ≤ (gI w 135 5) → ((gI w 135 5) ≠ x3 → (x4 < x1 → ∀ w4 : PW, w4 = sI (sI w 135 2 2) 135 3 x3 → Q (.inl (some (iv ((-1))))) w4) ∧ (x1 ≤ x4 → (x4 ≤ x2 → Q (.inl (some (iv x4))) w) ∧ (x2 < x4 → ∀ w6 : PW, w6 = sI (sI w 135 2 2) 135 3 x3 → Q (.inl (some (iv ((-1))))) w6))) ∧ ((gI w 135 5) = x3 → ∀ w7 : PW, w7 = sI (sI w 135 2 1) 135 3 x3 → Q (.inl (some (iv ((-1))))) w7)) ∧ ((gI w 135 5) < (gI w 135 1) → (0 ≤ (gI w 135 5) ∧ (gI w 135 5) < 700) ∧ ((gI w 136 (gI w 135 5).toNat) < 48 → ((gI w 135 5) ≠ x3 → (x4 < x1 → ∀ w11 : PW, w11 = sI (sI w 135 2 2) 135 3 x3 → Q (.inl (some (iv ((-1))))) w11) ∧ (x1 ≤ x4 → (x4 ≤ x2 → Q (.inl (some (iv x4))) w) ∧ (x2 < x4 → ∀ w13 : PW, w13 = sI (sI w 135 2 2) 135 3 x3 → Q (.inl (some (iv ((-1))))) w13))) ∧ ((gI w 135 5) = x3 → ∀ w14 : PW, w14 = sI (sI w 135 2 1) 135 3 x3 → Q (.inl (some (iv ((-1))))) w14)) ∧ (48 ≤ (gI w 136 (gI w 135 5).toNat) → (0 ≤ (gI w 135 5) ∧ (gI w 135 5) < 700) ∧ (57 < (gI w 136 (gI w 135 5).toNat) → ((gI w 135 5) ≠ x3 → (x4 < x1 → ∀ w18 : PW, w18 = sI (sI w 135 2 2) 135 3 x3 → Q (.inl (some (iv ((-1))))) w18) ∧ (x1 ≤ x4 → (x4 ≤ x2 → Q (.inl (some (iv x4))) w) ∧ (x2 < x4 → ∀ w20 : PW, w20 = sI (sI w 135 2 2) 135 3 x3 → Q (.inl (some (iv ((-1))))) w20))) ∧ ((gI w 135 5) = x3 → ∀ w21 : PW, w21 = sI (sI w 135 2 1) 135 3 x3 → Q (.inl (some (iv ((-1))))) w21)) ∧ ((gI w 136 (gI w 135 5).toNat) ≤ 57 → (0 ≤ (gI w 135 5) ∧ (gI w 135 5) < 700) ∧ (bd (((10 * x4) + (gI w 136 (gI w 135 5).toNat)) - 48)) ∧ ∀ w22 : PW, w22 = sI w 135 5 ((gI w 135 5) + 1) → pX 15 12 [some (.ref 135), some (iv x1), some (iv x2), some (iv x3), some (iv (min 1000 (((10 * x4) + (gI w 136 (gI w 135 5).toNat)) - 48)))] [] w22 Q)))) : pX 15 12 [some (.ref 135), some (iv x1), some (iv x2), some (iv x3), some (iv x4)] [] w Q :=
  w_f b15 d15_12 rfl rfl rfl <| w_gi b15 d15_13 rfl rfl hs (tlt 135 rfl) tbC_135 rfl <| w_f b15 d15_16 rfl rfl rfl <| w_gi b15 d15_17 rfl rfl hs (tlt 135 rfl) tbC_135 rfl <| w_icge b15 d15_20 rfl rfl (p15 _ _) (bd_gI _ _ _) (bd_gI _ _ _) (fun c1 => w_f b15 d15_90 rfl rfl rfl <| w_gi b15 d15_91 rfl rfl hs (tlt 135 rfl) tbC_135 rfl <| w_f b15 d15_94 rfl rfl rfl <| w_icne b15 d15_95 rfl rfl (p15 _ _) (bd_gI _ _ _) hx3 (fun c2 => w_f b15 d15_107 rfl rfl rfl <| w_f b15 d15_109 rfl rfl rfl <| w_iclt b15 d15_110 rfl rfl (p15 _ _) hx4 hx1 (fun c3 => w_f b15 d15_119 rfl rfl rfl <| w_f b15 d15_120 rfl rfl rfl <| w_f b15 d15_121 rfl rfl rfl <| w_cc b15 d15_122 rfl (pcl_v (n := 2) rfl rfl rfl (by decide +kernel) (sh_isOb hs (tlt 135 rfl) tbC_135) rfl rfl) rfl <| c14 hs ⟨by decide, by decide⟩ hx3 <| w_f b15 d15_125 rfl rfl rfl <| w_f b15 d15_126 rfl rfl rfl <| w_ri b15 d15_127 r15 ((((h.1 c1).1 c2).1 c3) _ rfl)) (fun c3 => w_f b15 d15_113 rfl rfl rfl <| w_f b15 d15_115 rfl rfl rfl <| w_icle b15 d15_116 rfl rfl (p15 _ _) hx4 hx2 (fun c5 => w_f b15 d15_128 rfl rfl rfl <| w_ri b15 d15_130 r15 ((((h.1 c1).1 c2).2 c3).1 c5)) (fun c5 => w_f b15 d15_119 rfl rfl rfl <| w_f b15 d15_120 rfl rfl rfl <| w_f b15 d15_121 rfl rfl rfl <| w_cc b15 d15_122 rfl (pcl_v (n := 2) rfl rfl rfl (by decide +kernel) (sh_isOb hs (tlt 135 rfl) tbC_135) rfl rfl) rfl <| c14 hs ⟨by decide, by decide⟩ hx3 <| w_f b15 d15_125 rfl rfl rfl <| w_f b15 d15_126 rfl rfl rfl <| w_ri b15 d15_127 r15 (((((h.1 c1).1 c2).2 c3).2 c5) _ rfl)))) (fun c2 => w_f b15 d15_98 rfl rfl rfl <| w_f b15 d15_99 rfl rfl rfl <| w_f b15 d15_100 rfl rfl rfl <| w_cc b15 d15_101 rfl (pcl_v (n := 2) rfl rfl rfl (by decide +kernel) (sh_isOb hs (tlt 135 rfl) tbC_135) rfl rfl) rfl <| c14 hs ⟨by decide, by decide⟩ hx3 <| w_f b15 d15_104 rfl rfl rfl <| w_f b15 d15_105 rfl rfl rfl <| w_ri b15 d15_106 r15 (((h.1 c1).2 c2) _ rfl))) (fun c1 => w_f b15 d15_23 rfl rfl rfl <| w_gr b15 d15_24 rfl rfl hs (tlt 135 rfl) tbC_135 rfl (by decide) <| w_f b15 d15_27 rfl rfl rfl <| w_gi b15 d15_28 rfl rfl hs (tlt 135 rfl) tbC_135 rfl <| w_cal b15 d15_31 rfl hs (tlt 136 rfl) tbC_136 (bdix (n := 700) (h.2 c1).1 rfl) (h.2 c1).1 <| w_f b15 d15_32 rfl rfl rfl <| w_iclt b15 d15_34 rfl rfl (p15 _ _) (bd_gI _ _ _) ⟨by decide, by decide⟩ (fun c8 => w_f b15 d15_90 rfl rfl rfl <| w_gi b15 d15_91 rfl rfl hs (tlt 135 rfl) tbC_135 rfl <| w_f b15 d15_94 rfl rfl rfl <| w_icne b15 d15_95 rfl rfl (p15 _ _) (bd_gI _ _ _) hx3 (fun c9 => w_f b15 d15_107 rfl rfl rfl <| w_f b15 d15_109 rfl rfl rfl <| w_iclt b15 d15_110 rfl rfl (p15 _ _) hx4 hx1 (fun c10 => w_f b15 d15_119 rfl rfl rfl <| w_f b15 d15_120 rfl rfl rfl <| w_f b15 d15_121 rfl rfl rfl <| w_cc b15 d15_122 rfl (pcl_v (n := 2) rfl rfl rfl (by decide +kernel) (sh_isOb hs (tlt 135 rfl) tbC_135) rfl rfl) rfl <| c14 hs ⟨by decide, by decide⟩ hx3 <| w_f b15 d15_125 rfl rfl rfl <| w_f b15 d15_126 rfl rfl rfl <| w_ri b15 d15_127 r15 (((((h.2 c1).2.1 c8).1 c9).1 c10) _ rfl)) (fun c10 => w_f b15 d15_113 rfl rfl rfl <| w_f b15 d15_115 rfl rfl rfl <| w_icle b15 d15_116 rfl rfl (p15 _ _) hx4 hx2 (fun c12 => w_f b15 d15_128 rfl rfl rfl <| w_ri b15 d15_130 r15 (((((h.2 c1).2.1 c8).1 c9).2 c10).1 c12)) (fun c12 => w_f b15 d15_119 rfl rfl rfl <| w_f b15 d15_120 rfl rfl rfl <| w_f b15 d15_121 rfl rfl rfl <| w_cc b15 d15_122 rfl (pcl_v (n := 2) rfl rfl rfl (by decide +kernel) (sh_isOb hs (tlt 135 rfl) tbC_135) rfl rfl) rfl <| c14 hs ⟨by decide, by decide⟩ hx3 <| w_f b15 d15_125 rfl rfl rfl <| w_f b15 d15_126 rfl rfl rfl <| w_ri b15 d15_127 r15 ((((((h.2 c1).2.1 c8).1 c9).2 c10).2 c12) _ rfl)))) (fun c9 => w_f b15 d15_98 rfl rfl rfl <| w_f b15 d15_99 rfl rfl rfl <| w_f b15 d15_100 rfl rfl rfl <| w_cc b15 d15_101 rfl (pcl_v (n := 2) rfl rfl rfl (by decide +kernel) (sh_isOb hs (tlt 135 rfl) tbC_135) rfl rfl) rfl <| c14 hs ⟨by decide, by decide⟩ hx3 <| w_f b15 d15_104 rfl rfl rfl <| w_f b15 d15_105 rfl rfl rfl <| w_ri b15 d15_106 r15 ((((h.2 c1).2.1 c8).2 c9) _ rfl))) (fun c8 => w_f b15 d15_37 rfl rfl rfl <| w_gr b15 d15_38 rfl rfl hs (tlt 135 rfl) tbC_135 rfl (by decide) <| w_f b15 d15_41 rfl rfl rfl <| w_gi b15 d15_42 rfl rfl hs (tlt 135 rfl) tbC_135 rfl <| w_cal b15 d15_45 rfl hs (tlt 136 rfl) tbC_136 (bdix (n := 700) ((h.2 c1).2.2 c8).1 rfl) ((h.2 c1).2.2 c8).1 <| w_f b15 d15_46 rfl rfl rfl <| w_icgt b15 d15_48 rfl rfl (p15 _ _) (bd_gI _ _ _) ⟨by decide, by decide⟩ (fun c15 => w_f b15 d15_90 rfl rfl rfl <| w_gi b15 d15_91 rfl rfl hs (tlt 135 rfl) tbC_135 rfl <| w_f b15 d15_94 rfl rfl rfl <| w_icne b15 d15_95 rfl rfl (p15 _ _) (bd_gI _ _ _) hx3 (fun c16 => w_f b15 d15_107 rfl rfl rfl <| w_f b15 d15_109 rfl rfl rfl <| w_iclt b15 d15_110 rfl rfl (p15 _ _) hx4 hx1 (fun c17 => w_f b15 d15_119 rfl rfl rfl <| w_f b15 d15_120 rfl rfl rfl <| w_f b15 d15_121 rfl rfl rfl <| w_cc b15 d15_122 rfl (pcl_v (n := 2) rfl rfl rfl (by decide +kernel) (sh_isOb hs (tlt 135 rfl) tbC_135) rfl rfl) rfl <| c14 hs ⟨by decide, by decide⟩ hx3 <| w_f b15 d15_125 rfl rfl rfl <| w_f b15 d15_126 rfl rfl rfl <| w_ri b15 d15_127 r15 ((((((h.2 c1).2.2 c8).2.1 c15).1 c16).1 c17) _ rfl)) (fun c17 => w_f b15 d15_113 rfl rfl rfl <| w_f b15 d15_115 rfl rfl rfl <| w_icle b15 d15_116 rfl rfl (p15 _ _) hx4 hx2 (fun c19 => w_f b15 d15_128 rfl rfl rfl <| w_ri b15 d15_130 r15 ((((((h.2 c1).2.2 c8).2.1 c15).1 c16).2 c17).1 c19)) (fun c19 => w_f b15 d15_119 rfl rfl rfl <| w_f b15 d15_120 rfl rfl rfl <| w_f b15 d15_121 rfl rfl rfl <| w_cc b15 d15_122 rfl (pcl_v (n := 2) rfl rfl rfl (by decide +kernel) (sh_isOb hs (tlt 135 rfl) tbC_135) rfl rfl) rfl <| c14 hs ⟨by decide, by decide⟩ hx3 <| w_f b15 d15_125 rfl rfl rfl <| w_f b15 d15_126 rfl rfl rfl <| w_ri b15 d15_127 r15 (((((((h.2 c1).2.2 c8).2.1 c15).1 c16).2 c17).2 c19) _ rfl)))) (fun c16 => w_f b15 d15_98 rfl rfl rfl <| w_f b15 d15_99 rfl rfl rfl <| w_f b15 d15_100 rfl rfl rfl <| w_cc b15 d15_101 rfl (pcl_v (n := 2) rfl rfl rfl (by decide +kernel) (sh_isOb hs (tlt 135 rfl) tbC_135) rfl rfl) rfl <| c14 hs ⟨by decide, by decide⟩ hx3 <| w_f b15 d15_104 rfl rfl rfl <| w_f b15 d15_105 rfl rfl rfl <| w_ri b15 d15_106 r15 (((((h.2 c1).2.2 c8).2.1 c15).2 c16) _ rfl))) (fun c15 => w_f b15 d15_51 rfl rfl rfl <| w_f b15 d15_54 rfl rfl rfl <| w_f b15 d15_56 rfl rfl rfl <| w_f b15 d15_58 rfl (pf_imul 10 x4) rfl <| w_f b15 d15_59 rfl rfl rfl <| w_gr b15 d15_60 rfl rfl hs (tlt 135 rfl) tbC_135 rfl (by decide) <| w_f b15 d15_63 rfl rfl rfl <| w_gi b15 d15_64 rfl rfl hs (tlt 135 rfl) tbC_135 rfl <| w_cal b15 d15_67 rfl hs (tlt 136 rfl) tbC_136 (bdix (n := 700) (((h.2 c1).2.2 c8).2.2 c15).1 rfl) (((h.2 c1).2.2 c8).2.2 c15).1 <| w_f b15 d15_68 rfl (pf_iadd (10 * x4) (gI w 136 (gI w 135 5).toNat)) rfl <| w_f b15 d15_69 rfl rfl rfl <| w_f b15 d15_71 rfl (pf_isub ((10 * x4) + (gI w 136 (gI w 135 5).toNat)) 48) rfl <| w_min b15 d15_72 rfl rfl rfl ⟨by decide, by decide⟩ (((h.2 c1).2.2 c8).2.2 c15).2.1 <| w_f b15 d15_75 rfl rfl rfl <| w_f b15 d15_77 rfl rfl rfl <| w_f b15 d15_78 rfl rfl rfl <| w_gi b15 d15_79 rfl rfl hs (tlt 135 rfl) tbC_135 rfl <| w_f b15 d15_82 rfl rfl rfl <| w_f b15 d15_83 rfl (pf_iadd (gI w 135 5) 1) rfl <| w_pi b15 d15_84 rfl rfl hs (tlt 135 rfl) tbC_135 rfl rfl rfl <| w_j b15 d15_87 rfl (p15 _ _) <| ((((h.2 c1).2.2 c8).2.2 c15).2.2 _ rfl))))
/-! 23: PinBarrel$Reader.readPitch()I -/
theorem b23 : mB 23 = cX4_readPitch := rfl
theorem r23 : mR 23 = (some .int) := rfl
theorem p23 (a b : Nat) : phi 23 a ≤ phi 23 b := Nat.le_refl 0
theorem d23_0 : decode cX4_readPitch 0 = .ok (.aload_n 0, 1) := by decide +kernel
theorem d23_1 : decode cX4_readPitch 1 = .ok (.invokevirtual 47, 3) := by decide +kernel
theorem d23_4 : decode cX4_readPitch 4 = .ok (.istore_n 1, 1) := by decide +kernel
theorem d23_5 : decode cX4_readPitch 5 = .ok (.iconst 0, 1) := by decide +kernel
theorem d23_6 : decode cX4_readPitch 6 = .ok (.istore_n 2, 1) := by decide +kernel
theorem d23_7 : decode cX4_readPitch 7 = .ok (.iload_n 2, 1) := by decide +kernel
theorem d23_8 : decode cX4_readPitch 8 = .ok (.bipush 12, 2) := by decide +kernel
theorem d23_10 : decode cX4_readPitch 10 = .ok (.if_icmp .ge 44, 3) := by decide +kernel
theorem d23_13 : decode cX4_readPitch 13 = .ok (.aload_n 0, 1) := by decide +kernel
theorem d23_14 : decode cX4_readPitch 14 = .ok (.iload_n 1, 1) := by decide +kernel
theorem d23_15 : decode cX4_readPitch 15 = .ok (.iload_n 2, 1) := by decide +kernel
theorem d23_16 : decode cX4_readPitch 16 = .ok (.invokestatic 121, 3) := by decide +kernel
theorem d23_19 : decode cX4_readPitch 19 = .ok (.invokevirtual 53, 3) := by decide +kernel
theorem d23_22 : decode cX4_readPitch 22 = .ok (.ifCond .eq 26, 3) := by decide +kernel
theorem d23_25 : decode cX4_readPitch 25 = .ok (.aload_n 0, 1) := by decide +kernel
theorem d23_26 : decode cX4_readPitch 26 = .ok (.iconst 0, 1) := by decide +kernel
theorem d23_27 : decode cX4_readPitch 27 = .ok (.iconst 1, 1) := by decide +kernel
theorem d23_28 : decode cX4_readPitch 28 = .ok (.invokevirtual 57, 3) := by decide +kernel
theorem d23_31 : decode cX4_readPitch 31 = .ok (.istore_n 3, 1) := by decide +kernel
theorem d23_32 : decode cX4_readPitch 32 = .ok (.iload_n 3, 1) := by decide +kernel
theorem d23_33 : decode cX4_readPitch 33 = .ok (.iconst (-1), 1) := by decide +kernel
theorem d23_34 : decode cX4_readPitch 34 = .ok (.if_icmp .ne 7, 3) := by decide +kernel
theorem d23_37 : decode cX4_readPitch 37 = .ok (.iconst (-1), 1) := by decide +kernel
theorem d23_38 : decode cX4_readPitch 38 = .ok (.goto 9, 3) := by decide +kernel
theorem d23_41 : decode cX4_readPitch 41 = .ok (.bipush 12, 2) := by decide +kernel
theorem d23_43 : decode cX4_readPitch 43 = .ok (.iload_n 3, 1) := by decide +kernel
theorem d23_44 : decode cX4_readPitch 44 = .ok (.imul, 1) := by decide +kernel
theorem d23_45 : decode cX4_readPitch 45 = .ok (.iload_n 2, 1) := by decide +kernel
theorem d23_46 : decode cX4_readPitch 46 = .ok (.iadd, 1) := by decide +kernel
theorem d23_47 : decode cX4_readPitch 47 = .ok (.ireturn, 1) := by decide +kernel
theorem d23_48 : decode cX4_readPitch 48 = .ok (.iinc 2 1, 3) := by decide +kernel
theorem d23_51 : decode cX4_readPitch 51 = .ok (.goto (-44), 3) := by decide +kernel
theorem d23_54 : decode cX4_readPitch 54 = .ok (.aload_n 0, 1) := by decide +kernel
theorem d23_55 : decode cX4_readPitch 55 = .ok (.iconst 1, 1) := by decide +kernel
theorem d23_56 : decode cX4_readPitch 56 = .ok (.iload_n 1, 1) := by decide +kernel
theorem d23_57 : decode cX4_readPitch 57 = .ok (.invokevirtual 40, 3) := by decide +kernel
theorem d23_60 : decode cX4_readPitch 60 = .ok (.pop, 1) := by decide +kernel
theorem d23_61 : decode cX4_readPitch 61 = .ok (.iconst (-1), 1) := by decide +kernel
theorem d23_62 : decode cX4_readPitch 62 = .ok (.ireturn, 1) := by decide +kernel
theorem v23_0 {w : PW} {Q : PO → PW → Prop}  (hs : Sh w)  (h : pC 12 [.ref 135] w (kI fun u2 w1 => Sh w1 ∧ pX 23 7 [some (.ref 135), some (iv u2), some (iv 0), none] [] w1 Q)) : pX 23 0 [some (.ref 135), none, none, none] [] w Q :=
  w_f b23 d23_0 rfl rfl rfl <| w_c b23 d23_1 rfl (pcl_v (n := 0) rfl rfl rfl (by decide +kernel) (sh_isOb hs (tlt 135 rfl) tbC_135) rfl rfl) rfl _ (hK_I fun u2 w1 hbu2 hkw1 => w_f b23 d23_4 rfl rfl rfl <| w_f b23 d23_5 rfl rfl rfl <| w_f b23 d23_6 rfl rfl rfl <| hkw1.2) h
theorem e23 {w : PW} {Q : PO → PW → Prop}  (hs : Sh w)  (h : pC 12 [.ref 135] w (kI fun u2 w1 => Sh w1 ∧ pX 23 7 [some (.ref 135), some (iv u2), some (iv 0), none] [] w1 Q)) : pC 23 [.ref 135] w Q :=
  (pC_in (Nat.le_of_ble_eq_true rfl) rfl Q).mpr (v23_0 hs  h)
theorem v23_7 {w : PW} {Q : PO → PW → Prop} {x1 : Int} {x2 : Int} {o3 : Option Value} (hs : Sh w) (hx1 : bd x1) (hx2 : bd x2) (ho3 : pc2 o3 = false) (h : (12 ≤ x2 → ∀ w2 : PW, w2 = sI (sI w 135 2 1) 135 3 x1 → Q (.inl (some (iv ((-1))))) w2) ∧ (x2 < 12 → pC 13 [.ref 135, iv x1, .ref (pSB + nmC x2)] w (kI fun u4 w3 => Sh w3 ∧ (u4 = 0 → pX 23 7 [some (.ref 135), some (iv x1), some (iv (x2 + 1)), o3] [] w3 Q) ∧ (u4 ≠ 0 → pC 15 [.ref 135, iv 0, iv 1] w3 (kI fun u7 w6 => Sh w6 ∧ (u7 ≠ ((-1)) → Q (.inl (some (iv ((12 * u7) + x2)))) w6) ∧ (u7 = ((-1)) → Q (.inl (some (iv ((-1))))) w6)))))) : pX 23 7 [some (.ref 135), some (iv x1), some (iv x2), o3] [] w Q :=
  w_f b23 d23_7 rfl rfl rfl <| w_f b23 d23_8 rfl rfl rfl <| w_icge b23 d23_10 rfl rfl (p23 _ _) hx2 ⟨by decide, by decide⟩ (fun c1 => w_f b23 d23_54 rfl rfl rfl <| w_f b23 d23_55 rfl rfl rfl <| w_f b23 d23_56 rfl rfl rfl <| w_cc b23 d23_57 rfl (pcl_v (n := 2) rfl rfl rfl (by decide +kernel) (sh_isOb hs (tlt 135 rfl) tbC_135) rfl rfl) rfl <| c14 hs ⟨by decide, by decide⟩ hx1 <| w_f b23 d23_60 rfl rfl rfl <| w_f b23 d23_61 rfl rfl rfl <| w_ri b23 d23_62 r23 ((h.1 c1) _ rfl)) (fun c1 => w_f b23 d23_13 rfl rfl rfl <| w_f b23 d23_14 rfl rfl rfl <| w_f b23 d23_15 rfl rfl rfl <| w_cc b23 d23_16 rfl (pcl_s1 (n := 1) rfl rfl rfl (by decide +kernel) rfl rfl) rfl <| c22 hs hx2 <| w_c b23 d23_19 rfl (pcl_v (n := 2) rfl rfl rfl (by decide +kernel) (sh_isOb hs (tlt 135 rfl) tbC_135) rfl rfl) rfl _ (hK_I fun u4 w3 hbu4 hkw3 => w_ifeq b23 d23_22 rfl rfl (p23 _ _) hbu4 (fun c5 => w_f b23 d23_48 rfl (pf_iinc rfl rfl) rfl <| w_j b23 d23_51 rfl (p23 _ _) <| (hkw3.2.1 c5)) (fun c5 => w_f b23 d23_25 rfl rfl rfl <| w_f b23 d23_26 rfl rfl rfl <| w_f b23 d23_27 rfl rfl rfl <| w_c b23 d23_28 rfl (pcl_v (n := 2) rfl rfl rfl (by decide +kernel) (sh_isOb hkw3.1 (tlt 135 rfl) tbC_135) rfl rfl) rfl _ (hK_I fun u7 w6 hbu7 hkw6 => w_f b23 d23_31 rfl rfl rfl <| w_f b23 d23_32 rfl rfl rfl <| w_f b23 d23_33 rfl rfl rfl <| w_icne b23 d23_34 rfl rfl (p23 _ _) hbu7 ⟨by decide, by decide⟩ (fun c8 => w_f b23 d23_41 rfl rfl rfl <| w_f b23 d23_43 rfl rfl rfl <| w_f b23 d23_44 rfl (pf_imul 12 _) rfl <| w_f b23 d23_45 rfl rfl rfl <| w_f b23 d23_46 rfl (pf_iadd _ x2) rfl <| w_ri b23 d23_47 r23 (hkw6.2.1 c8)) (fun c8 => w_f b23 d23_37 rfl rfl rfl <| w_j b23 d23_38 rfl (p23 _ _) <| w_ri b23 d23_47 r23 (hkw6.2.2 c8))) (hkw3.2.2 c5))) (h.2 c1))
def isSp (z : Nat) : Bool := decide (z = 32)
def isAz (z : Nat) : Bool := decide (97 ≤ z ∧ z ≤ 122)
def isDg (z : Nat) : Bool := decide (48 ≤ z ∧ z ≤ 57)
def sWh (P : Nat → Bool) (l : List Nat) (a : Nat) : Nat := a + fnd (fun i => !P (l.getD (a + i) 0)) (l.length - a)
theorem sWh_at {P : Nat → Bool} {l : List Nat} {a i : Nat} (h : ∀ y, y < i → P (l.getD (a + y) 0) = true) (h2 : a + i < l.length → P (l.getD (a + i) 0) = false) (h3 : a + i ≤ l.length) : sWh P l a = a + i := by
  unfold sWh
  rw [fnd_eq (i := i) (fun y hy => by rw [h y hy]; rfl) (fun q => by rw [h2 (by omega)]; rfl) (by omega)]
theorem sWh_bd {P : Nat → Bool} {l : List Nat} {a : Nat} (h : a ≤ l.length) : a ≤ sWh P l a ∧ sWh P l a ≤ l.length := by
  have := (fnd_spec (fun i => !P (l.getD (a + i) 0)) (l.length - a)).1
  unfold sWh
  omega
theorem sWh_in {P : Nat → Bool} {l : List Nat} {a k : Nat} (h : a ≤ k) (h2 : k < sWh P l a) : P (l.getD k 0) = true := by
  have := (fnd_spec (fun i => !P (l.getD (a + i) 0)) (l.length - a)).2.1 (k - a) (by unfold sWh at h2; omega)
  have e : a + (k - a) = k := by omega
  simp only [e] at this
  cases hb : P (l.getD k 0) with
  | true => rfl
  | false => rw [hb] at this; exact absurd this (by decide)
theorem sWh_off {P : Nat → Bool} {l : List Nat} {a : Nat} (h2 : sWh P l a < l.length) : P (l.getD (sWh P l a) 0) = false := by
  have := (fnd_spec (fun i => !P (l.getD (a + i) 0)) (l.length - a)).2.2 (by unfold sWh at h2; omega)
  unfold sWh
  revert this
  show (!P (l.getD (a + fnd (fun i => !P (l.getD (a + i) 0)) (l.length - a)) 0)) = true → _
  cases P (l.getD (a + fnd (fun i => !P (l.getD (a + i) 0)) (l.length - a)) 0) with
  | true => intro q; exact absurd q (by decide)
  | false => intro _; rfl
/-- the reader's state -/
def RD (w : PW) (l : List Nat) (p : Nat) (a b s : Int) : Prop := gI w 135 1 = (l.length : Nat) ∧ gI w 135 2 = a ∧ gI w 135 3 = b ∧ gI w 135 4 = s ∧ gI w 135 5 = (p : Nat) ∧ p ≤ l.length ∧ l.length ≤ 700 ∧ ∀ k, k < l.length → gI w 136 k = ((l.getD k 0 : Nat) : Int) ∧ l.getD k 0 < 256
def RX (w w' : PW) : Prop := ∀ c, c ≠ 135 → w'.2.2 c = w.2.2 c
theorem RX.rf {w : PW} : RX w w := fun _ _ => rfl
theorem RX.tr {w w1 w2 : PW} (h1 : RX w w1) (h2 : RX w1 w2) : RX w w2 := fun c hc => (h2 c hc).trans (h1 c hc)
theorem RX.br {w w' : PW} {b : Nat} {m : Row} (h : RX w w') (hB : BR w b m) : BR w' b m := by
  have := bx_at hB.bx
  exact hB.cells (fun k hk => h _ (by omega))
theorem RD.next {w w2 : PW} {l : List Nat} {p : Nat} {a b s : Int} (h : RD w l p a b s) (hs : Sh w) (hp : p < l.length) (e : w2 = sI w 135 5 ((p : Int) + 1)) : Sh w2 ∧ RD w2 l (p + 1) a b s ∧ RX w w2 := by
  obtain ⟨h1, h2, h3, h4, h5, h6, h7, h8⟩ := h
  obtain ⟨s1, g1, -, k1⟩ := stI e hs (by omega) (slt_o tbC_135 rfl) ⟨by omega, by omega⟩
  exact ⟨s1, ⟨by rw [g1, if_neg (by omega)]; exact h1, by rw [g1, if_neg (by omega)]; exact h2, by rw [g1, if_neg (by omega)]; exact h3, by rw [g1, if_neg (by omega)]; exact h4, by rw [g1, if_pos ⟨rfl, rfl⟩]; rfl, by omega, h7, fun k hk => by rw [g1, if_neg (by omega)]; exact h8 k hk⟩, k1⟩
theorem RD.fail {w w2 : PW} {l : List Nat} {p : Nat} {a b s x y : Int} (h : RD w l p a b s) (hs : Sh w) (hx : bd x) (hy : bd y) (e : w2 = sI (sI w 135 2 x) 135 3 y) : Sh w2 ∧ RD w2 l p x y s ∧ RX w w2 := by
  obtain ⟨h1, h2, h3, h4, h5, h6, h7, h8⟩ := h
  obtain ⟨s1, g1, -, k1⟩ := stI rfl hs (by omega) (slt_o tbC_135 rfl) hx (w' := sI w 135 2 x) (a := 135) (k := 2)
  obtain ⟨s2, g2, -, k2⟩ := stI e s1 (by omega) (slt_o tbC_135 rfl) hy
  exact ⟨s2, ⟨by rw [g2, if_neg (by omega), g1, if_neg (by omega)]; exact h1, by rw [g2, if_neg (by omega), g1, if_pos ⟨rfl, rfl⟩], by rw [g2, if_pos ⟨rfl, rfl⟩], by rw [g2, if_neg (by omega), g1, if_neg (by omega)]; exact h4, by rw [g2, if_neg (by omega), g1, if_neg (by omega)]; exact h5, h6, h7, fun k hk => by rw [g2, if_neg (by omega), g1, if_neg (by omega)]; exact h8 k hk⟩, fun c hc => by rw [k2 c hc, k1 c hc]⟩
theorem l11_0 {w : PW} {Q : PO → PW → Prop} {l : List Nat} {p : Nat} {a b s : Int} (hs : Sh w) (hp : p ≤ l.length) (h : ∀ w2, Sh w2 → RD w2 l (sWh isSp l p) a b s → RX w w2 → Q (.inl none) w2) : ∀ k i : Nat, i + k = l.length - p → ∀ w1, Sh w1 → RD w1 l (p + i) a b s → RX w w1 → (∀ y, y < i → isSp (l.getD (p + y) 0) = true) → pX 11 0 [some (.ref 135)] [] w1 Q := by
  intro k
  induction k with
  | zero =>
    intro i hi w1 s1 hR hF hI
    refine v11_0 s1 ?_
    rw [hR.1, hR.2.2.2.2.1]
    refine ⟨fun _ => ?_, fun q => by omega⟩
    have e : sWh isSp l p = p + i := sWh_at hI (fun q => by omega) (by omega)
    rw [e] at h
    exact h w1 s1 hR hF
  | succ k ih =>
    intro i hi w1 s1 hR hF hI
    have hc := hR.2.2.2.2.2.2.2 (p + i) (by omega)
    refine v11_0 s1 ?_
    rw [hR.1, hR.2.2.2.2.1, Int.toNat_natCast, hc.1]
    have hl := hR.2.2.2.2.2.2.1
    refine ⟨fun q => by omega, fun _ => ⟨⟨by omega, by omega⟩, fun q => ?_, fun q w2 e2 => ?_⟩⟩
    · have e : sWh isSp l p = p + i := sWh_at hI (fun _ => decide_eq_false (by omega)) (by omega)
      rw [e] at h
      exact h w1 s1 hR hF
    · obtain ⟨s2, R2, F2⟩ := hR.next s1 (by omega) e2
      refine ih (i + 1) (by omega) w2 s2 R2 (hF.tr F2) (fun y hy => ?_)
      by_cases q2 : y = i
      · rw [q2]
        exact decide_eq_true (by omega)
      · exact hI y (by omega)
theorem l12_9 {w : PW} {Q : PO → PW → Prop} {l : List Nat} {p : Nat} {a b s : Int} (hs : Sh w) (hp : p ≤ l.length) (h : ∀ w2, Sh w2 → RD w2 l (sWh isAz l p) a b s → RX w w2 → Q (.inl (some (iv (p : Nat)))) w2) : ∀ k i : Nat, i + k = l.length - p → ∀ w1, Sh w1 → RD w1 l (p + i) a b s → RX w w1 → (∀ y, y < i → isAz (l.getD (p + y) 0) = true) → pX 12 9 [some (.ref 135), some (iv (p : Nat))] [] w1 Q := by
  intro k
  induction k with
  | zero =>
    intro i hi w1 s1 hR hF hI
    have hl := hR.2.2.2.2.2.2.1
    refine v12_9 s1 (bdk (by omega)) ?_
    rw [hR.1, hR.2.2.2.2.1]
    refine ⟨fun _ => ?_, fun q => by omega⟩
    have e : sWh isAz l p = p + i := sWh_at hI (fun q => by omega) (by omega)
    rw [e] at h
    exact h w1 s1 hR hF
  | succ k ih =>
    intro i hi w1 s1 hR hF hI
    have hc := hR.2.2.2.2.2.2.2 (p + i) (by omega)
    have hl := hR.2.2.2.2.2.2.1
    refine v12_9 s1 (bdk (by omega)) ?_
    rw [hR.1, hR.2.2.2.2.1, Int.toNat_natCast, hc.1]
    have hx : ¬ (97 ≤ l.getD (p + i) 0 ∧ l.getD (p + i) 0 ≤ 122) → _ := fun q => by
      have e : sWh isAz l p = p + i := sWh_at hI (fun _ => decide_eq_false q) (by omega)
      rw [e] at h
      exact h w1 s1 hR hF
    refine ⟨fun q => by omega, fun _ => ⟨⟨by omega, by omega⟩, fun q => hx (by omega), fun q => ⟨⟨by omega, by omega⟩, fun q2 => hx (by omega), fun q2 w2 e2 => ?_⟩⟩⟩
    obtain ⟨s2, R2, F2⟩ := hR.next s1 (by omega) e2
    refine ih (i + 1) (by omega) w2 s2 R2 (hF.tr F2) (fun y hy => ?_)
    by_cases q3 : y = i
    · rw [q3]
      exact decide_eq_true ⟨by omega, by omega⟩
    · exact hI y (by omega)
theorem c11 {w : PW} {Q : PO → PW → Prop} {l : List Nat} {p : Nat} {a b s : Int} (hs : Sh w) (hR : RD w l p a b s) (h : ∀ w2, Sh w2 → RD w2 l (sWh isSp l p) a b s → RX w w2 → Q (.inl none) w2) : pC 11 [.ref 135] w Q :=
  (pC_in (Nat.le_of_ble_eq_true rfl) rfl Q).mpr (l11_0 hs hR.2.2.2.2.2.1 h _ 0 (Nat.zero_add _) w hs hR RX.rf (fun y hy => absurd hy (Nat.not_lt_zero y)))
def sW0 (l : List Nat) (p : Nat) : Nat := sWh isSp l p
def sW1 (l : List Nat) (p : Nat) : Nat := sWh isAz l (sWh isSp l p)
theorem c12 {w : PW} {Q : PO → PW → Prop} {l : List Nat} {p : Nat} {a b s : Int} (hs : Sh w) (hR : RD w l p a b s) (h : ∀ w2, Sh w2 → RD w2 l (sW1 l p) a b s → RX w w2 → Q (.inl (some (iv (sW0 l p : Nat)))) w2) : pC 12 [.ref 135] w Q := by
  refine e12 hs (c11 hs hR (fun w2 s2 R2 F2 => ⟨s2, ?_⟩))
  have hl := sWh_bd (P := isSp) hR.2.2.2.2.2.1
  rw [R2.2.2.2.2.1]
  exact l12_9 s2 hl.2 (fun w3 s3 R3 F3 => h w3 s3 R3 (F2.tr F3)) _ 0 (Nat.zero_add _) w2 s2 R2 RX.rf (fun y hy => absurd hy (Nat.not_lt_zero y))

