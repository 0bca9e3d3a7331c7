/-! THE METHODS: a trial -/
/-! 9: PinBarrel$Reader.take(J)Z -/
theorem b9 : mB 9 = cX4_take := rfl
theorem r9 : mR 9 = (some .boolean) := rfl
theorem p9 (a b : Nat) : phi 9 a ≤ phi 9 b := Nat.le_refl 0
theorem d9_0 : decode cX4_take 0 = .ok (.iconst 0, 1) := by decide +kernel
theorem d9_1 : decode cX4_take 1 = .ok (.istore_n 3, 1) := by decide +kernel
theorem d9_2 : decode cX4_take 2 = .ok (.bipush 56, 2) := by decide +kernel
theorem d9_4 : decode cX4_take 4 = .ok (.istore 4, 2) := by decide +kernel
theorem d9_6 : decode cX4_take 6 = .ok (.iload 4, 2) := by decide +kernel
theorem d9_8 : decode cX4_take 8 = .ok (.ifCond .lt 25, 3) := by decide +kernel
theorem d9_11 : decode cX4_take 11 = .ok (.lload_n 1, 1) := by decide +kernel
theorem d9_12 : decode cX4_take 12 = .ok (.iload 4, 2) := by decide +kernel
theorem d9_14 : decode cX4_take 14 = .ok (.lushr, 1) := by decide +kernel
theorem d9_15 : decode cX4_take 15 = .ok (.ldc2_w 31, 3) := by decide +kernel
theorem d9_18 : decode cX4_take 18 = .ok (.land, 1) := by decide +kernel
theorem d9_19 : decode cX4_take 19 = .ok (.lconst 0, 1) := by decide +kernel
theorem d9_20 : decode cX4_take 20 = .ok (.lcmp, 1) := by decide +kernel
theorem d9_21 : decode cX4_take 21 = .ok (.ifCond .eq 6, 3) := by decide +kernel
theorem d9_24 : decode cX4_take 24 = .ok (.iinc 3 1, 3) := by decide +kernel
theorem d9_27 : decode cX4_take 27 = .ok (.iinc 4 (-8), 3) := by decide +kernel
theorem d9_30 : decode cX4_take 30 = .ok (.goto (-24), 3) := by decide +kernel
theorem d9_33 : decode cX4_take 33 = .ok (.aload_n 0, 1) := by decide +kernel
theorem d9_34 : decode cX4_take 34 = .ok (.getfield 15, 3) := by decide +kernel
theorem d9_37 : decode cX4_take 37 = .ok (.iload_n 3, 1) := by decide +kernel
theorem d9_38 : decode cX4_take 38 = .ok (.iadd, 1) := by decide +kernel
theorem d9_39 : decode cX4_take 39 = .ok (.sipush 700, 3) := by decide +kernel
theorem d9_42 : decode cX4_take 42 = .ok (.if_icmp .le 5, 3) := by decide +kernel
theorem d9_45 : decode cX4_take 45 = .ok (.iconst 0, 1) := by decide +kernel
theorem d9_46 : decode cX4_take 46 = .ok (.ireturn, 1) := by decide +kernel
theorem d9_47 : decode cX4_take 47 = .ok (.bipush 56, 2) := by decide +kernel
theorem d9_49 : decode cX4_take 49 = .ok (.istore 4, 2) := by decide +kernel
theorem d9_51 : decode cX4_take 51 = .ok (.iload 4, 2) := by decide +kernel
theorem d9_53 : decode cX4_take 53 = .ok (.ifCond .lt 57, 3) := by decide +kernel
theorem d9_56 : decode cX4_take 56 = .ok (.lload_n 1, 1) := by decide +kernel
theorem d9_57 : decode cX4_take 57 = .ok (.iload 4, 2) := by decide +kernel
theorem d9_59 : decode cX4_take 59 = .ok (.lushr, 1) := by decide +kernel
theorem d9_60 : decode cX4_take 60 = .ok (.ldc2_w 31, 3) := by decide +kernel
theorem d9_63 : decode cX4_take 63 = .ok (.land, 1) := by decide +kernel
theorem d9_64 : decode cX4_take 64 = .ok (.l2i, 1) := by decide +kernel
theorem d9_65 : decode cX4_take 65 = .ok (.istore 5, 2) := by decide +kernel
theorem d9_67 : decode cX4_take 67 = .ok (.iload 5, 2) := by decide +kernel
theorem d9_69 : decode cX4_take 69 = .ok (.ifCond .eq 35, 3) := by decide +kernel
theorem d9_72 : decode cX4_take 72 = .ok (.aload_n 0, 1) := by decide +kernel
theorem d9_73 : decode cX4_take 73 = .ok (.getfield 15, 3) := by decide +kernel
theorem d9_76 : decode cX4_take 76 = .ok (.sipush 700, 3) := by decide +kernel
theorem d9_79 : decode cX4_take 79 = .ok (.if_icmp .ge 25, 3) := by decide +kernel
theorem d9_82 : decode cX4_take 82 = .ok (.aload_n 0, 1) := by decide +kernel
theorem d9_83 : decode cX4_take 83 = .ok (.getfield 9, 3) := by decide +kernel
theorem d9_86 : decode cX4_take 86 = .ok (.aload_n 0, 1) := by decide +kernel
theorem d9_87 : decode cX4_take 87 = .ok (.getfield 15, 3) := by decide +kernel
theorem d9_90 : decode cX4_take 90 = .ok (.iload 5, 2) := by decide +kernel
theorem d9_92 : decode cX4_take 92 = .ok (.i2c, 1) := by decide +kernel
theorem d9_93 : decode cX4_take 93 = .ok (.castore, 1) := by decide +kernel
theorem d9_94 : decode cX4_take 94 = .ok (.aload_n 0, 1) := by decide +kernel
theorem d9_95 : decode cX4_take 95 = .ok (.dup, 1) := by decide +kernel
theorem d9_96 : decode cX4_take 96 = .ok (.getfield 15, 3) := by decide +kernel
theorem d9_99 : decode cX4_take 99 = .ok (.iconst 1, 1) := by decide +kernel
theorem d9_100 : decode cX4_take 100 = .ok (.iadd, 1) := by decide +kernel
theorem d9_101 : decode cX4_take 101 = .ok (.putfield 15, 3) := by decide +kernel
theorem d9_104 : decode cX4_take 104 = .ok (.iinc 4 (-8), 3) := by decide +kernel
theorem d9_107 : decode cX4_take 107 = .ok (.goto (-56), 3) := by decide +kernel
theorem d9_110 : decode cX4_take 110 = .ok (.iconst 1, 1) := by decide +kernel
theorem d9_111 : decode cX4_take 111 = .ok (.ireturn, 1) := by decide +kernel
theorem v9_0 {w : PW} {Q : PO → PW → Prop} {y1 : Int64} (hs : Sh w)  (h : pX 9 6 [some (.ref 135), some (.long y1), none, some (iv 0), some (iv 56), none] [] w Q) : pX 9 0 [some (.ref 135), some (.long y1), none, none, none, none] [] w Q :=
  w_f b9 d9_0 rfl rfl rfl <| w_f b9 d9_1 rfl rfl rfl <| w_f b9 d9_2 rfl rfl rfl <| w_f b9 d9_4 rfl rfl rfl <| h
theorem v9_6 {w : PW} {Q : PO → PW → Prop} {y1 : Int64} {x3 : Int} {x4 : Int} {o5 : Option Value} (hs : Sh w) (hx3 : bd x3) (hx4 : bd x4) (ho5 : pc2 o5 = false) (h : (x4 < 0 → (bd ((gI w 135 1) + x3)) ∧ (((gI w 135 1) + x3) ≤ 700 → pX 9 51 [some (.ref 135), some (.long y1), none, some (iv x3), some (iv 56), o5] [] w Q) ∧ (700 < ((gI w 135 1) + x3) → Q (.inl (some (iv 0))) w)) ∧ (0 ≤ x4 → ((lCmp ((lUsh y1 x4) &&& ((255 : Int64))) ((0 : Int64))) = 0 → pX 9 6 [some (.ref 135), some (.long y1), none, some (iv x3), some (iv (x4 + (-8))), o5] [] w Q) ∧ ((lCmp ((lUsh y1 x4) &&& ((255 : Int64))) ((0 : Int64))) ≠ 0 → pX 9 6 [some (.ref 135), some (.long y1), none, some (iv (x3 + 1)), some (iv (x4 + (-8))), o5] [] w Q))) : pX 9 6 [some (.ref 135), some (.long y1), none, some (iv x3), some (iv x4), o5] [] w Q :=
  w_f b9 d9_6 rfl rfl rfl <| w_iflt b9 d9_8 rfl rfl (p9 _ _) hx4 (fun c1 => w_f b9 d9_33 rfl rfl rfl <| w_gi b9 d9_34 rfl rfl hs (tlt 135 rfl) tbC_135 rfl <| w_f b9 d9_37 rfl rfl rfl <| w_f b9 d9_38 rfl (pf_iadd (gI w 135 1) x3) rfl <| w_f b9 d9_39 rfl rfl rfl <| w_icle b9 d9_42 rfl rfl (p9 _ _) (h.1 c1).1 ⟨by decide, by decide⟩ (fun c2 => w_f b9 d9_47 rfl rfl rfl <| w_f b9 d9_49 rfl rfl rfl <| ((h.1 c1).2.1 c2)) (fun c2 => w_f b9 d9_45 rfl rfl rfl <| w_rz b9 d9_46 r9 (by decide) ((h.1 c1).2.2 c2))) (fun c1 => w_f b9 d9_11 rfl rfl rfl <| w_f b9 d9_12 rfl rfl rfl <| w_f b9 d9_14 rfl rfl rfl <| w_ldcL b9 d9_15 rfl rfl <| w_f b9 d9_18 rfl rfl rfl <| w_f b9 d9_19 rfl rfl rfl <| w_f b9 d9_20 rfl (pf_lcmp _ _) rfl <| w_ifeq b9 d9_21 rfl rfl (p9 _ _) (bd_toInt _) (fun c3 => w_f b9 d9_27 rfl (pf_iinc rfl rfl) rfl <| w_j b9 d9_30 rfl (p9 _ _) <| ((h.2 c1).1 c3)) (fun c3 => w_f b9 d9_24 rfl (pf_iinc rfl rfl) rfl <| w_f b9 d9_27 rfl (pf_iinc rfl rfl) rfl <| w_j b9 d9_30 rfl (p9 _ _) <| ((h.2 c1).2 c3)))
theorem v9_51 {w : PW} {Q : PO → PW → Prop} {y1 : Int64} {x3 : Int} {x4 : Int} {o5 : Option Value} (hs : Sh w) (hx3 : bd x3) (hx4 : bd x4) (ho5 : pc2 o5 = false) (h : (x4 < 0 → Q (.inl (some (iv 1))) w) ∧ (0 ≤ x4 → ((l2I ((lUsh y1 x4) &&& ((255 : Int64)))) = 0 → pX 9 51 [some (.ref 135), some (.long y1), none, some (iv x3), some (iv (x4 + (-8))), some (iv (l2I ((lUsh y1 x4) &&& ((255 : Int64)))))] [] w Q) ∧ ((l2I ((lUsh y1 x4) &&& ((255 : Int64)))) ≠ 0 → (700 ≤ (gI w 135 1) → pX 9 51 [some (.ref 135), some (.long y1), none, some (iv x3), some (iv (x4 + (-8))), some (iv (l2I ((lUsh y1 x4) &&& ((255 : Int64)))))] [] w Q) ∧ ((gI w 135 1) < 700 → (0 ≤ (gI w 135 1) ∧ (gI w 135 1) < 700) ∧ (vp_nar .char (Int32.ofInt (i2C (l2I ((lUsh y1 x4) &&& ((255 : Int64)))))) = Int32.ofInt (i2C (l2I ((lUsh y1 x4) &&& ((255 : Int64)))))) ∧ ∀ w4 : PW, w4 = sI w 136 (gI w 135 1).toNat (i2C (l2I ((lUsh y1 x4) &&& ((255 : Int64))))) → ∀ w5 : PW, w5 = sI w4 135 1 ((gI w4 135 1) + 1) → pX 9 51 [some (.ref 135), some (.long y1), none, some (iv x3), some (iv (x4 + (-8))), some (iv (l2I ((lUsh y1 x4) &&& ((255 : Int64)))))] [] w5 Q)))) : pX 9 51 [some (.ref 135), some (.long y1), none, some (iv x3), some (iv x4), o5] [] w Q :=
  w_f b9 d9_51 rfl rfl rfl <| w_iflt b9 d9_53 rfl rfl (p9 _ _) hx4 (fun c1 => w_f b9 d9_110 rfl rfl rfl <| w_rz b9 d9_111 r9 (by decide) (h.1 c1)) (fun c1 => w_f b9 d9_56 rfl rfl rfl <| w_f b9 d9_57 rfl rfl rfl <| w_f b9 d9_59 rfl rfl rfl <| w_ldcL b9 d9_60 rfl rfl <| w_f b9 d9_63 rfl rfl rfl <| w_f b9 d9_64 rfl (pf_l2i _) rfl <| w_f b9 d9_65 rfl rfl rfl <| w_f b9 d9_67 rfl rfl rfl <| w_ifeq b9 d9_69 rfl rfl (p9 _ _) (bd_toInt _) (fun c2 => w_f b9 d9_104 rfl (pf_iinc rfl rfl) rfl <| w_j b9 d9_107 rfl (p9 _ _) <| ((h.2 c1).1 c2)) (fun c2 => w_f b9 d9_72 rfl rfl rfl <| w_gi b9 d9_73 rfl rfl hs (tlt 135 rfl) tbC_135 rfl <| w_f b9 d9_76 rfl rfl rfl <| w_icge b9 d9_79 rfl rfl (p9 _ _) (bd_gI _ _ _) ⟨by decide, by decide⟩ (fun c3 => w_f b9 d9_104 rfl (pf_iinc rfl rfl) rfl <| w_j b9 d9_107 rfl (p9 _ _) <| (((h.2 c1).2 c2).1 c3)) (fun c3 => w_f b9 d9_82 rfl rfl rfl <| w_gr b9 d9_83 rfl rfl hs (tlt 135 rfl) tbC_135 rfl (by decide) <| w_f b9 d9_86 rfl rfl rfl <| w_gi b9 d9_87 rfl rfl hs (tlt 135 rfl) tbC_135 rfl <| w_f b9 d9_90 rfl rfl rfl <| w_f b9 d9_92 rfl (pf_i2c _) rfl <| w_cas b9 d9_93 rfl hs (tlt 136 rfl) tbC_136 (bdix (n := 700) (((h.2 c1).2 c2).2 c3).1 rfl) (((h.2 c1).2 c2).2 c3).1 (((h.2 c1).2 c2).2 c3).2.1 <| w_f b9 d9_94 rfl rfl rfl <| w_f b9 d9_95 rfl rfl rfl <| w_gi b9 d9_96 rfl rfl (Sh_sI hs (slt_a tbC_136)) (tlt 135 rfl) tbC_135 rfl <| w_f b9 d9_99 rfl rfl rfl <| w_f b9 d9_100 rfl (pf_iadd (gI w4 135 1) 1) rfl <| w_pi b9 d9_101 rfl rfl (Sh_sI hs (slt_a tbC_136)) (tlt 135 rfl) tbC_135 rfl rfl rfl <| w_f b9 d9_104 rfl (pf_iinc rfl rfl) rfl <| w_j b9 d9_107 rfl (p9 _ _) <| (((((h.2 c1).2 c2).2 c3).2.2 _ rfl) _ rfl))))
/-! 13: PinBarrel$Reader.isWord(ILjava/lang/String;)Z -/
theorem b13 : mB 13 = cX4_isWord := rfl
theorem r13 : mR 13 = (some .boolean) := rfl
theorem p13 (a b : Nat) : phi 13 a ≤ phi 13 b := Nat.le_refl 0
theorem d13_0 : decode cX4_isWord 0 = .ok (.aload_n 0, 1) := by decide +kernel
theorem d13_1 : decode cX4_isWord 1 = .ok (.getfield 28, 3) := by decide +kernel
theorem d13_4 : decode cX4_isWord 4 = .ok (.iload_n 1, 1) := by decide +kernel
theorem d13_5 : decode cX4_isWord 5 = .ok (.isub, 1) := by decide +kernel
theorem d13_6 : decode cX4_isWord 6 = .ok (.aload_n 2, 1) := by decide +kernel
theorem d13_7 : decode cX4_isWord 7 = .ok (.invokevirtual 132, 3) := by decide +kernel
theorem d13_10 : decode cX4_isWord 10 = .ok (.if_icmp .eq 5, 3) := by decide +kernel
theorem d13_13 : decode cX4_isWord 13 = .ok (.iconst 0, 1) := by decide +kernel
theorem d13_14 : decode cX4_isWord 14 = .ok (.ireturn, 1) := by decide +kernel
theorem d13_15 : decode cX4_isWord 15 = .ok (.iconst 0, 1) := by decide +kernel
theorem d13_16 : decode cX4_isWord 16 = .ok (.istore_n 3, 1) := by decide +kernel
theorem d13_17 : decode cX4_isWord 17 = .ok (.iload_n 3, 1) := by decide +kernel
theorem d13_18 : decode cX4_isWord 18 = .ok (.aload_n 2, 1) := by decide +kernel
theorem d13_19 : decode cX4_isWord 19 = .ok (.invokevirtual 132, 3) := by decide +kernel
theorem d13_22 : decode cX4_isWord 22 = .ok (.if_icmp .ge 27, 3) := by decide +kernel
theorem d13_25 : decode cX4_isWord 25 = .ok (.aload_n 0, 1) := by decide +kernel
theorem d13_26 : decode cX4_isWord 26 = .ok (.getfield 9, 3) := by decide +kernel
theorem d13_29 : decode cX4_isWord 29 = .ok (.iload_n 1, 1) := by decide +kernel
theorem d13_30 : decode cX4_isWord 30 = .ok (.iload_n 3, 1) := by decide +kernel
theorem d13_31 : decode cX4_isWord 31 = .ok (.iadd, 1) := by decide +kernel
theorem d13_32 : decode cX4_isWord 32 = .ok (.caload, 1) := by decide +kernel
theorem d13_33 : decode cX4_isWord 33 = .ok (.aload_n 2, 1) := by decide +kernel
theorem d13_34 : decode cX4_isWord 34 = .ok (.iload_n 3, 1) := by decide +kernel
theorem d13_35 : decode cX4_isWord 35 = .ok (.invokevirtual 136, 3) := by decide +kernel
theorem d13_38 : decode cX4_isWord 38 = .ok (.if_icmp .eq 5, 3) := by decide +kernel
theorem d13_41 : decode cX4_isWord 41 = .ok (.iconst 0, 1) := by decide +kernel
theorem d13_42 : decode cX4_isWord 42 = .ok (.ireturn, 1) := by decide +kernel
theorem d13_43 : decode cX4_isWord 43 = .ok (.iinc 3 1, 3) := by decide +kernel
theorem d13_46 : decode cX4_isWord 46 = .ok (.goto (-29), 3) := by decide +kernel
theorem d13_49 : decode cX4_isWord 49 = .ok (.iconst 1, 1) := by decide +kernel
theorem d13_50 : decode cX4_isWord 50 = .ok (.ireturn, 1) := by decide +kernel
theorem v13_0 {w : PW} {Q : PO → PW → Prop} {x1 : Int} {r2 : Nat} (hs : Sh w) (hx1 : bd x1) (hr2 : r2 < 38) (h : (bd ((gI w 135 5) - x1)) ∧ (((gI w 135 5) - x1) = (((sTx.getD r2 []).length : Int)) → pX 13 17 [some (.ref 135), some (iv x1), some (.ref (pSB + r2)), some (iv 0)] [] w Q) ∧ (((gI w 135 5) - x1) ≠ (((sTx.getD r2 []).length : Int)) → Q (.inl (some (iv 0))) w)) : pX 13 0 [some (.ref 135), some (iv x1), some (.ref (pSB + r2)), none] [] w Q :=
  w_f b13 d13_0 rfl rfl rfl <| w_gi b13 d13_1 rfl rfl hs (tlt 135 rfl) tbC_135 rfl <| w_f b13 d13_4 rfl rfl rfl <| w_f b13 d13_5 rfl (pf_isub (gI w 135 5) x1) rfl <| w_f b13 d13_6 rfl rfl rfl <| w_slen b13 d13_7 rfl rfl hr2 rfl <| w_iceq b13 d13_10 rfl rfl (p13 _ _) h.1 (bd_sl hr2) (fun c1 => w_f b13 d13_15 rfl rfl rfl <| w_f b13 d13_16 rfl rfl rfl <| (h.2.1 c1)) (fun c1 => w_f b13 d13_13 rfl rfl rfl <| w_rz b13 d13_14 r13 (by decide) (h.2.2 c1))
theorem v13_17 {w : PW} {Q : PO → PW → Prop} {x1 : Int} {r2 : Nat} {x3 : Int} (hs : Sh w) (hx1 : bd x1) (hr2 : r2 < 38) (hx3 : bd x3) (h : ((((sTx.getD r2 []).length : Int)) ≤ x3 → Q (.inl (some (iv 1))) w) ∧ (x3 < (((sTx.getD r2 []).length : Int)) → (0 ≤ (x1 + x3) ∧ (x1 + x3) < 700) ∧ (0 ≤ x3 ∧ x3 < (sTx.getD r2 []).length) ∧ ((gI w 136 (x1 + x3).toNat) = (((sTx.getD r2 []).getD x3.toNat 0 : Int)) → pX 13 17 [some (.ref 135), some (iv x1), some (.ref (pSB + r2)), some (iv (x3 + 1))] [] w Q) ∧ ((gI w 136 (x1 + x3).toNat) ≠ (((sTx.getD r2 []).getD x3.toNat 0 : Int)) → Q (.inl (some (iv 0))) w))) : pX 13 17 [some (.ref 135), some (iv x1), some (.ref (pSB + r2)), some (iv x3)] [] w Q :=
  w_f b13 d13_17 rfl rfl rfl <| w_f b13 d13_18 rfl rfl rfl <| w_slen b13 d13_19 rfl rfl hr2 rfl <| w_icge b13 d13_22 rfl rfl (p13 _ _) hx3 (bd_sl hr2) (fun c1 => w_f b13 d13_49 rfl rfl rfl <| w_rz b13 d13_50 r13 (by decide) (h.1 c1)) (fun c1 => w_f b13 d13_25 rfl rfl rfl <| w_gr b13 d13_26 rfl rfl hs (tlt 135 rfl) tbC_135 rfl (by decide) <| w_f b13 d13_29 rfl rfl rfl <| w_f b13 d13_30 rfl rfl rfl <| w_f b13 d13_31 rfl (pf_iadd x1 x3) rfl <| w_cal b13 d13_32 rfl hs (tlt 136 rfl) tbC_136 (bdix (n := 700) (h.2 c1).1 rfl) (h.2 c1).1 <| w_f b13 d13_33 rfl rfl rfl <| w_f b13 d13_34 rfl rfl rfl <| w_chat b13 d13_35 rfl rfl hr2 rfl hx3 (h.2 c1).2.1 <| w_iceq b13 d13_38 rfl rfl (p13 _ _) (bd_gI _ _ _) (bd_sc hr2 (h.2 c1).2.1) (fun c2 => w_f b13 d13_43 rfl (pf_iinc rfl rfl) rfl <| w_j b13 d13_46 rfl (p13 _ _) <| ((h.2 c1).2.2.1 c2)) (fun c2 => w_f b13 d13_41 rfl rfl rfl <| w_rz b13 d13_42 r13 (by decide) ((h.2 c1).2.2.2 c2)))
/-! 28: PinBarrel$Box.trackOf(II)I -/
theorem b28 : mB 28 = cX0_trackOf := rfl
theorem r28 : mR 28 = (some .int) := rfl
theorem p28 (a b : Nat) : phi 28 a ≤ phi 28 b := Nat.le_refl 0
theorem d28_0 : decode cX0_trackOf 0 = .ok (.aload_n 0, 1) := by decide +kernel
theorem d28_1 : decode cX0_trackOf 1 = .ok (.getfield 15, 3) := by decide +kernel
theorem d28_4 : decode cX0_trackOf 4 = .ok (.iload_n 2, 1) := by decide +kernel
theorem d28_5 : decode cX0_trackOf 5 = .ok (.imul, 1) := by decide +kernel
theorem d28_6 : decode cX0_trackOf 6 = .ok (.iload_n 1, 1) := by decide +kernel
theorem d28_7 : decode cX0_trackOf 7 = .ok (.iadd, 1) := by decide +kernel
theorem d28_8 : decode cX0_trackOf 8 = .ok (.ireturn, 1) := by decide +kernel
theorem v28_0 {w : PW} {Q : PO → PW → Prop} {b : Nat} {x1 : Int} {x2 : Int} (hs : Sh w) (hb : bx b) (hx1 : bd x1) (hx2 : bd x2) (h : Q (.inl (some (iv (((gI w b 1) * x2) + x1)))) w) : pX 28 0 [some (.ref b), some (iv x1), some (iv x2)] [] w Q :=
  w_f b28 d28_0 rfl rfl rfl <| w_gi b28 d28_1 rfl rfl hs (bx00 hb) (tb0 hb) rfl <| w_f b28 d28_4 rfl rfl rfl <| w_f b28 d28_5 rfl (pf_imul (gI w b 1) x2) rfl <| w_f b28 d28_6 rfl rfl rfl <| w_f b28 d28_7 rfl (pf_iadd ((gI w b 1) * x2) x1) rfl <| w_ri b28 d28_8 r28 h
/-! 29: PinBarrel$Box.pinsOn(I)J -/
theorem b29 : mB 29 = cX0_pinsOn := rfl
theorem r29 : mR 29 = (some .long) := rfl
theorem p29 (a b : Nat) : phi 29 a ≤ phi 29 b := Nat.le_refl 0
theorem d29_0 : decode cX0_pinsOn 0 = .ok (.iload_n 1, 1) := by decide +kernel
theorem d29_1 : decode cX0_pinsOn 1 = .ok (.ifCond .lt 9, 3) := by decide +kernel
theorem d29_4 : decode cX0_pinsOn 4 = .ok (.iload_n 1, 1) := by decide +kernel
theorem d29_5 : decode cX0_pinsOn 5 = .ok (.bipush 36, 2) := by decide +kernel
theorem d29_7 : decode cX0_pinsOn 7 = .ok (.if_icmp .lt 7, 3) := by decide +kernel
theorem d29_10 : decode cX0_pinsOn 10 = .ok (.lconst 0, 1) := by decide +kernel
theorem d29_11 : decode cX0_pinsOn 11 = .ok (.goto 9, 3) := by decide +kernel
theorem d29_14 : decode cX0_pinsOn 14 = .ok (.aload_n 0, 1) := by decide +kernel
theorem d29_15 : decode cX0_pinsOn 15 = .ok (.getfield 34, 3) := by decide +kernel
theorem d29_18 : decode cX0_pinsOn 18 = .ok (.iload_n 1, 1) := by decide +kernel
theorem d29_19 : decode cX0_pinsOn 19 = .ok (.laload, 1) := by decide +kernel
theorem d29_20 : decode cX0_pinsOn 20 = .ok (.lreturn, 1) := by decide +kernel
theorem v29_0 {w : PW} {Q : PO → PW → Prop} {b : Nat} {x1 : Int} (hs : Sh w) (hb : bx b) (hx1 : bd x1) (h : (x1 < 0 → Q (.inl (some (.long ((0 : Int64))))) w) ∧ (0 ≤ x1 → (x1 < 36 → (0 ≤ x1 ∧ x1 < 36) ∧ Q (.inl (some (.long (gL w (b + 3) x1.toNat)))) w) ∧ (36 ≤ x1 → Q (.inl (some (.long ((0 : Int64))))) w))) : pX 29 0 [some (.ref b), some (iv x1)] [] w Q :=
  w_f b29 d29_0 rfl rfl rfl <| w_iflt b29 d29_1 rfl rfl (p29 _ _) hx1 (fun c1 => w_f b29 d29_10 rfl rfl rfl <| w_j b29 d29_11 rfl (p29 _ _) <| w_rl b29 d29_20 r29 (h.1 c1)) (fun c1 => w_f b29 d29_4 rfl rfl rfl <| w_f b29 d29_5 rfl rfl rfl <| w_iclt b29 d29_7 rfl rfl (p29 _ _) hx1 ⟨by decide, by decide⟩ (fun c2 => w_f b29 d29_14 rfl rfl rfl <| w_gr b29 d29_15 rfl rfl hs (bx00 hb) (tb0 hb) rfl (bxr hb 3 rfl) <| w_f b29 d29_18 rfl rfl rfl <| w_lal b29 d29_19 rfl hs (bxk hb 3 rfl) (tb3 hb) (bdix (n := 36) ((h.2 c1).1 c2).1 rfl) ((h.2 c1).1 c2).1 <| w_rl b29 d29_20 r29 ((h.2 c1).1 c2).2) (fun c2 => w_f b29 d29_10 rfl rfl rfl <| w_j b29 d29_11 rfl (p29 _ _) <| w_rl b29 d29_20 r29 ((h.2 c1).2 c2)))
/-! 35: PinBarrel$Notes.copyFrom(LPinBarrel$Notes;)V -/
theorem b35 : mB 35 = cX2_copyFrom := rfl
theorem r35 : mR 35 = none := rfl
theorem p35 (a b : Nat) : phi 35 a ≤ phi 35 b := Nat.le_refl 0
theorem d35_0 : decode cX2_copyFrom 0 = .ok (.aload_n 0, 1) := by decide +kernel
theorem d35_1 : decode cX2_copyFrom 1 = .ok (.aload_n 1, 1) := by decide +kernel
theorem d35_2 : decode cX2_copyFrom 2 = .ok (.getfield 9, 3) := by decide +kernel
theorem d35_5 : decode cX2_copyFrom 5 = .ok (.putfield 9, 3) := by decide +kernel
theorem d35_8 : decode cX2_copyFrom 8 = .ok (.aload_n 1, 1) := by decide +kernel
theorem d35_9 : decode cX2_copyFrom 9 = .ok (.getfield 15, 3) := by decide +kernel
theorem d35_12 : decode cX2_copyFrom 12 = .ok (.iconst 0, 1) := by decide +kernel
theorem d35_13 : decode cX2_copyFrom 13 = .ok (.aload_n 0, 1) := by decide +kernel
theorem d35_14 : decode cX2_copyFrom 14 = .ok (.getfield 15, 3) := by decide +kernel
theorem d35_17 : decode cX2_copyFrom 17 = .ok (.iconst 0, 1) := by decide +kernel
theorem d35_18 : decode cX2_copyFrom 18 = .ok (.aload_n 0, 1) := by decide +kernel
theorem d35_19 : decode cX2_copyFrom 19 = .ok (.getfield 9, 3) := by decide +kernel
theorem d35_22 : decode cX2_copyFrom 22 = .ok (.invokestatic 25, 3) := by decide +kernel
theorem d35_25 : decode cX2_copyFrom 25 = .ok (.aload_n 1, 1) := by decide +kernel
theorem d35_26 : decode cX2_copyFrom 26 = .ok (.getfield 19, 3) := by decide +kernel
theorem d35_29 : decode cX2_copyFrom 29 = .ok (.iconst 0, 1) := by decide +kernel
theorem d35_30 : decode cX2_copyFrom 30 = .ok (.aload_n 0, 1) := by decide +kernel
theorem d35_31 : decode cX2_copyFrom 31 = .ok (.getfield 19, 3) := by decide +kernel
theorem d35_34 : decode cX2_copyFrom 34 = .ok (.iconst 0, 1) := by decide +kernel
theorem d35_35 : decode cX2_copyFrom 35 = .ok (.aload_n 0, 1) := by decide +kernel
theorem d35_36 : decode cX2_copyFrom 36 = .ok (.getfield 9, 3) := by decide +kernel
theorem d35_39 : decode cX2_copyFrom 39 = .ok (.invokestatic 25, 3) := by decide +kernel
theorem d35_42 : decode cX2_copyFrom 42 = .ok (.aload_n 1, 1) := by decide +kernel
theorem d35_43 : decode cX2_copyFrom 43 = .ok (.getfield 22, 3) := by decide +kernel
theorem d35_46 : decode cX2_copyFrom 46 = .ok (.iconst 0, 1) := by decide +kernel
theorem d35_47 : decode cX2_copyFrom 47 = .ok (.aload_n 0, 1) := by decide +kernel
theorem d35_48 : decode cX2_copyFrom 48 = .ok (.getfield 22, 3) := by decide +kernel
theorem d35_51 : decode cX2_copyFrom 51 = .ok (.iconst 0, 1) := by decide +kernel
theorem d35_52 : decode cX2_copyFrom 52 = .ok (.aload_n 0, 1) := by decide +kernel
theorem d35_53 : decode cX2_copyFrom 53 = .ok (.getfield 9, 3) := by decide +kernel
theorem d35_56 : decode cX2_copyFrom 56 = .ok (.invokestatic 25, 3) := by decide +kernel
theorem d35_59 : decode cX2_copyFrom 59 = .ok (.return_, 1) := by decide +kernel
theorem v35_0 {w : PW} {Q : PO → PW → Prop} {b : Nat} {c : Nat} (hs : Sh w) (hb : bx b) (hc : bx c) (h : ∀ w1 : PW, w1 = sI w (b + 4) 0 (gI w (c + 4) 0) → (0 ≤ (gI w1 (b + 4) 0) ∧ (gI w1 (b + 4) 0) ≤ 60 ∧ (gI w1 (b + 4) 0) ≤ 60) ∧ ∀ w2 : PW, w2 = sCp w1 (c + 5) (b + 5) (gI w1 (b + 4) 0).toNat → (0 ≤ (gI w2 (b + 4) 0) ∧ (gI w2 (b + 4) 0) ≤ 60 ∧ (gI w2 (b + 4) 0) ≤ 60) ∧ ∀ w3 : PW, w3 = sCp w2 (c + 6) (b + 6) (gI w2 (b + 4) 0).toNat → (0 ≤ (gI w3 (b + 4) 0) ∧ (gI w3 (b + 4) 0) ≤ 60 ∧ (gI w3 (b + 4) 0) ≤ 60) ∧ ∀ w4 : PW, w4 = sCp w3 (c + 7) (b + 7) (gI w3 (b + 4) 0).toNat → Q (.inl none) w4) : pX 35 0 [some (.ref (b + 4)), some (.ref (c + 4))] [] w Q :=
  w_f b35 d35_0 rfl rfl rfl <| w_f b35 d35_1 rfl rfl rfl <| w_gi b35 d35_2 rfl rfl hs (bxk hc 4 rfl) (tb4 hc) rfl <| w_pi b35 d35_5 rfl rfl hs (bxk hb 4 rfl) (tb4 hb) rfl rfl rfl <| w_f b35 d35_8 rfl rfl rfl <| w_gr b35 d35_9 rfl rfl (Sh_sI hs (slt_o (tb4 hb) rfl)) (bxk hc 4 rfl) (tb4 hc) rfl (bxr hc 5 rfl) <| w_f b35 d35_12 rfl rfl rfl <| w_f b35 d35_13 rfl rfl rfl <| w_gr b35 d35_14 rfl rfl (Sh_sI hs (slt_o (tb4 hb) rfl)) (bxk hb 4 rfl) (tb4 hb) rfl (bxr hb 5 rfl) <| w_f b35 d35_17 rfl rfl rfl <| w_f b35 d35_18 rfl rfl rfl <| w_gi b35 d35_19 rfl rfl (Sh_sI hs (slt_o (tb4 hb) rfl)) (bxk hb 4 rfl) (tb4 hb) rfl <| w_acpI b35 d35_22 rfl rfl rfl (Sh_sI hs (slt_o (tb4 hb) rfl)) (bxk hc 5 rfl) (tb5 hc) (bxk hb 5 rfl) (tb5 hb) (bd_gI _ _ _) (h _ rfl).1 <| w_f b35 d35_25 rfl rfl rfl <| w_gr b35 d35_26 rfl rfl (Sh_sCp (Sh_sI hs (slt_o (tb4 hb) rfl))) (bxk hc 4 rfl) (tb4 hc) rfl (bxr hc 6 rfl) <| w_f b35 d35_29 rfl rfl rfl <| w_f b35 d35_30 rfl rfl rfl <| w_gr b35 d35_31 rfl rfl (Sh_sCp (Sh_sI hs (slt_o (tb4 hb) rfl))) (bxk hb 4 rfl) (tb4 hb) rfl (bxr hb 6 rfl) <| w_f b35 d35_34 rfl rfl rfl <| w_f b35 d35_35 rfl rfl rfl <| w_gi b35 d35_36 rfl rfl (Sh_sCp (Sh_sI hs (slt_o (tb4 hb) rfl))) (bxk hb 4 rfl) (tb4 hb) rfl <| w_acpI b35 d35_39 rfl rfl rfl (Sh_sCp (Sh_sI hs (slt_o (tb4 hb) rfl))) (bxk hc 6 rfl) (tb6 hc) (bxk hb 6 rfl) (tb6 hb) (bd_gI _ _ _) ((h _ rfl).2 _ rfl).1 <| w_f b35 d35_42 rfl rfl rfl <| w_gr b35 d35_43 rfl rfl (Sh_sCp (Sh_sCp (Sh_sI hs (slt_o (tb4 hb) rfl)))) (bxk hc 4 rfl) (tb4 hc) rfl (bxr hc 7 rfl) <| w_f b35 d35_46 rfl rfl rfl <| w_f b35 d35_47 rfl rfl rfl <| w_gr b35 d35_48 rfl rfl (Sh_sCp (Sh_sCp (Sh_sI hs (slt_o (tb4 hb) rfl)))) (bxk hb 4 rfl) (tb4 hb) rfl (bxr hb 7 rfl) <| w_f b35 d35_51 rfl rfl rfl <| w_f b35 d35_52 rfl rfl rfl <| w_gi b35 d35_53 rfl rfl (Sh_sCp (Sh_sCp (Sh_sI hs (slt_o (tb4 hb) rfl)))) (bxk hb 4 rfl) (tb4 hb) rfl <| w_acpI b35 d35_56 rfl rfl rfl (Sh_sCp (Sh_sCp (Sh_sI hs (slt_o (tb4 hb) rfl)))) (bxk hc 7 rfl) (tb7 hc) (bxk hb 7 rfl) (tb7 hb) (bd_gI _ _ _) (((h _ rfl).2 _ rfl).2 _ rfl).1 <| w_rv b35 d35_59 r35 ((((h _ rfl).2 _ rfl).2 _ rfl).2 _ rfl)
/-! 36: PinBarrel$Play.copyFrom(LPinBarrel$Play;)V -/
theorem b36 : mB 36 = cX3_copyFrom := rfl
theorem r36 : mR 36 = none := rfl
theorem p36 (a b : Nat) : phi 36 a ≤ phi 36 b := Nat.le_refl 0
theorem d36_0 : decode cX3_copyFrom 0 = .ok (.aload_n 0, 1) := by decide +kernel
theorem d36_1 : decode cX3_copyFrom 1 = .ok (.aload_n 1, 1) := by decide +kernel
theorem d36_2 : decode cX3_copyFrom 2 = .ok (.getfield 9, 3) := by decide +kernel
theorem d36_5 : decode cX3_copyFrom 5 = .ok (.putfield 9, 3) := by decide +kernel
theorem d36_8 : decode cX3_copyFrom 8 = .ok (.aload_n 0, 1) := by decide +kernel
theorem d36_9 : decode cX3_copyFrom 9 = .ok (.aload_n 1, 1) := by decide +kernel
theorem d36_10 : decode cX3_copyFrom 10 = .ok (.getfield 15, 3) := by decide +kernel
theorem d36_13 : decode cX3_copyFrom 13 = .ok (.putfield 15, 3) := by decide +kernel
theorem d36_16 : decode cX3_copyFrom 16 = .ok (.aload_n 0, 1) := by decide +kernel
theorem d36_17 : decode cX3_copyFrom 17 = .ok (.aload_n 1, 1) := by decide +kernel
theorem d36_18 : decode cX3_copyFrom 18 = .ok (.getfield 18, 3) := by decide +kernel
theorem d36_21 : decode cX3_copyFrom 21 = .ok (.putfield 18, 3) := by decide +kernel
theorem d36_24 : decode cX3_copyFrom 24 = .ok (.aload_n 0, 1) := by decide +kernel
theorem d36_25 : decode cX3_copyFrom 25 = .ok (.aload_n 1, 1) := by decide +kernel
theorem d36_26 : decode cX3_copyFrom 26 = .ok (.getfield 21, 3) := by decide +kernel
theorem d36_29 : decode cX3_copyFrom 29 = .ok (.putfield 21, 3) := by decide +kernel
theorem d36_32 : decode cX3_copyFrom 32 = .ok (.aload_n 0, 1) := by decide +kernel
theorem d36_33 : decode cX3_copyFrom 33 = .ok (.aload_n 1, 1) := by decide +kernel
theorem d36_34 : decode cX3_copyFrom 34 = .ok (.getfield 24, 3) := by decide +kernel
theorem d36_37 : decode cX3_copyFrom 37 = .ok (.putfield 24, 3) := by decide +kernel
theorem d36_40 : decode cX3_copyFrom 40 = .ok (.aload_n 1, 1) := by decide +kernel
theorem d36_41 : decode cX3_copyFrom 41 = .ok (.getfield 27, 3) := by decide +kernel
theorem d36_44 : decode cX3_copyFrom 44 = .ok (.iconst 0, 1) := by decide +kernel
theorem d36_45 : decode cX3_copyFrom 45 = .ok (.aload_n 0, 1) := by decide +kernel
theorem d36_46 : decode cX3_copyFrom 46 = .ok (.getfield 27, 3) := by decide +kernel
theorem d36_49 : decode cX3_copyFrom 49 = .ok (.iconst 0, 1) := by decide +kernel
theorem d36_50 : decode cX3_copyFrom 50 = .ok (.bipush 12, 2) := by decide +kernel
theorem d36_52 : decode cX3_copyFrom 52 = .ok (.invokestatic 46, 3) := by decide +kernel
theorem d36_55 : decode cX3_copyFrom 55 = .ok (.aload_n 1, 1) := by decide +kernel
theorem d36_56 : decode cX3_copyFrom 56 = .ok (.getfield 31, 3) := by decide +kernel
theorem d36_59 : decode cX3_copyFrom 59 = .ok (.iconst 0, 1) := by decide +kernel
theorem d36_60 : decode cX3_copyFrom 60 = .ok (.aload_n 0, 1) := by decide +kernel
theorem d36_61 : decode cX3_copyFrom 61 = .ok (.getfield 31, 3) := by decide +kernel
theorem d36_64 : decode cX3_copyFrom 64 = .ok (.iconst 0, 1) := by decide +kernel
theorem d36_65 : decode cX3_copyFrom 65 = .ok (.bipush 12, 2) := by decide +kernel
theorem d36_67 : decode cX3_copyFrom 67 = .ok (.invokestatic 46, 3) := by decide +kernel
theorem d36_70 : decode cX3_copyFrom 70 = .ok (.aload_n 1, 1) := by decide +kernel
theorem d36_71 : decode cX3_copyFrom 71 = .ok (.getfield 34, 3) := by decide +kernel
theorem d36_74 : decode cX3_copyFrom 74 = .ok (.iconst 0, 1) := by decide +kernel
theorem d36_75 : decode cX3_copyFrom 75 = .ok (.aload_n 0, 1) := by decide +kernel
theorem d36_76 : decode cX3_copyFrom 76 = .ok (.getfield 34, 3) := by decide +kernel
theorem d36_79 : decode cX3_copyFrom 79 = .ok (.iconst 0, 1) := by decide +kernel
theorem d36_80 : decode cX3_copyFrom 80 = .ok (.bipush 12, 2) := by decide +kernel
theorem d36_82 : decode cX3_copyFrom 82 = .ok (.invokestatic 46, 3) := by decide +kernel
theorem d36_85 : decode cX3_copyFrom 85 = .ok (.aload_n 1, 1) := by decide +kernel
theorem d36_86 : decode cX3_copyFrom 86 = .ok (.getfield 37, 3) := by decide +kernel
theorem d36_89 : decode cX3_copyFrom 89 = .ok (.iconst 0, 1) := by decide +kernel
theorem d36_90 : decode cX3_copyFrom 90 = .ok (.aload_n 0, 1) := by decide +kernel
theorem d36_91 : decode cX3_copyFrom 91 = .ok (.getfield 37, 3) := by decide +kernel
theorem d36_94 : decode cX3_copyFrom 94 = .ok (.iconst 0, 1) := by decide +kernel
theorem d36_95 : decode cX3_copyFrom 95 = .ok (.sipush 400, 3) := by decide +kernel
theorem d36_98 : decode cX3_copyFrom 98 = .ok (.invokestatic 46, 3) := by decide +kernel
theorem d36_101 : decode cX3_copyFrom 101 = .ok (.return_, 1) := by decide +kernel
theorem v36_0 {w : PW} {Q : PO → PW → Prop} {b : Nat} {c : Nat} (hs : Sh w) (hb : bx b) (hc : bx c) (h : ∀ w1 : PW, w1 = sI w (b + 8) 0 (gI w (c + 8) 0) → ∀ w2 : PW, w2 = sI w1 (b + 8) 1 (gI w1 (c + 8) 1) → ∀ w3 : PW, w3 = sI w2 (b + 8) 2 (gI w2 (c + 8) 2) → ∀ w4 : PW, w4 = sI w3 (b + 8) 3 (gI w3 (c + 8) 3) → ∀ w5 : PW, w5 = sI w4 (b + 8) 4 (gI w4 (c + 8) 4) → ∀ w6 : PW, w6 = sCp w5 (c + 9) (b + 9) 12 → ∀ w7 : PW, w7 = sCp w6 (c + 10) (b + 10) 12 → ∀ w8 : PW, w8 = sCp w7 (c + 11) (b + 11) 12 → ∀ w9 : PW, w9 = sCp w8 (c + 12) (b + 12) 400 → Q (.inl none) w9) : pX 36 0 [some (.ref (b + 8)), some (.ref (c + 8))] [] w Q :=
  w_f b36 d36_0 rfl rfl rfl <| w_f b36 d36_1 rfl rfl rfl <| w_gi b36 d36_2 rfl rfl hs (bxk hc 8 rfl) (tb8 hc) rfl <| w_pi b36 d36_5 rfl rfl hs (bxk hb 8 rfl) (tb8 hb) rfl rfl rfl <| w_f b36 d36_8 rfl rfl rfl <| w_f b36 d36_9 rfl rfl rfl <| w_gi b36 d36_10 rfl rfl (Sh_sI hs (slt_o (tb8 hb) rfl)) (bxk hc 8 rfl) (tb8 hc) rfl <| w_pi b36 d36_13 rfl rfl (Sh_sI hs (slt_o (tb8 hb) rfl)) (bxk hb 8 rfl) (tb8 hb) rfl rfl rfl <| w_f b36 d36_16 rfl rfl rfl <| w_f b36 d36_17 rfl rfl rfl <| w_gi b36 d36_18 rfl rfl (Sh_sI (Sh_sI hs (slt_o (tb8 hb) rfl)) (slt_o (tb8 hb) rfl)) (bxk hc 8 rfl) (tb8 hc) rfl <| w_pi b36 d36_21 rfl rfl (Sh_sI (Sh_sI hs (slt_o (tb8 hb) rfl)) (slt_o (tb8 hb) rfl)) (bxk hb 8 rfl) (tb8 hb) rfl rfl rfl <| w_f b36 d36_24 rfl rfl rfl <| w_f b36 d36_25 rfl rfl rfl <| w_gi b36 d36_26 rfl rfl (Sh_sI (Sh_sI (Sh_sI hs (slt_o (tb8 hb) rfl)) (slt_o (tb8 hb) rfl)) (slt_o (tb8 hb) rfl)) (bxk hc 8 rfl) (tb8 hc) rfl <| w_pi b36 d36_29 rfl rfl (Sh_sI (Sh_sI (Sh_sI hs (slt_o (tb8 hb) rfl)) (slt_o (tb8 hb) rfl)) (slt_o (tb8 hb) rfl)) (bxk hb 8 rfl) (tb8 hb) rfl rfl rfl <| w_f b36 d36_32 rfl rfl rfl <| w_f b36 d36_33 rfl rfl rfl <| w_gi b36 d36_34 rfl rfl (Sh_sI (Sh_sI (Sh_sI (Sh_sI hs (slt_o (tb8 hb) rfl)) (slt_o (tb8 hb) rfl)) (slt_o (tb8 hb) rfl)) (slt_o (tb8 hb) rfl)) (bxk hc 8 rfl) (tb8 hc) rfl <| w_pi b36 d36_37 rfl rfl (Sh_sI (Sh_sI (Sh_sI (Sh_sI hs (slt_o (tb8 hb) rfl)) (slt_o (tb8 hb) rfl)) (slt_o (tb8 hb) rfl)) (slt_o (tb8 hb) rfl)) (bxk hb 8 rfl) (tb8 hb) rfl rfl rfl <| w_f b36 d36_40 rfl rfl rfl <| w_gr b36 d36_41 rfl rfl (Sh_sI (Sh_sI (Sh_sI (Sh_sI (Sh_sI hs (slt_o (tb8 hb) rfl)) (slt_o (tb8 hb) rfl)) (slt_o (tb8 hb) rfl)) (slt_o (tb8 hb) rfl)) (slt_o (tb8 hb) rfl)) (bxk hc 8 rfl) (tb8 hc) rfl (bxr hc 9 rfl) <| w_f b36 d36_44 rfl rfl rfl <| w_f b36 d36_45 rfl rfl rfl <| w_gr b36 d36_46 rfl rfl (Sh_sI (Sh_sI (Sh_sI (Sh_sI (Sh_sI hs (slt_o (tb8 hb) rfl)) (slt_o (tb8 hb) rfl)) (slt_o (tb8 hb) rfl)) (slt_o (tb8 hb) rfl)) (slt_o (tb8 hb) rfl)) (bxk hb 8 rfl) (tb8 hb) rfl (bxr hb 9 rfl) <| w_f b36 d36_49 rfl rfl rfl <| w_f b36 d36_50 rfl rfl rfl <| w_acpI b36 d36_52 rfl rfl rfl (Sh_sI (Sh_sI (Sh_sI (Sh_sI (Sh_sI hs (slt_o (tb8 hb) rfl)) (slt_o (tb8 hb) rfl)) (slt_o (tb8 hb) rfl)) (slt_o (tb8 hb) rfl)) (slt_o (tb8 hb) rfl)) (bxk hc 9 rfl) (tb9 hc) (bxk hb 9 rfl) (tb9 hb) ⟨by decide, by decide⟩ ⟨by decide, by decide, by decide⟩ <| w_f b36 d36_55 rfl rfl rfl <| w_gr b36 d36_56 rfl rfl (Sh_sCp (Sh_sI (Sh_sI (Sh_sI (Sh_sI (Sh_sI hs (slt_o (tb8 hb) rfl)) (slt_o (tb8 hb) rfl)) (slt_o (tb8 hb) rfl)) (slt_o (tb8 hb) rfl)) (slt_o (tb8 hb) rfl))) (bxk hc 8 rfl) (tb8 hc) rfl (bxr hc 10 rfl) <| w_f b36 d36_59 rfl rfl rfl <| w_f b36 d36_60 rfl rfl rfl <| w_gr b36 d36_61 rfl rfl (Sh_sCp (Sh_sI (Sh_sI (Sh_sI (Sh_sI (Sh_sI hs (slt_o (tb8 hb) rfl)) (slt_o (tb8 hb) rfl)) (slt_o (tb8 hb) rfl)) (slt_o (tb8 hb) rfl)) (slt_o (tb8 hb) rfl))) (bxk hb 8 rfl) (tb8 hb) rfl (bxr hb 10 rfl) <| w_f b36 d36_64 rfl rfl rfl <| w_f b36 d36_65 rfl rfl rfl <| w_acpI b36 d36_67 rfl rfl rfl (Sh_sCp (Sh_sI (Sh_sI (Sh_sI (Sh_sI (Sh_sI hs (slt_o (tb8 hb) rfl)) (slt_o (tb8 hb) rfl)) (slt_o (tb8 hb) rfl)) (slt_o (tb8 hb) rfl)) (slt_o (tb8 hb) rfl))) (bxk hc 10 rfl) (tb10 hc) (bxk hb 10 rfl) (tb10 hb) ⟨by decide, by decide⟩ ⟨by decide, by decide, by decide⟩ <| w_f b36 d36_70 rfl rfl rfl <| w_gr b36 d36_71 rfl rfl (Sh_sCp (Sh_sCp (Sh_sI (Sh_sI (Sh_sI (Sh_sI (Sh_sI hs (slt_o (tb8 hb) rfl)) (slt_o (tb8 hb) rfl)) (slt_o (tb8 hb) rfl)) (slt_o (tb8 hb) rfl)) (slt_o (tb8 hb) rfl)))) (bxk hc 8 rfl) (tb8 hc) rfl (bxr hc 11 rfl) <| w_f b36 d36_74 rfl rfl rfl <| w_f b36 d36_75 rfl rfl rfl <| w_gr b36 d36_76 rfl rfl (Sh_sCp (Sh_sCp (Sh_sI (Sh_sI (Sh_sI (Sh_sI (Sh_sI hs (slt_o (tb8 hb) rfl)) (slt_o (tb8 hb) rfl)) (slt_o (tb8 hb) rfl)) (slt_o (tb8 hb) rfl)) (slt_o (tb8 hb) rfl)))) (bxk hb 8 rfl) (tb8 hb) rfl (bxr hb 11 rfl) <| w_f b36 d36_79 rfl rfl rfl <| w_f b36 d36_80 rfl rfl rfl <| w_acpI b36 d36_82 rfl rfl rfl (Sh_sCp (Sh_sCp (Sh_sI (Sh_sI (Sh_sI (Sh_sI (Sh_sI hs (slt_o (tb8 hb) rfl)) (slt_o (tb8 hb) rfl)) (slt_o (tb8 hb) rfl)) (slt_o (tb8 hb) rfl)) (slt_o (tb8 hb) rfl)))) (bxk hc 11 rfl) (tb11 hc) (bxk hb 11 rfl) (tb11 hb) ⟨by decide, by decide⟩ ⟨by decide, by decide, by decide⟩ <| w_f b36 d36_85 rfl rfl rfl <| w_gr b36 d36_86 rfl rfl (Sh_sCp (Sh_sCp (Sh_sCp (Sh_sI (Sh_sI (Sh_sI (Sh_sI (Sh_sI hs (slt_o (tb8 hb) rfl)) (slt_o (tb8 hb) rfl)) (slt_o (tb8 hb) rfl)) (slt_o (tb8 hb) rfl)) (slt_o (tb8 hb) rfl))))) (bxk hc 8 rfl) (tb8 hc) rfl (bxr hc 12 rfl) <| w_f b36 d36_89 rfl rfl rfl <| w_f b36 d36_90 rfl rfl rfl <| w_gr b36 d36_91 rfl rfl (Sh_sCp (Sh_sCp (Sh_sCp (Sh_sI (Sh_sI (Sh_sI (Sh_sI (Sh_sI hs (slt_o (tb8 hb) rfl)) (slt_o (tb8 hb) rfl)) (slt_o (tb8 hb) rfl)) (slt_o (tb8 hb) rfl)) (slt_o (tb8 hb) rfl))))) (bxk hb 8 rfl) (tb8 hb) rfl (bxr hb 12 rfl) <| w_f b36 d36_94 rfl rfl rfl <| w_f b36 d36_95 rfl rfl rfl <| w_acpI b36 d36_98 rfl rfl rfl (Sh_sCp (Sh_sCp (Sh_sCp (Sh_sI (Sh_sI (Sh_sI (Sh_sI (Sh_sI hs (slt_o (tb8 hb) rfl)) (slt_o (tb8 hb) rfl)) (slt_o (tb8 hb) rfl)) (slt_o (tb8 hb) rfl)) (slt_o (tb8 hb) rfl))))) (bxk hc 12 rfl) (tb12 hc) (bxk hb 12 rfl) (tb12 hb) ⟨by decide, by decide⟩ ⟨by decide, by decide, by decide⟩ <| w_rv b36 d36_101 r36 (((((((((h _ rfl) _ rfl) _ rfl) _ rfl) _ rfl) _ rfl) _ rfl) _ rfl) _ rfl)
/-! 37: PinBarrel$Box.copyFrom(LPinBarrel$Box;)V -/
theorem b37 : mB 37 = cX0_copyFrom := rfl
theorem r37 : mR 37 = none := rfl
theorem p37 (a b : Nat) : phi 37 a ≤ phi 37 b := Nat.le_refl 0
theorem d37_0 : decode cX0_copyFrom 0 = .ok (.aload_n 0, 1) := by decide +kernel
theorem d37_1 : decode cX0_copyFrom 1 = .ok (.aload_n 1, 1) := by decide +kernel
theorem d37_2 : decode cX0_copyFrom 2 = .ok (.getfield 9, 3) := by decide +kernel
theorem d37_5 : decode cX0_copyFrom 5 = .ok (.putfield 9, 3) := by decide +kernel
theorem d37_8 : decode cX0_copyFrom 8 = .ok (.aload_n 0, 1) := by decide +kernel
theorem d37_9 : decode cX0_copyFrom 9 = .ok (.aload_n 1, 1) := by decide +kernel
theorem d37_10 : decode cX0_copyFrom 10 = .ok (.getfield 15, 3) := by decide +kernel
theorem d37_13 : decode cX0_copyFrom 13 = .ok (.putfield 15, 3) := by decide +kernel
theorem d37_16 : decode cX0_copyFrom 16 = .ok (.aload_n 0, 1) := by decide +kernel
theorem d37_17 : decode cX0_copyFrom 17 = .ok (.aload_n 1, 1) := by decide +kernel
theorem d37_18 : decode cX0_copyFrom 18 = .ok (.getfield 18, 3) := by decide +kernel
theorem d37_21 : decode cX0_copyFrom 21 = .ok (.putfield 18, 3) := by decide +kernel
theorem d37_24 : decode cX0_copyFrom 24 = .ok (.aload_n 0, 1) := by decide +kernel
theorem d37_25 : decode cX0_copyFrom 25 = .ok (.aload_n 1, 1) := by decide +kernel
theorem d37_26 : decode cX0_copyFrom 26 = .ok (.getfield 21, 3) := by decide +kernel
theorem d37_29 : decode cX0_copyFrom 29 = .ok (.putfield 21, 3) := by decide +kernel
theorem d37_32 : decode cX0_copyFrom 32 = .ok (.aload_n 0, 1) := by decide +kernel
theorem d37_33 : decode cX0_copyFrom 33 = .ok (.aload_n 1, 1) := by decide +kernel
theorem d37_34 : decode cX0_copyFrom 34 = .ok (.getfield 24, 3) := by decide +kernel
theorem d37_37 : decode cX0_copyFrom 37 = .ok (.putfield 24, 3) := by decide +kernel
theorem d37_40 : decode cX0_copyFrom 40 = .ok (.aload_n 1, 1) := by decide +kernel
theorem d37_41 : decode cX0_copyFrom 41 = .ok (.getfield 27, 3) := by decide +kernel
theorem d37_44 : decode cX0_copyFrom 44 = .ok (.iconst 0, 1) := by decide +kernel
theorem d37_45 : decode cX0_copyFrom 45 = .ok (.aload_n 0, 1) := by decide +kernel
theorem d37_46 : decode cX0_copyFrom 46 = .ok (.getfield 27, 3) := by decide +kernel
theorem d37_49 : decode cX0_copyFrom 49 = .ok (.iconst 0, 1) := by decide +kernel
theorem d37_50 : decode cX0_copyFrom 50 = .ok (.bipush 12, 2) := by decide +kernel
theorem d37_52 : decode cX0_copyFrom 52 = .ok (.invokestatic 52, 3) := by decide +kernel
theorem d37_55 : decode cX0_copyFrom 55 = .ok (.aload_n 1, 1) := by decide +kernel
theorem d37_56 : decode cX0_copyFrom 56 = .ok (.getfield 31, 3) := by decide +kernel
theorem d37_59 : decode cX0_copyFrom 59 = .ok (.iconst 0, 1) := by decide +kernel
theorem d37_60 : decode cX0_copyFrom 60 = .ok (.aload_n 0, 1) := by decide +kernel
theorem d37_61 : decode cX0_copyFrom 61 = .ok (.getfield 31, 3) := by decide +kernel
theorem d37_64 : decode cX0_copyFrom 64 = .ok (.iconst 0, 1) := by decide +kernel
theorem d37_65 : decode cX0_copyFrom 65 = .ok (.bipush 12, 2) := by decide +kernel
theorem d37_67 : decode cX0_copyFrom 67 = .ok (.invokestatic 52, 3) := by decide +kernel
theorem d37_70 : decode cX0_copyFrom 70 = .ok (.aload_n 1, 1) := by decide +kernel
theorem d37_71 : decode cX0_copyFrom 71 = .ok (.getfield 34, 3) := by decide +kernel
theorem d37_74 : decode cX0_copyFrom 74 = .ok (.iconst 0, 1) := by decide +kernel
theorem d37_75 : decode cX0_copyFrom 75 = .ok (.aload_n 0, 1) := by decide +kernel
theorem d37_76 : decode cX0_copyFrom 76 = .ok (.getfield 34, 3) := by decide +kernel
theorem d37_79 : decode cX0_copyFrom 79 = .ok (.iconst 0, 1) := by decide +kernel
theorem d37_80 : decode cX0_copyFrom 80 = .ok (.bipush 36, 2) := by decide +kernel
theorem d37_82 : decode cX0_copyFrom 82 = .ok (.invokestatic 52, 3) := by decide +kernel
theorem d37_85 : decode cX0_copyFrom 85 = .ok (.aload_n 0, 1) := by decide +kernel
theorem d37_86 : decode cX0_copyFrom 86 = .ok (.getfield 41, 3) := by decide +kernel
theorem d37_89 : decode cX0_copyFrom 89 = .ok (.aload_n 1, 1) := by decide +kernel
theorem d37_90 : decode cX0_copyFrom 90 = .ok (.getfield 41, 3) := by decide +kernel
theorem d37_93 : decode cX0_copyFrom 93 = .ok (.invokevirtual 58, 3) := by decide +kernel
theorem d37_96 : decode cX0_copyFrom 96 = .ok (.aload_n 0, 1) := by decide +kernel
theorem d37_97 : decode cX0_copyFrom 97 = .ok (.getfield 48, 3) := by decide +kernel
theorem d37_100 : decode cX0_copyFrom 100 = .ok (.aload_n 1, 1) := by decide +kernel
theorem d37_101 : decode cX0_copyFrom 101 = .ok (.getfield 48, 3) := by decide +kernel
theorem d37_104 : decode cX0_copyFrom 104 = .ok (.invokevirtual 62, 3) := by decide +kernel
theorem d37_107 : decode cX0_copyFrom 107 = .ok (.return_, 1) := by decide +kernel
theorem v37_0 {w : PW} {Q : PO → PW → Prop} {b : Nat} {c : Nat} (hs : Sh w) (hb : bx b) (hc : bx c) (h : ∀ w1 : PW, w1 = sI w b 0 (gI w c 0) → ∀ w2 : PW, w2 = sI w1 b 1 (gI w1 c 1) → ∀ w3 : PW, w3 = sI w2 b 2 (gI w2 c 2) → ∀ w4 : PW, w4 = sI w3 b 3 (gI w3 c 3) → ∀ w5 : PW, w5 = sI w4 b 4 (gI w4 c 4) → ∀ w6 : PW, w6 = sCp w5 (c + 1) (b + 1) 12 → ∀ w7 : PW, w7 = sCp w6 (c + 2) (b + 2) 12 → ∀ w8 : PW, w8 = sCp w7 (c + 3) (b + 3) 36 → pC 35 [.ref (b + 4), .ref (c + 4)] w8 (kV fun w9 => Sh w9 ∧ pC 36 [.ref (b + 8), .ref (c + 8)] w9 (kV fun w11 => Sh w11 ∧ Q (.inl none) w11))) : pX 37 0 [some (.ref b), some (.ref c)] [] w Q :=
  w_f b37 d37_0 rfl rfl rfl <| w_f b37 d37_1 rfl rfl rfl <| w_gi b37 d37_2 rfl rfl hs (bx00 hc) (tb0 hc) rfl <| w_pi b37 d37_5 rfl rfl hs (bx00 hb) (tb0 hb) rfl rfl rfl <| w_f b37 d37_8 rfl rfl rfl <| w_f b37 d37_9 rfl rfl rfl <| w_gi b37 d37_10 rfl rfl (Sh_sI hs (slt_o (tb0 hb) rfl)) (bx00 hc) (tb0 hc) rfl <| w_pi b37 d37_13 rfl rfl (Sh_sI hs (slt_o (tb0 hb) rfl)) (bx00 hb) (tb0 hb) rfl rfl rfl <| w_f b37 d37_16 rfl rfl rfl <| w_f b37 d37_17 rfl rfl rfl <| w_gi b37 d37_18 rfl rfl (Sh_sI (Sh_sI hs (slt_o (tb0 hb) rfl)) (slt_o (tb0 hb) rfl)) (bx00 hc) (tb0 hc) rfl <| w_pi b37 d37_21 rfl rfl (Sh_sI (Sh_sI hs (slt_o (tb0 hb) rfl)) (slt_o (tb0 hb) rfl)) (bx00 hb) (tb0 hb) rfl rfl rfl <| w_f b37 d37_24 rfl rfl rfl <| w_f b37 d37_25 rfl rfl rfl <| w_gi b37 d37_26 rfl rfl (Sh_sI (Sh_sI (Sh_sI hs (slt_o (tb0 hb) rfl)) (slt_o (tb0 hb) rfl)) (slt_o (tb0 hb) rfl)) (bx00 hc) (tb0 hc) rfl <| w_pi b37 d37_29 rfl rfl (Sh_sI (Sh_sI (Sh_sI hs (slt_o (tb0 hb) rfl)) (slt_o (tb0 hb) rfl)) (slt_o (tb0 hb) rfl)) (bx00 hb) (tb0 hb) rfl rfl rfl <| w_f b37 d37_32 rfl rfl rfl <| w_f b37 d37_33 rfl rfl rfl <| w_gi b37 d37_34 rfl rfl (Sh_sI (Sh_sI (Sh_sI (Sh_sI hs (slt_o (tb0 hb) rfl)) (slt_o (tb0 hb) rfl)) (slt_o (tb0 hb) rfl)) (slt_o (tb0 hb) rfl)) (bx00 hc) (tb0 hc) rfl <| w_pi b37 d37_37 rfl rfl (Sh_sI (Sh_sI (Sh_sI (Sh_sI hs (slt_o (tb0 hb) rfl)) (slt_o (tb0 hb) rfl)) (slt_o (tb0 hb) rfl)) (slt_o (tb0 hb) rfl)) (bx00 hb) (tb0 hb) rfl rfl rfl <| w_f b37 d37_40 rfl rfl rfl <| w_gr b37 d37_41 rfl rfl (Sh_sI (Sh_sI (Sh_sI (Sh_sI (Sh_sI hs (slt_o (tb0 hb) rfl)) (slt_o (tb0 hb) rfl)) (slt_o (tb0 hb) rfl)) (slt_o (tb0 hb) rfl)) (slt_o (tb0 hb) rfl)) (bx00 hc) (tb0 hc) rfl (bxr hc 1 rfl) <| w_f b37 d37_44 rfl rfl rfl <| w_f b37 d37_45 rfl rfl rfl <| w_gr b37 d37_46 rfl rfl (Sh_sI (Sh_sI (Sh_sI (Sh_sI (Sh_sI hs (slt_o (tb0 hb) rfl)) (slt_o (tb0 hb) rfl)) (slt_o (tb0 hb) rfl)) (slt_o (tb0 hb) rfl)) (slt_o (tb0 hb) rfl)) (bx00 hb) (tb0 hb) rfl (bxr hb 1 rfl) <| w_f b37 d37_49 rfl rfl rfl <| w_f b37 d37_50 rfl rfl rfl <| w_acpI b37 d37_52 rfl rfl rfl (Sh_sI (Sh_sI (Sh_sI (Sh_sI (Sh_sI hs (slt_o (tb0 hb) rfl)) (slt_o (tb0 hb) rfl)) (slt_o (tb0 hb) rfl)) (slt_o (tb0 hb) rfl)) (slt_o (tb0 hb) rfl)) (bxk hc 1 rfl) (tb1 hc) (bxk hb 1 rfl) (tb1 hb) ⟨by decide, by decide⟩ ⟨by decide, by decide, by decide⟩ <| w_f b37 d37_55 rfl rfl rfl <| w_gr b37 d37_56 rfl rfl (Sh_sCp (Sh_sI (Sh_sI (Sh_sI (Sh_sI (Sh_sI hs (slt_o (tb0 hb) rfl)) (slt_o (tb0 hb) rfl)) (slt_o (tb0 hb) rfl)) (slt_o (tb0 hb) rfl)) (slt_o (tb0 hb) rfl))) (bx00 hc) (tb0 hc) rfl (bxr hc 2 rfl) <| w_f b37 d37_59 rfl rfl rfl <| w_f b37 d37_60 rfl rfl rfl <| w_gr b37 d37_61 rfl rfl (Sh_sCp (Sh_sI (Sh_sI (Sh_sI (Sh_sI (Sh_sI hs (slt_o (tb0 hb) rfl)) (slt_o (tb0 hb) rfl)) (slt_o (tb0 hb) rfl)) (slt_o (tb0 hb) rfl)) (slt_o (tb0 hb) rfl))) (bx00 hb) (tb0 hb) rfl (bxr hb 2 rfl) <| w_f b37 d37_64 rfl rfl rfl <| w_f b37 d37_65 rfl rfl rfl <| w_acpI b37 d37_67 rfl rfl rfl (Sh_sCp (Sh_sI (Sh_sI (Sh_sI (Sh_sI (Sh_sI hs (slt_o (tb0 hb) rfl)) (slt_o (tb0 hb) rfl)) (slt_o (tb0 hb) rfl)) (slt_o (tb0 hb) rfl)) (slt_o (tb0 hb) rfl))) (bxk hc 2 rfl) (tb2 hc) (bxk hb 2 rfl) (tb2 hb) ⟨by decide, by decide⟩ ⟨by decide, by decide, by decide⟩ <| w_f b37 d37_70 rfl rfl rfl <| w_gr b37 d37_71 rfl rfl (Sh_sCp (Sh_sCp (Sh_sI (Sh_sI (Sh_sI (Sh_sI (Sh_sI hs (slt_o (tb0 hb) rfl)) (slt_o (tb0 hb) rfl)) (slt_o (tb0 hb) rfl)) (slt_o (tb0 hb) rfl)) (slt_o (tb0 hb) rfl)))) (bx00 hc) (tb0 hc) rfl (bxr hc 3 rfl) <| w_f b37 d37_74 rfl rfl rfl <| w_f b37 d37_75 rfl rfl rfl <| w_gr b37 d37_76 rfl rfl (Sh_sCp (Sh_sCp (Sh_sI (Sh_sI (Sh_sI (Sh_sI (Sh_sI hs (slt_o (tb0 hb) rfl)) (slt_o (tb0 hb) rfl)) (slt_o (tb0 hb) rfl)) (slt_o (tb0 hb) rfl)) (slt_o (tb0 hb) rfl)))) (bx00 hb) (tb0 hb) rfl (bxr hb 3 rfl) <| w_f b37 d37_79 rfl rfl rfl <| w_f b37 d37_80 rfl rfl rfl <| w_acpL b37 d37_82 rfl rfl rfl (Sh_sCp (Sh_sCp (Sh_sI (Sh_sI (Sh_sI (Sh_sI (Sh_sI hs (slt_o (tb0 hb) rfl)) (slt_o (tb0 hb) rfl)) (slt_o (tb0 hb) rfl)) (slt_o (tb0 hb) rfl)) (slt_o (tb0 hb) rfl)))) (bxk hc 3 rfl) (tb3 hc) (bxk hb 3 rfl) (tb3 hb) ⟨by decide, by decide⟩ ⟨by decide, by decide, by decide⟩ <| w_f b37 d37_85 rfl rfl rfl <| w_gr b37 d37_86 rfl rfl (Sh_sCp (Sh_sCp (Sh_sCp (Sh_sI (Sh_sI (Sh_sI (Sh_sI (Sh_sI hs (slt_o (tb0 hb) rfl)) (slt_o (tb0 hb) rfl)) (slt_o (tb0 hb) rfl)) (slt_o (tb0 hb) rfl)) (slt_o (tb0 hb) rfl))))) (bx00 hb) (tb0 hb) rfl (bxr hb 4 rfl) <| w_f b37 d37_89 rfl rfl rfl <| w_gr b37 d37_90 rfl rfl (Sh_sCp (Sh_sCp (Sh_sCp (Sh_sI (Sh_sI (Sh_sI (Sh_sI (Sh_sI hs (slt_o (tb0 hb) rfl)) (slt_o (tb0 hb) rfl)) (slt_o (tb0 hb) rfl)) (slt_o (tb0 hb) rfl)) (slt_o (tb0 hb) rfl))))) (bx00 hc) (tb0 hc) rfl (bxr hc 4 rfl) <| w_c b37 d37_93 rfl (pcl_v (n := 1) rfl rfl rfl (by decide +kernel) (sh_isOb (Sh_sCp (Sh_sCp (Sh_sCp (Sh_sI (Sh_sI (Sh_sI (Sh_sI (Sh_sI hs (slt_o (tb0 hb) rfl)) (slt_o (tb0 hb) rfl)) (slt_o (tb0 hb) rfl)) (slt_o (tb0 hb) rfl)) (slt_o (tb0 hb) rfl))))) (bxk hb 4 rfl) (tb4 hb)) rfl rfl) rfl _ (hK_V fun w9 hkw9 => w_f b37 d37_96 rfl rfl rfl <| w_gr b37 d37_97 rfl rfl hkw9.1 (bx00 hb) (tb0 hb) rfl (bxr hb 8 rfl) <| w_f b37 d37_100 rfl rfl rfl <| w_gr b37 d37_101 rfl rfl hkw9.1 (bx00 hc) (tb0 hc) rfl (bxr hc 8 rfl) <| w_c b37 d37_104 rfl (pcl_v (n := 1) rfl rfl rfl (by decide +kernel) (sh_isOb hkw9.1 (bxk hb 8 rfl) (tb8 hb)) rfl rfl) rfl _ (hK_V fun w11 hkw11 => w_rv b37 d37_107 r37 hkw11.2) hkw9.2) ((((((((h _ rfl) _ rfl) _ rfl) _ rfl) _ rfl) _ rfl) _ rfl) _ rfl)
/-! 44: PinBarrel$Box.need(I)I -/
theorem b44 : mB 44 = cX0_need := rfl
theorem r44 : mR 44 = (some .int) := rfl
theorem p44 (a b : Nat) : phi 44 a ≤ phi 44 b := Nat.le_refl 0
theorem d44_0 : decode cX0_need 0 = .ok (.aload_n 0, 1) := by decide +kernel
theorem d44_1 : decode cX0_need 1 = .ok (.getfield 31, 3) := by decide +kernel
theorem d44_4 : decode cX0_need 4 = .ok (.iload_n 1, 1) := by decide +kernel
theorem d44_5 : decode cX0_need 5 = .ok (.iaload, 1) := by decide +kernel
theorem d44_6 : decode cX0_need 6 = .ok (.aload_n 0, 1) := by decide +kernel
theorem d44_7 : decode cX0_need 7 = .ok (.getfield 21, 3) := by decide +kernel
theorem d44_10 : decode cX0_need 10 = .ok (.imul, 1) := by decide +kernel
theorem d44_11 : decode cX0_need 11 = .ok (.ireturn, 1) := by decide +kernel
theorem v44_0 {w : PW} {Q : PO → PW → Prop} {b : Nat} {x1 : Int} (hs : Sh w) (hb : bx b) (hx1 : bd x1) (h : (0 ≤ x1 ∧ x1 < 12) ∧ Q (.inl (some (iv ((gI w (b + 2) x1.toNat) * (gI w b 3))))) w) : pX 44 0 [some (.ref b), some (iv x1)] [] w Q :=
  w_f b44 d44_0 rfl rfl rfl <| w_gr b44 d44_1 rfl rfl hs (bx00 hb) (tb0 hb) rfl (bxr hb 2 rfl) <| w_f b44 d44_4 rfl rfl rfl <| w_ial b44 d44_5 rfl hs (bxk hb 2 rfl) (tb2 hb) (bdix (n := 12) h.1 rfl) h.1 <| w_f b44 d44_6 rfl rfl rfl <| w_gi b44 d44_7 rfl rfl hs (bx00 hb) (tb0 hb) rfl <| w_f b44 d44_10 rfl (pf_imul (gI w (b + 2) x1.toNat) (gI w b 3)) rfl <| w_ri b44 d44_11 r44 h.2
/-! 106: PinBarrel$Notes.countOf(I)I -/
theorem b106 : mB 106 = cX2_countOf := rfl
theorem r106 : mR 106 = (some .int) := rfl
theorem p106 (a b : Nat) : phi 106 a ≤ phi 106 b := Nat.le_refl 0
theorem d106_0 : decode cX2_countOf 0 = .ok (.iconst 0, 1) := by decide +kernel
theorem d106_1 : decode cX2_countOf 1 = .ok (.istore_n 2, 1) := by decide +kernel
theorem d106_2 : decode cX2_countOf 2 = .ok (.iconst 0, 1) := by decide +kernel
theorem d106_3 : decode cX2_countOf 3 = .ok (.istore_n 3, 1) := by decide +kernel
theorem d106_4 : decode cX2_countOf 4 = .ok (.iload_n 3, 1) := by decide +kernel
theorem d106_5 : decode cX2_countOf 5 = .ok (.aload_n 0, 1) := by decide +kernel
theorem d106_6 : decode cX2_countOf 6 = .ok (.getfield 9, 3) := by decide +kernel
theorem d106_9 : decode cX2_countOf 9 = .ok (.if_icmp .ge 22, 3) := by decide +kernel
theorem d106_12 : decode cX2_countOf 12 = .ok (.aload_n 0, 1) := by decide +kernel
theorem d106_13 : decode cX2_countOf 13 = .ok (.getfield 15, 3) := by decide +kernel
theorem d106_16 : decode cX2_countOf 16 = .ok (.iload_n 3, 1) := by decide +kernel
theorem d106_17 : decode cX2_countOf 17 = .ok (.iaload, 1) := by decide +kernel
theorem d106_18 : decode cX2_countOf 18 = .ok (.iload_n 1, 1) := by decide +kernel
theorem d106_19 : decode cX2_countOf 19 = .ok (.if_icmp .ne 6, 3) := by decide +kernel
theorem d106_22 : decode cX2_countOf 22 = .ok (.iinc 2 1, 3) := by decide +kernel
theorem d106_25 : decode cX2_countOf 25 = .ok (.iinc 3 1, 3) := by decide +kernel
theorem d106_28 : decode cX2_countOf 28 = .ok (.goto (-24), 3) := by decide +kernel
theorem d106_31 : decode cX2_countOf 31 = .ok (.iload_n 2, 1) := by decide +kernel
theorem d106_32 : decode cX2_countOf 32 = .ok (.ireturn, 1) := by decide +kernel
theorem v106_0 {w : PW} {Q : PO → PW → Prop} {b : Nat} {x1 : Int} (hs : Sh w) (hb : bx b) (hx1 : bd x1) (h : pX 106 4 [some (.ref (b + 4)), some (iv x1), some (iv 0), some (iv 0)] [] w Q) : pX 106 0 [some (.ref (b + 4)), some (iv x1), none, none] [] w Q :=
  w_f b106 d106_0 rfl rfl rfl <| w_f b106 d106_1 rfl rfl rfl <| w_f b106 d106_2 rfl rfl rfl <| w_f b106 d106_3 rfl rfl rfl <| h
theorem v106_4 {w : PW} {Q : PO → PW → Prop} {b : Nat} {x1 : Int} {x2 : Int} {x3 : Int} (hs : Sh w) (hb : bx b) (hx1 : bd x1) (hx2 : bd x2) (hx3 : bd x3) (h : ((gI w (b + 4) 0) ≤ x3 → Q (.inl (some (iv x2))) w) ∧ (x3 < (gI w (b + 4) 0) → (0 ≤ x3 ∧ x3 < 60) ∧ ((gI w (b + 5) x3.toNat) ≠ x1 → pX 106 4 [some (.ref (b + 4)), some (iv x1), some (iv x2), some (iv (x3 + 1))] [] w Q) ∧ ((gI w (b + 5) x3.toNat) = x1 → pX 106 4 [some (.ref (b + 4)), some (iv x1), some (iv (x2 + 1)), some (iv (x3 + 1))] [] w Q))) : pX 106 4 [some (.ref (b + 4)), some (iv x1), some (iv x2), some (iv x3)] [] w Q :=
  w_f b106 d106_4 rfl rfl rfl <| w_f b106 d106_5 rfl rfl rfl <| w_gi b106 d106_6 rfl rfl hs (bxk hb 4 rfl) (tb4 hb) rfl <| w_icge b106 d106_9 rfl rfl (p106 _ _) hx3 (bd_gI _ _ _) (fun c1 => w_f b106 d106_31 rfl rfl rfl <| w_ri b106 d106_32 r106 (h.1 c1)) (fun c1 => w_f b106 d106_12 rfl rfl rfl <| w_gr b106 d106_13 rfl rfl hs (bxk hb 4 rfl) (tb4 hb) rfl (bxr hb 5 rfl) <| w_f b106 d106_16 rfl rfl rfl <| w_ial b106 d106_17 rfl hs (bxk hb 5 rfl) (tb5 hb) (bdix (n := 60) (h.2 c1).1 rfl) (h.2 c1).1 <| w_f b106 d106_18 rfl rfl rfl <| w_icne b106 d106_19 rfl rfl (p106 _ _) (bd_gI _ _ _) hx1 (fun c2 => w_f b106 d106_25 rfl (pf_iinc rfl rfl) rfl <| w_j b106 d106_28 rfl (p106 _ _) <| ((h.2 c1).2.1 c2)) (fun c2 => w_f b106 d106_22 rfl (pf_iinc rfl rfl) rfl <| w_f b106 d106_25 rfl (pf_iinc rfl rfl) rfl <| w_j b106 d106_28 rfl (p106 _ _) <| ((h.2 c1).2.2 c2)))
/-! 120: PinBarrel$Search.pinsOn(I)J -/
theorem b120 : mB 120 = cX6_pinsOn := rfl
theorem r120 : mR 120 = (some .long) := rfl
theorem p120 (a b : Nat) : phi 120 a ≤ phi 120 b := Nat.le_refl 0
theorem d120_0 : decode cX6_pinsOn 0 = .ok (.iload_n 1, 1) := by decide +kernel
theorem d120_1 : decode cX6_pinsOn 1 = .ok (.ifCond .lt 9, 3) := by decide +kernel
theorem d120_4 : decode cX6_pinsOn 4 = .ok (.iload_n 1, 1) := by decide +kernel
theorem d120_5 : decode cX6_pinsOn 5 = .ok (.bipush 36, 2) := by decide +kernel
theorem d120_7 : decode cX6_pinsOn 7 = .ok (.if_icmp .lt 7, 3) := by decide +kernel
theorem d120_10 : decode cX6_pinsOn 10 = .ok (.lconst 0, 1) := by decide +kernel
theorem d120_11 : decode cX6_pinsOn 11 = .ok (.goto 9, 3) := by decide +kernel
theorem d120_14 : decode cX6_pinsOn 14 = .ok (.aload_n 0, 1) := by decide +kernel
theorem d120_15 : decode cX6_pinsOn 15 = .ok (.getfield 28, 3) := by decide +kernel
theorem d120_18 : decode cX6_pinsOn 18 = .ok (.iload_n 1, 1) := by decide +kernel
theorem d120_19 : decode cX6_pinsOn 19 = .ok (.laload, 1) := by decide +kernel
theorem d120_20 : decode cX6_pinsOn 20 = .ok (.lreturn, 1) := by decide +kernel
theorem v120_0 {w : PW} {Q : PO → PW → Prop} {x1 : Int} (hs : Sh w) (hx1 : bd x1) (h : (x1 < 0 → Q (.inl (some (.long ((0 : Int64))))) w) ∧ (0 ≤ x1 → (x1 < 36 → (0 ≤ x1 ∧ x1 < 36) ∧ Q (.inl (some (.long (gL w 142 x1.toNat)))) w) ∧ (36 ≤ x1 → Q (.inl (some (.long ((0 : Int64))))) w))) : pX 120 0 [some (.ref 139), some (iv x1)] [] w Q :=
  w_f b120 d120_0 rfl rfl rfl <| w_iflt b120 d120_1 rfl rfl (p120 _ _) hx1 (fun c1 => w_f b120 d120_10 rfl rfl rfl <| w_j b120 d120_11 rfl (p120 _ _) <| w_rl b120 d120_20 r120 (h.1 c1)) (fun c1 => w_f b120 d120_4 rfl rfl rfl <| w_f b120 d120_5 rfl rfl rfl <| w_iclt b120 d120_7 rfl rfl (p120 _ _) hx1 ⟨by decide, by decide⟩ (fun c2 => w_f b120 d120_14 rfl rfl rfl <| w_gr b120 d120_15 rfl rfl hs (tlt 139 rfl) tbC_139 rfl (by decide) <| w_f b120 d120_18 rfl rfl rfl <| w_lal b120 d120_19 rfl hs (tlt 142 rfl) tbC_142 (bdix (n := 36) ((h.2 c1).1 c2).1 rfl) ((h.2 c1).1 c2).1 <| w_rl b120 d120_20 r120 ((h.2 c1).1 c2).2) (fun c2 => w_f b120 d120_10 rfl rfl rfl <| w_j b120 d120_11 rfl (p120 _ _) <| w_rl b120 d120_20 r120 ((h.2 c1).2 c2)))
/-! 124: PinBarrel$Search.seek(LPinBarrel$Box;II)V -/
theorem b124 : mB 124 = cX6_seek := rfl
theorem r124 : mR 124 = none := rfl
theorem p124 (a b : Nat) : phi 124 a ≤ phi 124 b := Nat.le_refl 0
theorem d124_0 : decode cX6_seek 0 = .ok (.aload_n 0, 1) := by decide +kernel
theorem d124_1 : decode cX6_seek 1 = .ok (.aload_n 1, 1) := by decide +kernel
theorem d124_2 : decode cX6_seek 2 = .ok (.iload_n 2, 1) := by decide +kernel
theorem d124_3 : decode cX6_seek 3 = .ok (.invokevirtual 32, 3) := by decide +kernel
theorem d124_6 : decode cX6_seek 6 = .ok (.iconst 0, 1) := by decide +kernel
theorem d124_7 : decode cX6_seek 7 = .ok (.istore 4, 2) := by decide +kernel
theorem d124_9 : decode cX6_seek 9 = .ok (.aload_n 0, 1) := by decide +kernel
theorem d124_10 : decode cX6_seek 10 = .ok (.getfield 25, 3) := by decide +kernel
theorem d124_13 : decode cX6_seek 13 = .ok (.iconst 0, 1) := by decide +kernel
theorem d124_14 : decode cX6_seek 14 = .ok (.iconst (-1), 1) := by decide +kernel
theorem d124_15 : decode cX6_seek 15 = .ok (.iastore, 1) := by decide +kernel
theorem d124_16 : decode cX6_seek 16 = .ok (.iconst 0, 1) := by decide +kernel
theorem d124_17 : decode cX6_seek 17 = .ok (.istore 5, 2) := by decide +kernel
theorem d124_19 : decode cX6_seek 19 = .ok (.iload 5, 2) := by decide +kernel
theorem d124_21 : decode cX6_seek 21 = .ok (.sipush 12000, 3) := by decide +kernel
theorem d124_24 : decode cX6_seek 24 = .ok (.if_icmp .ge 170, 3) := by decide +kernel
theorem d124_27 : decode cX6_seek 27 = .ok (.iload 4, 2) := by decide +kernel
theorem d124_29 : decode cX6_seek 29 = .ok (.aload_n 0, 1) := by decide +kernel
theorem d124_30 : decode cX6_seek 30 = .ok (.getfield 18, 3) := by decide +kernel
theorem d124_33 : decode cX6_seek 33 = .ok (.if_icmp .lt 9, 3) := by decide +kernel
theorem d124_36 : decode cX6_seek 36 = .ok (.aload_n 0, 1) := by decide +kernel
theorem d124_37 : decode cX6_seek 37 = .ok (.iconst 1, 1) := by decide +kernel
theorem d124_38 : decode cX6_seek 38 = .ok (.putfield 11, 3) := by decide +kernel
theorem d124_41 : decode cX6_seek 41 = .ok (.return_, 1) := by decide +kernel
theorem d124_42 : decode cX6_seek 42 = .ok (.aload_n 0, 1) := by decide +kernel
theorem d124_43 : decode cX6_seek 43 = .ok (.getfield 21, 3) := by decide +kernel
theorem d124_46 : decode cX6_seek 46 = .ok (.iload 4, 2) := by decide +kernel
theorem d124_48 : decode cX6_seek 48 = .ok (.iaload, 1) := by decide +kernel
theorem d124_49 : decode cX6_seek 49 = .ok (.istore 6, 2) := by decide +kernel
theorem d124_51 : decode cX6_seek 51 = .ok (.aload_n 0, 1) := by decide +kernel
theorem d124_52 : decode cX6_seek 52 = .ok (.getfield 25, 3) := by decide +kernel
theorem d124_55 : decode cX6_seek 55 = .ok (.iload 4, 2) := by decide +kernel
theorem d124_57 : decode cX6_seek 57 = .ok (.iaload, 1) := by decide +kernel
theorem d124_58 : decode cX6_seek 58 = .ok (.aload_n 1, 1) := by decide +kernel
theorem d124_59 : decode cX6_seek 59 = .ok (.aload_n 1, 1) := by decide +kernel
theorem d124_60 : decode cX6_seek 60 = .ok (.getfield 36, 3) := by decide +kernel
theorem d124_63 : decode cX6_seek 63 = .ok (.getfield 42, 3) := by decide +kernel
theorem d124_66 : decode cX6_seek 66 = .ok (.iload 6, 2) := by decide +kernel
theorem d124_68 : decode cX6_seek 68 = .ok (.iaload, 1) := by decide +kernel
theorem d124_69 : decode cX6_seek 69 = .ok (.iload_n 3, 1) := by decide +kernel
theorem d124_70 : decode cX6_seek 70 = .ok (.invokestatic 47, 3) := by decide +kernel
theorem d124_73 : decode cX6_seek 73 = .ok (.istore 7, 2) := by decide +kernel
theorem d124_75 : decode cX6_seek 75 = .ok (.iload 7, 2) := by decide +kernel
theorem d124_77 : decode cX6_seek 77 = .ok (.iconst (-1), 1) := by decide +kernel
theorem d124_78 : decode cX6_seek 78 = .ok (.if_icmp .ne 39, 3) := by decide +kernel
theorem d124_81 : decode cX6_seek 81 = .ok (.iload 4, 2) := by decide +kernel
theorem d124_83 : decode cX6_seek 83 = .ok (.ifCond .ne 9, 3) := by decide +kernel
theorem d124_86 : decode cX6_seek 86 = .ok (.aload_n 0, 1) := by decide +kernel
theorem d124_87 : decode cX6_seek 87 = .ok (.iconst 0, 1) := by decide +kernel
theorem d124_88 : decode cX6_seek 88 = .ok (.putfield 11, 3) := by decide +kernel
theorem d124_91 : decode cX6_seek 91 = .ok (.return_, 1) := by decide +kernel
theorem d124_92 : decode cX6_seek 92 = .ok (.iinc 4 (-1), 3) := by decide +kernel
theorem d124_95 : decode cX6_seek 95 = .ok (.aload_n 0, 1) := by decide +kernel
theorem d124_96 : decode cX6_seek 96 = .ok (.aload_n 1, 1) := by decide +kernel
theorem d124_97 : decode cX6_seek 97 = .ok (.aload_n 0, 1) := by decide +kernel
theorem d124_98 : decode cX6_seek 98 = .ok (.getfield 21, 3) := by decide +kernel
theorem d124_101 : decode cX6_seek 101 = .ok (.iload 4, 2) := by decide +kernel
theorem d124_103 : decode cX6_seek 103 = .ok (.iaload, 1) := by decide +kernel
theorem d124_104 : decode cX6_seek 104 = .ok (.aload_n 0, 1) := by decide +kernel
theorem d124_105 : decode cX6_seek 105 = .ok (.getfield 25, 3) := by decide +kernel
theorem d124_108 : decode cX6_seek 108 = .ok (.iload 4, 2) := by decide +kernel
theorem d124_110 : decode cX6_seek 110 = .ok (.iaload, 1) := by decide +kernel
theorem d124_111 : decode cX6_seek 111 = .ok (.invokevirtual 51, 3) := by decide +kernel
theorem d124_114 : decode cX6_seek 114 = .ok (.goto 74, 3) := by decide +kernel
theorem d124_117 : decode cX6_seek 117 = .ok (.aload_n 0, 1) := by decide +kernel
theorem d124_118 : decode cX6_seek 118 = .ok (.getfield 15, 3) := by decide +kernel
theorem d124_121 : decode cX6_seek 121 = .ok (.sipush 4000, 3) := by decide +kernel
theorem d124_124 : decode cX6_seek 124 = .ok (.if_icmp .lt 4, 3) := by decide +kernel
theorem d124_127 : decode cX6_seek 127 = .ok (.return_, 1) := by decide +kernel
theorem d124_128 : decode cX6_seek 128 = .ok (.aload_n 0, 1) := by decide +kernel
theorem d124_129 : decode cX6_seek 129 = .ok (.dup, 1) := by decide +kernel
theorem d124_130 : decode cX6_seek 130 = .ok (.getfield 15, 3) := by decide +kernel
theorem d124_133 : decode cX6_seek 133 = .ok (.iconst 1, 1) := by decide +kernel
theorem d124_134 : decode cX6_seek 134 = .ok (.iadd, 1) := by decide +kernel
theorem d124_135 : decode cX6_seek 135 = .ok (.putfield 15, 3) := by decide +kernel
theorem d124_138 : decode cX6_seek 138 = .ok (.aload_n 0, 1) := by decide +kernel
theorem d124_139 : decode cX6_seek 139 = .ok (.getfield 25, 3) := by decide +kernel
theorem d124_142 : decode cX6_seek 142 = .ok (.iload 4, 2) := by decide +kernel
theorem d124_144 : decode cX6_seek 144 = .ok (.iload 7, 2) := by decide +kernel
theorem d124_146 : decode cX6_seek 146 = .ok (.iastore, 1) := by decide +kernel
theorem d124_147 : decode cX6_seek 147 = .ok (.aload_n 0, 1) := by decide +kernel
theorem d124_148 : decode cX6_seek 148 = .ok (.aload_n 1, 1) := by decide +kernel
theorem d124_149 : decode cX6_seek 149 = .ok (.iload 6, 2) := by decide +kernel
theorem d124_151 : decode cX6_seek 151 = .ok (.iload 7, 2) := by decide +kernel
theorem d124_153 : decode cX6_seek 153 = .ok (.invokevirtual 55, 3) := by decide +kernel
theorem d124_156 : decode cX6_seek 156 = .ok (.ifCond .eq 32, 3) := by decide +kernel
theorem d124_159 : decode cX6_seek 159 = .ok (.aload_n 0, 1) := by decide +kernel
theorem d124_160 : decode cX6_seek 160 = .ok (.aload_n 1, 1) := by decide +kernel
theorem d124_161 : decode cX6_seek 161 = .ok (.iload 6, 2) := by decide +kernel
theorem d124_163 : decode cX6_seek 163 = .ok (.iload 7, 2) := by decide +kernel
theorem d124_165 : decode cX6_seek 165 = .ok (.invokevirtual 59, 3) := by decide +kernel
theorem d124_168 : decode cX6_seek 168 = .ok (.iinc 4 1, 3) := by decide +kernel
theorem d124_171 : decode cX6_seek 171 = .ok (.iload 4, 2) := by decide +kernel
theorem d124_173 : decode cX6_seek 173 = .ok (.aload_n 0, 1) := by decide +kernel
theorem d124_174 : decode cX6_seek 174 = .ok (.getfield 18, 3) := by decide +kernel
theorem d124_177 : decode cX6_seek 177 = .ok (.if_icmp .ge 11, 3) := by decide +kernel
theorem d124_180 : decode cX6_seek 180 = .ok (.aload_n 0, 1) := by decide +kernel
theorem d124_181 : decode cX6_seek 181 = .ok (.getfield 25, 3) := by decide +kernel
theorem d124_184 : decode cX6_seek 184 = .ok (.iload 4, 2) := by decide +kernel
theorem d124_186 : decode cX6_seek 186 = .ok (.iconst (-1), 1) := by decide +kernel
theorem d124_187 : decode cX6_seek 187 = .ok (.iastore, 1) := by decide +kernel
theorem d124_188 : decode cX6_seek 188 = .ok (.iinc 5 1, 3) := by decide +kernel
theorem d124_191 : decode cX6_seek 191 = .ok (.goto (-172), 3) := by decide +kernel
theorem d124_194 : decode cX6_seek 194 = .ok (.return_, 1) := by decide +kernel
theorem v124_0 {w : PW} {Q : PO → PW → Prop} {c : Nat} {x2 : Int} {x3 : Int} (hs : Sh w) (hc : bx c) (hx2 : bd x2) (hx3 : bd x3) (h : pC 118 [.ref 139, .ref c, iv x2] w (kV fun w1 => Sh w1 ∧ ∀ w3 : PW, w3 = sI w1 141 0 ((-1)) → pX 124 19 [some (.ref 139), some (.ref c), some (iv x2), some (iv x3), some (iv 0), some (iv 0), none, none] [] w3 Q)) : pX 124 0 [some (.ref 139), some (.ref c), some (iv x2), some (iv x3), none, none, none, none] [] w Q :=
  w_f b124 d124_0 rfl rfl rfl <| w_f b124 d124_1 rfl rfl rfl <| w_f b124 d124_2 rfl rfl rfl <| w_c b124 d124_3 rfl (pcl_v (n := 2) rfl rfl rfl (by decide +kernel) (sh_isOb hs (tlt 139 rfl) tbC_139) rfl rfl) rfl _ (hK_V fun w1 hkw1 => w_f b124 d124_6 rfl rfl rfl <| w_f b124 d124_7 rfl rfl rfl <| w_f b124 d124_9 rfl rfl rfl <| w_gr b124 d124_10 rfl rfl hkw1.1 (tlt 139 rfl) tbC_139 rfl (by decide) <| w_f b124 d124_13 rfl rfl rfl <| w_f b124 d124_14 rfl rfl rfl <| w_ias b124 d124_15 rfl hkw1.1 (tlt 141 rfl) tbC_141 (bdix (n := 60) ⟨by decide, by decide⟩ rfl) ⟨by decide, by decide⟩ <| w_f b124 d124_16 rfl rfl rfl <| w_f b124 d124_17 rfl rfl rfl <| (hkw1.2 _ rfl)) h
theorem v124_19 {w : PW} {Q : PO → PW → Prop} {c : Nat} {x2 : Int} {x3 : Int} {x4 : Int} {x5 : Int} {o6 : Option Value} {o7 : Option Value} (hs : Sh w) (hc : bx c) (hx2 : bd x2) (hx3 : bd x3) (hx4 : bd x4) (hx5 : bd x5) (ho6 : pc2 o6 = false) (ho7 : pc2 o7 = false) (h : (12000 ≤ x5 → Q (.inl none) w) ∧ (x5 < 12000 → (x4 < (gI w 139 2) → (0 ≤ x4 ∧ x4 < 60) ∧ (0 ≤ x4 ∧ x4 < 60) ∧ (0 ≤ (gI w 140 x4.toNat) ∧ (gI w 140 x4.toNat) < 60) ∧ pC 119 [iv (gI w 141 x4.toNat), .ref c, iv (gI w (c + 7) (gI w 140 x4.toNat).toNat), iv x3] w (kI fun x4 w3 => Sh w3 ∧ (x4 ≠ ((-1)) → ((gI w3 139 1) < 4000 → ∀ w7 : PW, w7 = sI w3 139 1 ((gI w3 139 1) + 1) → (0 ≤ x4 ∧ x4 < 60) ∧ ∀ w8 : PW, w8 = sI w7 141 x4.toNat x4 → pC 122 [.ref 139, .ref c, iv (gI w 140 x4.toNat), iv x4] w8 (kI fun x10 w9 => Sh w9 ∧ (x10 = 0 → pX 124 19 [some (.ref 139), some (.ref c), some (iv x2), some (iv x3), some (iv x4), some (iv (x5 + 1)), some (iv (gI w 140 x4.toNat)), some (iv x4)] [] w9 Q) ∧ (x10 ≠ 0 → pC 123 [.ref 139, .ref c, iv (gI w 140 x4.toNat), iv x4] w9 (kV fun w12 => Sh w12 ∧ (bd (x4 + 1)) ∧ ((gI w12 139 2) ≤ (x4 + 1) → pX 124 19 [some (.ref 139), some (.ref c), some (iv x2), some (iv x3), some (iv (x4 + 1)), some (iv (x5 + 1)), some (iv (gI w 140 x4.toNat)), some (iv x4)] [] w12 Q) ∧ ((x4 + 1) < (gI w12 139 2) → (0 ≤ (x4 + 1) ∧ (x4 + 1) < 60) ∧ ∀ w15 : PW, w15 = sI w12 141 (x4 + 1).toNat ((-1)) → pX 124 19 [some (.ref 139), some (.ref c), some (iv x2), some (iv x3), some (iv (x4 + 1)), some (iv (x5 + 1)), some (iv (gI w 140 x4.toNat)), some (iv x4)] [] w15 Q))))) ∧ (4000 ≤ (gI w3 139 1) → Q (.inl none) w3)) ∧ (x4 = ((-1)) → (x4 ≠ 0 → (0 ≤ (x4 + (-1)) ∧ (x4 + (-1)) < 60) ∧ (0 ≤ (x4 + (-1)) ∧ (x4 + (-1)) < 60) ∧ pC 121 [.ref 139, .ref c, iv (gI w3 140 (x4 + (-1)).toNat), iv (gI w3 141 (x4 + (-1)).toNat)] w3 (kV fun w17 => Sh w17 ∧ pX 124 19 [some (.ref 139), some (.ref c), some (iv x2), some (iv x3), some (iv (x4 + (-1))), some (iv (x5 + 1)), some (iv (gI w 140 x4.toNat)), some (iv x4)] [] w17 Q)) ∧ (x4 = 0 → ∀ w19 : PW, w19 = sI w3 139 0 0 → Q (.inl none) w19)))) ∧ ((gI w 139 2) ≤ x4 → ∀ w20 : PW, w20 = sI w 139 0 1 → Q (.inl none) w20))) : pX 124 19 [some (.ref 139), some (.ref c), some (iv x2), some (iv x3), some (iv x4), some (iv x5), o6, o7] [] w Q :=
  w_f b124 d124_19 rfl rfl rfl <| w_f b124 d124_21 rfl rfl rfl <| w_icge b124 d124_24 rfl rfl (p124 _ _) hx5 ⟨by decide, by decide⟩ (fun c1 => w_rv b124 d124_194 r124 (h.1 c1)) (fun c1 => w_f b124 d124_27 rfl rfl rfl <| w_f b124 d124_29 rfl rfl rfl <| w_gi b124 d124_30 rfl rfl hs (tlt 139 rfl) tbC_139 rfl <| w_iclt b124 d124_33 rfl rfl (p124 _ _) hx4 (bd_gI _ _ _) (fun c2 => w_f b124 d124_42 rfl rfl rfl <| w_gr b124 d124_43 rfl rfl hs (tlt 139 rfl) tbC_139 rfl (by decide) <| w_f b124 d124_46 rfl rfl rfl <| w_ial b124 d124_48 rfl hs (tlt 140 rfl) tbC_140 (bdix (n := 60) ((h.2 c1).1 c2).1 rfl) ((h.2 c1).1 c2).1 <| w_f b124 d124_49 rfl rfl rfl <| w_f b124 d124_51 rfl rfl rfl <| w_gr b124 d124_52 rfl rfl hs (tlt 139 rfl) tbC_139 rfl (by decide) <| w_f b124 d124_55 rfl rfl rfl <| w_ial b124 d124_57 rfl hs (tlt 141 rfl) tbC_141 (bdix (n := 60) ((h.2 c1).1 c2).2.1 rfl) ((h.2 c1).1 c2).2.1 <| w_f b124 d124_58 rfl rfl rfl <| w_f b124 d124_59 rfl rfl rfl <| w_gr b124 d124_60 rfl rfl hs (bx00 hc) (tb0 hc) rfl (bxr hc 4 rfl) <| w_gr b124 d124_63 rfl rfl hs (bxk hc 4 rfl) (tb4 hc) rfl (bxr hc 7 rfl) <| w_f b124 d124_66 rfl rfl rfl <| w_ial b124 d124_68 rfl hs (bxk hc 7 rfl) (tb7 hc) (bdix (n := 60) ((h.2 c1).1 c2).2.2.1 rfl) ((h.2 c1).1 c2).2.2.1 <| w_f b124 d124_69 rfl rfl rfl <| w_c b124 d124_70 rfl (pcl_s1 (n := 4) rfl rfl rfl (by decide +kernel) rfl rfl) rfl _ (hK_I fun x4 w3 hbx4 hkw3 => w_f b124 d124_73 rfl rfl rfl <| w_f b124 d124_75 rfl rfl rfl <| w_f b124 d124_77 rfl rfl rfl <| w_icne b124 d124_78 rfl rfl (p124 _ _) hbx4 ⟨by decide, by decide⟩ (fun c5 => w_f b124 d124_117 rfl rfl rfl <| w_gi b124 d124_118 rfl rfl hkw3.1 (tlt 139 rfl) tbC_139 rfl <| w_f b124 d124_121 rfl rfl rfl <| w_iclt b124 d124_124 rfl rfl (p124 _ _) (bd_gI _ _ _) ⟨by decide, by decide⟩ (fun c6 => w_f b124 d124_128 rfl rfl rfl <| w_f b124 d124_129 rfl rfl rfl <| w_gi b124 d124_130 rfl rfl hkw3.1 (tlt 139 rfl) tbC_139 rfl <| w_f b124 d124_133 rfl rfl rfl <| w_f b124 d124_134 rfl (pf_iadd (gI w3 139 1) 1) rfl <| w_pi b124 d124_135 rfl rfl hkw3.1 (tlt 139 rfl) tbC_139 rfl rfl rfl <| w_f b124 d124_138 rfl rfl rfl <| w_gr b124 d124_139 rfl rfl (Sh_sI hkw3.1 (slt_o tbC_139 rfl)) (tlt 139 rfl) tbC_139 rfl (by decide) <| w_f b124 d124_142 rfl rfl rfl <| w_f b124 d124_144 rfl rfl rfl <| w_ias b124 d124_146 rfl (Sh_sI hkw3.1 (slt_o tbC_139 rfl)) (tlt 141 rfl) tbC_141 (bdix (n := 60) (((hkw3.2.1 c5).1 c6) _ rfl).1 rfl) (((hkw3.2.1 c5).1 c6) _ rfl).1 <| w_f b124 d124_147 rfl rfl rfl <| w_f b124 d124_148 rfl rfl rfl <| w_f b124 d124_149 rfl rfl rfl <| w_f b124 d124_151 rfl rfl rfl <| w_c b124 d124_153 rfl (pcl_v (n := 3) rfl rfl rfl (by decide +kernel) (sh_isOb (Sh_sI (Sh_sI hkw3.1 (slt_o tbC_139 rfl)) (slt_a tbC_141)) (tlt 139 rfl) tbC_139) rfl rfl) rfl _ (hK_I fun x10 w9 hbx10 hkw9 => w_ifeq b124 d124_156 rfl rfl (p124 _ _) hbx10 (fun c11 => w_f b124 d124_188 rfl (pf_iinc rfl rfl) rfl <| w_j b124 d124_191 rfl (p124 _ _) <| (hkw9.2.1 c11)) (fun c11 => w_f b124 d124_159 rfl rfl rfl <| w_f b124 d124_160 rfl rfl rfl <| w_f b124 d124_161 rfl rfl rfl <| w_f b124 d124_163 rfl rfl rfl <| w_c b124 d124_165 rfl (pcl_v (n := 3) rfl rfl rfl (by decide +kernel) (sh_isOb hkw9.1 (tlt 139 rfl) tbC_139) rfl rfl) rfl _ (hK_V fun w12 hkw12 => w_f b124 d124_168 rfl (pf_iinc rfl rfl) rfl <| w_f b124 d124_171 rfl rfl rfl <| w_f b124 d124_173 rfl rfl rfl <| w_gi b124 d124_174 rfl rfl hkw12.1 (tlt 139 rfl) tbC_139 rfl <| w_icge b124 d124_177 rfl rfl (p124 _ _) hkw12.2.1 (bd_gI _ _ _) (fun c14 => w_f b124 d124_188 rfl (pf_iinc rfl rfl) rfl <| w_j b124 d124_191 rfl (p124 _ _) <| (hkw12.2.2.1 c14)) (fun c14 => w_f b124 d124_180 rfl rfl rfl <| w_gr b124 d124_181 rfl rfl hkw12.1 (tlt 139 rfl) tbC_139 rfl (by decide) <| w_f b124 d124_184 rfl rfl rfl <| w_f b124 d124_186 rfl rfl rfl <| w_ias b124 d124_187 rfl hkw12.1 (tlt 141 rfl) tbC_141 (bdix (n := 60) (hkw12.2.2.2 c14).1 rfl) (hkw12.2.2.2 c14).1 <| w_f b124 d124_188 rfl (pf_iinc rfl rfl) rfl <| w_j b124 d124_191 rfl (p124 _ _) <| ((hkw12.2.2.2 c14).2 _ rfl))) (hkw9.2.2 c11))) ((((hkw3.2.1 c5).1 c6) _ rfl).2 _ rfl)) (fun c6 => w_rv b124 d124_127 r124 ((hkw3.2.1 c5).2 c6))) (fun c5 => w_f b124 d124_81 rfl rfl rfl <| w_ifne b124 d124_83 rfl rfl (p124 _ _) hx4 (fun c16 => w_f b124 d124_92 rfl (pf_iinc rfl rfl) rfl <| w_f b124 d124_95 rfl rfl rfl <| w_f b124 d124_96 rfl rfl rfl <| w_f b124 d124_97 rfl rfl rfl <| w_gr b124 d124_98 rfl rfl hkw3.1 (tlt 139 rfl) tbC_139 rfl (by decide) <| w_f b124 d124_101 rfl rfl rfl <| w_ial b124 d124_103 rfl hkw3.1 (tlt 140 rfl) tbC_140 (bdix (n := 60) ((hkw3.2.2 c5).1 c16).1 rfl) ((hkw3.2.2 c5).1 c16).1 <| w_f b124 d124_104 rfl rfl rfl <| w_gr b124 d124_105 rfl rfl hkw3.1 (tlt 139 rfl) tbC_139 rfl (by decide) <| w_f b124 d124_108 rfl rfl rfl <| w_ial b124 d124_110 rfl hkw3.1 (tlt 141 rfl) tbC_141 (bdix (n := 60) ((hkw3.2.2 c5).1 c16).2.1 rfl) ((hkw3.2.2 c5).1 c16).2.1 <| w_c b124 d124_111 rfl (pcl_v (n := 3) rfl rfl rfl (by decide +kernel) (sh_isOb hkw3.1 (tlt 139 rfl) tbC_139) rfl rfl) rfl _ (hK_V fun w17 hkw17 => w_j b124 d124_114 rfl (p124 _ _) <| w_f b124 d124_188 rfl (pf_iinc rfl rfl) rfl <| w_j b124 d124_191 rfl (p124 _ _) <| hkw17.2) ((hkw3.2.2 c5).1 c16).2.2) (fun c16 => w_f b124 d124_86 rfl rfl rfl <| w_f b124 d124_87 rfl rfl rfl <| w_pi b124 d124_88 rfl rfl hkw3.1 (tlt 139 rfl) tbC_139 rfl rfl rfl <| w_rv b124 d124_91 r124 (((hkw3.2.2 c5).2 c16) _ rfl)))) ((h.2 c1).1 c2).2.2.2) (fun c2 => w_f b124 d124_36 rfl rfl rfl <| w_f b124 d124_37 rfl rfl rfl <| w_pi b124 d124_38 rfl rfl hs (tlt 139 rfl) tbC_139 rfl rfl rfl <| w_rv b124 d124_41 r124 (((h.2 c1).2 c2) _ rfl)))
/-! 164: PinBarrel$History.keep(LPinBarrel$Box;)V -/
theorem b164 : mB 164 = cX1_keep := rfl
theorem r164 : mR 164 = none := rfl
theorem p164 (a b : Nat) : phi 164 a ≤ phi 164 b := Nat.le_refl 0
