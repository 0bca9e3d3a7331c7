/-! THE MODEL's READER: bytes, words, numbers, pitches -/
/-! 218: PinBarrelModel.append(J)I -/
theorem b218 : mB 218 = cX9_append := rfl
theorem r218 : mR 218 = (some .int) := rfl
theorem p218 (a b : Nat) : phi 218 a ≤ phi 218 b := Nat.le_refl 0
theorem d218_0 : decode cX9_append 0 = .ok (.aload_n 0, 1) := by decide +kernel
theorem d218_1 : decode cX9_append 1 = .ok (.iconst 0, 1) := by decide +kernel
theorem d218_2 : decode cX9_append 2 = .ok (.putfield 50, 3) := by decide +kernel
theorem d218_5 : decode cX9_append 5 = .ok (.iconst 0, 1) := by decide +kernel
theorem d218_6 : decode cX9_append 6 = .ok (.istore_n 3, 1) := by decide +kernel
theorem d218_7 : decode cX9_append 7 = .ok (.iconst 0, 1) := by decide +kernel
theorem d218_8 : decode cX9_append 8 = .ok (.istore 4, 2) := by decide +kernel
theorem d218_10 : decode cX9_append 10 = .ok (.iload 4, 2) := by decide +kernel
theorem d218_12 : decode cX9_append 12 = .ok (.bipush 8, 2) := by decide +kernel
theorem d218_14 : decode cX9_append 14 = .ok (.if_icmp .ge 33, 3) := by decide +kernel
theorem d218_17 : decode cX9_append 17 = .ok (.iload_n 3, 1) := by decide +kernel
theorem d218_18 : decode cX9_append 18 = .ok (.lload_n 1, 1) := by decide +kernel
theorem d218_19 : decode cX9_append 19 = .ok (.bipush 8, 2) := by decide +kernel
theorem d218_21 : decode cX9_append 21 = .ok (.iload 4, 2) := by decide +kernel
theorem d218_23 : decode cX9_append 23 = .ok (.imul, 1) := by decide +kernel
theorem d218_24 : decode cX9_append 24 = .ok (.lshr, 1) := by decide +kernel
theorem d218_25 : decode cX9_append 25 = .ok (.ldc2_w 56, 3) := by decide +kernel
theorem d218_28 : decode cX9_append 28 = .ok (.land, 1) := by decide +kernel
theorem d218_29 : decode cX9_append 29 = .ok (.lconst 0, 1) := by decide +kernel
theorem d218_30 : decode cX9_append 30 = .ok (.lcmp, 1) := by decide +kernel
theorem d218_31 : decode cX9_append 31 = .ok (.ifCond .ne 7, 3) := by decide +kernel
theorem d218_34 : decode cX9_append 34 = .ok (.iconst 0, 1) := by decide +kernel
theorem d218_35 : decode cX9_append 35 = .ok (.goto 4, 3) := by decide +kernel
theorem d218_38 : decode cX9_append 38 = .ok (.iconst 1, 1) := by decide +kernel
theorem d218_39 : decode cX9_append 39 = .ok (.iadd, 1) := by decide +kernel
theorem d218_40 : decode cX9_append 40 = .ok (.istore_n 3, 1) := by decide +kernel
theorem d218_41 : decode cX9_append 41 = .ok (.iinc 4 1, 3) := by decide +kernel
theorem d218_44 : decode cX9_append 44 = .ok (.goto (-34), 3) := by decide +kernel
theorem d218_47 : decode cX9_append 47 = .ok (.aload_n 0, 1) := by decide +kernel
theorem d218_48 : decode cX9_append 48 = .ok (.getfield 58, 3) := by decide +kernel
theorem d218_51 : decode cX9_append 51 = .ok (.iload_n 3, 1) := by decide +kernel
theorem d218_52 : decode cX9_append 52 = .ok (.iadd, 1) := by decide +kernel
theorem d218_53 : decode cX9_append 53 = .ok (.sipush 700, 3) := by decide +kernel
theorem d218_56 : decode cX9_append 56 = .ok (.if_icmp .le 6, 3) := by decide +kernel
theorem d218_59 : decode cX9_append 59 = .ok (.bipush (-2), 2) := by decide +kernel
theorem d218_61 : decode cX9_append 61 = .ok (.ireturn, 1) := by decide +kernel
theorem d218_62 : decode cX9_append 62 = .ok (.bipush 7, 2) := by decide +kernel
theorem d218_64 : decode cX9_append 64 = .ok (.istore 4, 2) := by decide +kernel
theorem d218_66 : decode cX9_append 66 = .ok (.iload 4, 2) := by decide +kernel
theorem d218_68 : decode cX9_append 68 = .ok (.ifCond .lt 55, 3) := by decide +kernel
theorem d218_71 : decode cX9_append 71 = .ok (.lload_n 1, 1) := by decide +kernel
theorem d218_72 : decode cX9_append 72 = .ok (.bipush 8, 2) := by decide +kernel
theorem d218_74 : decode cX9_append 74 = .ok (.iload 4, 2) := by decide +kernel
theorem d218_76 : decode cX9_append 76 = .ok (.imul, 1) := by decide +kernel
theorem d218_77 : decode cX9_append 77 = .ok (.lshr, 1) := by decide +kernel
theorem d218_78 : decode cX9_append 78 = .ok (.ldc2_w 56, 3) := by decide +kernel
theorem d218_81 : decode cX9_append 81 = .ok (.land, 1) := by decide +kernel
theorem d218_82 : decode cX9_append 82 = .ok (.lstore 5, 2) := by decide +kernel
theorem d218_84 : decode cX9_append 84 = .ok (.lload 5, 2) := by decide +kernel
theorem d218_86 : decode cX9_append 86 = .ok (.lconst 0, 1) := by decide +kernel
theorem d218_87 : decode cX9_append 87 = .ok (.lcmp, 1) := by decide +kernel
theorem d218_88 : decode cX9_append 88 = .ok (.ifCond .ne 6, 3) := by decide +kernel
theorem d218_91 : decode cX9_append 91 = .ok (.goto 26, 3) := by decide +kernel
theorem d218_94 : decode cX9_append 94 = .ok (.aload_n 0, 1) := by decide +kernel
theorem d218_95 : decode cX9_append 95 = .ok (.getfield 26, 3) := by decide +kernel
theorem d218_98 : decode cX9_append 98 = .ok (.aload_n 0, 1) := by decide +kernel
theorem d218_99 : decode cX9_append 99 = .ok (.getfield 58, 3) := by decide +kernel
theorem d218_102 : decode cX9_append 102 = .ok (.lload 5, 2) := by decide +kernel
theorem d218_104 : decode cX9_append 104 = .ok (.l2i, 1) := by decide +kernel
theorem d218_105 : decode cX9_append 105 = .ok (.i2b, 1) := by decide +kernel
theorem d218_106 : decode cX9_append 106 = .ok (.bastore, 1) := by decide +kernel
theorem d218_107 : decode cX9_append 107 = .ok (.aload_n 0, 1) := by decide +kernel
theorem d218_108 : decode cX9_append 108 = .ok (.dup, 1) := by decide +kernel
theorem d218_109 : decode cX9_append 109 = .ok (.getfield 58, 3) := by decide +kernel
theorem d218_112 : decode cX9_append 112 = .ok (.iconst 1, 1) := by decide +kernel
theorem d218_113 : decode cX9_append 113 = .ok (.iadd, 1) := by decide +kernel
theorem d218_114 : decode cX9_append 114 = .ok (.putfield 58, 3) := by decide +kernel
theorem d218_117 : decode cX9_append 117 = .ok (.iinc 4 (-1), 3) := by decide +kernel
theorem d218_120 : decode cX9_append 120 = .ok (.goto (-54), 3) := by decide +kernel
theorem d218_123 : decode cX9_append 123 = .ok (.aload_n 0, 1) := by decide +kernel
theorem d218_124 : decode cX9_append 124 = .ok (.getfield 58, 3) := by decide +kernel
theorem d218_127 : decode cX9_append 127 = .ok (.ireturn, 1) := by decide +kernel
theorem v218_0 {w : PW} {Q : PO → PW → Prop} {y1 : Int64} (hs : Sh w)  (h : ∀ w1 : PW, w1 = sI w 169 0 0 → pX 218 10 [some (.ref 169), some (.long y1), none, some (iv 0), some (iv 0), none, none] [] w1 Q) : pX 218 0 [some (.ref 169), some (.long y1), none, none, none, none, none] [] w Q :=
  w_f b218 d218_0 rfl rfl rfl <| w_f b218 d218_1 rfl rfl rfl <| w_pi b218 d218_2 rfl rfl hs (tlt 169 rfl) tbC_169 rfl rfl rfl <| w_f b218 d218_5 rfl rfl rfl <| w_f b218 d218_6 rfl rfl rfl <| w_f b218 d218_7 rfl rfl rfl <| w_f b218 d218_8 rfl rfl rfl <| (h _ rfl)
theorem e218 {w : PW} {Q : PO → PW → Prop} {y1 : Int64} (hs : Sh w)  (h : ∀ w1 : PW, w1 = sI w 169 0 0 → pX 218 10 [some (.ref 169), some (.long y1), none, some (iv 0), some (iv 0), none, none] [] w1 Q) : pC 218 [.ref 169, .long y1] w Q :=
  (pC_in (Nat.le_of_ble_eq_true rfl) rfl Q).mpr (v218_0 hs  h)
theorem v218_10 {w : PW} {Q : PO → PW → Prop} {y1 : Int64} {x3 : Int} {x4 : Int} {o5 : Option Value} {o6 : Option Value} (hs : Sh w) (hx3 : bd x3) (hx4 : bd x4) (ho5 : pc2 o5 = false) (ho6 : pc2 o6 = false) (h : (8 ≤ x4 → (bd ((gI w 169 8) + x3)) ∧ (((gI w 169 8) + x3) ≤ 700 → pX 218 66 [some (.ref 169), some (.long y1), none, some (iv x3), some (iv 7), o5, o6] [] w Q) ∧ (700 < ((gI w 169 8) + x3) → Q (.inl (some (iv ((-2))))) w)) ∧ (x4 < 8 → ((lCmp ((lShr y1 (8 * x4)) &&& ((255 : Int64))) ((0 : Int64))) ≠ 0 → pX 218 10 [some (.ref 169), some (.long y1), none, some (iv (x3 + 1)), some (iv (x4 + 1)), o5, o6] [] w Q) ∧ ((lCmp ((lShr y1 (8 * x4)) &&& ((255 : Int64))) ((0 : Int64))) = 0 → pX 218 10 [some (.ref 169), some (.long y1), none, some (iv (x3 + 0)), some (iv (x4 + 1)), o5, o6] [] w Q))) : pX 218 10 [some (.ref 169), some (.long y1), none, some (iv x3), some (iv x4), o5, o6] [] w Q :=
  w_f b218 d218_10 rfl rfl rfl <| w_f b218 d218_12 rfl rfl rfl <| w_icge b218 d218_14 rfl rfl (p218 _ _) hx4 ⟨by decide, by decide⟩ (fun c1 => w_f b218 d218_47 rfl rfl rfl <| w_gi b218 d218_48 rfl rfl hs (tlt 169 rfl) tbC_169 rfl <| w_f b218 d218_51 rfl rfl rfl <| w_f b218 d218_52 rfl (pf_iadd (gI w 169 8) x3) rfl <| w_f b218 d218_53 rfl rfl rfl <| w_icle b218 d218_56 rfl rfl (p218 _ _) (h.1 c1).1 ⟨by decide, by decide⟩ (fun c2 => w_f b218 d218_62 rfl rfl rfl <| w_f b218 d218_64 rfl rfl rfl <| ((h.1 c1).2.1 c2)) (fun c2 => w_f b218 d218_59 rfl rfl rfl <| w_ri b218 d218_61 r218 ((h.1 c1).2.2 c2))) (fun c1 => w_f b218 d218_17 rfl rfl rfl <| w_f b218 d218_18 rfl rfl rfl <| w_f b218 d218_19 rfl rfl rfl <| w_f b218 d218_21 rfl rfl rfl <| w_f b218 d218_23 rfl (pf_imul 8 x4) rfl <| w_f b218 d218_24 rfl rfl rfl <| w_ldcL b218 d218_25 rfl rfl <| w_f b218 d218_28 rfl rfl rfl <| w_f b218 d218_29 rfl rfl rfl <| w_f b218 d218_30 rfl (pf_lcmp _ _) rfl <| w_ifne b218 d218_31 rfl rfl (p218 _ _) (bd_toInt _) (fun c3 => w_f b218 d218_38 rfl rfl rfl <| w_f b218 d218_39 rfl (pf_iadd x3 1) rfl <| w_f b218 d218_40 rfl rfl rfl <| w_f b218 d218_41 rfl (pf_iinc rfl rfl) rfl <| w_j b218 d218_44 rfl (p218 _ _) <| ((h.2 c1).1 c3)) (fun c3 => w_f b218 d218_34 rfl rfl rfl <| w_j b218 d218_35 rfl (p218 _ _) <| w_f b218 d218_39 rfl (pf_iadd x3 0) rfl <| w_f b218 d218_40 rfl rfl rfl <| w_f b218 d218_41 rfl (pf_iinc rfl rfl) rfl <| w_j b218 d218_44 rfl (p218 _ _) <| ((h.2 c1).2 c3)))
theorem v218_66 {w : PW} {Q : PO → PW → Prop} {y1 : Int64} {x3 : Int} {x4 : Int} {o5 : Option Value} {o6 : Option Value} (hs : Sh w) (hx3 : bd x3) (hx4 : bd x4) (ho6 : pc2 o6 = false) (h : (x4 < 0 → Q (.inl (some (iv (gI w 169 8)))) w) ∧ (0 ≤ x4 → ((lCmp ((lShr y1 (8 * x4)) &&& ((255 : Int64))) ((0 : Int64))) ≠ 0 → (0 ≤ (gI w 169 8) ∧ (gI w 169 8) < 700) ∧ (vp_nar .byte (Int32.ofInt (i2B (l2I ((lShr y1 (8 * x4)) &&& ((255 : Int64)))))) = Int32.ofInt (i2B (l2I ((lShr y1 (8 * x4)) &&& ((255 : Int64)))))) ∧ ∀ w3 : PW, w3 = sI w 175 (gI w 169 8).toNat (i2B (l2I ((lShr y1 (8 * x4)) &&& ((255 : Int64))))) → ∀ w4 : PW, w4 = sI w3 169 8 ((gI w3 169 8) + 1) → pX 218 66 [some (.ref 169), some (.long y1), none, some (iv x3), some (iv (x4 + (-1))), some (.long ((lShr y1 (8 * x4)) &&& ((255 : Int64)))), none] [] w4 Q) ∧ ((lCmp ((lShr y1 (8 * x4)) &&& ((255 : Int64))) ((0 : Int64))) = 0 → pX 218 66 [some (.ref 169), some (.long y1), none, some (iv x3), some (iv (x4 + (-1))), some (.long ((lShr y1 (8 * x4)) &&& ((255 : Int64)))), none] [] w Q))) : pX 218 66 [some (.ref 169), some (.long y1), none, some (iv x3), some (iv x4), o5, o6] [] w Q :=
  w_f b218 d218_66 rfl rfl rfl <| w_iflt b218 d218_68 rfl rfl (p218 _ _) hx4 (fun c1 => w_f b218 d218_123 rfl rfl rfl <| w_gi b218 d218_124 rfl rfl hs (tlt 169 rfl) tbC_169 rfl <| w_ri b218 d218_127 r218 (h.1 c1)) (fun c1 => w_f b218 d218_71 rfl rfl rfl <| w_f b218 d218_72 rfl rfl rfl <| w_f b218 d218_74 rfl rfl rfl <| w_f b218 d218_76 rfl (pf_imul 8 x4) rfl <| w_f b218 d218_77 rfl rfl rfl <| w_ldcL b218 d218_78 rfl rfl <| w_f b218 d218_81 rfl rfl rfl <| w_f b218 d218_82 rfl rfl rfl <| w_f b218 d218_84 rfl rfl rfl <| w_f b218 d218_86 rfl rfl rfl <| w_f b218 d218_87 rfl (pf_lcmp _ _) rfl <| w_ifne b218 d218_88 rfl rfl (p218 _ _) (bd_toInt _) (fun c2 => w_f b218 d218_94 rfl rfl rfl <| w_gr b218 d218_95 rfl rfl hs (tlt 169 rfl) tbC_169 rfl (by decide) <| w_f b218 d218_98 rfl rfl rfl <| w_gi b218 d218_99 rfl rfl hs (tlt 169 rfl) tbC_169 rfl <| w_f b218 d218_102 rfl rfl rfl <| w_f b218 d218_104 rfl (pf_l2i _) rfl <| w_f b218 d218_105 rfl (pf_i2b _) rfl <| w_bas b218 d218_106 rfl hs (tlt 175 rfl) tbC_175 (Or.inr ⟨rfl, ((h.2 c1).1 c2).2.1⟩) (bdix (n := 700) ((h.2 c1).1 c2).1 rfl) ((h.2 c1).1 c2).1 <| w_f b218 d218_107 rfl rfl rfl <| w_f b218 d218_108 rfl rfl rfl <| w_gi b218 d218_109 rfl rfl (Sh_sI hs (slt_a tbC_175)) (tlt 169 rfl) tbC_169 rfl <| w_f b218 d218_112 rfl rfl rfl <| w_f b218 d218_113 rfl (pf_iadd _ 1) rfl <| w_pi b218 d218_114 rfl rfl (Sh_sI hs (slt_a tbC_175)) (tlt 169 rfl) tbC_169 rfl rfl rfl <| w_f b218 d218_117 rfl (pf_iinc rfl rfl) rfl <| w_j b218 d218_120 rfl (p218 _ _) <| ((((h.2 c1).1 c2).2.2 _ rfl) _ rfl)) (fun c2 => w_j b218 d218_91 rfl (p218 _ _) <| w_f b218 d218_117 rfl (pf_iinc rfl rfl) rfl <| w_j b218 d218_120 rfl (p218 _ _) <| ((h.2 c1).2 c2)))
/-! 220: PinBarrelModel.nextByte()I -/
theorem b220 : mB 220 = cX9_nextByte := rfl
theorem r220 : mR 220 = (some .int) := rfl
theorem p220 (a b : Nat) : phi 220 a ≤ phi 220 b := Nat.le_refl 0
theorem d220_0 : decode cX9_nextByte 0 = .ok (.aload_n 0, 1) := by decide +kernel
theorem d220_1 : decode cX9_nextByte 1 = .ok (.getfield 67, 3) := by decide +kernel
theorem d220_4 : decode cX9_nextByte 4 = .ok (.aload_n 0, 1) := by decide +kernel
theorem d220_5 : decode cX9_nextByte 5 = .ok (.getfield 58, 3) := by decide +kernel
theorem d220_8 : decode cX9_nextByte 8 = .ok (.if_icmp .ge 30, 3) := by decide +kernel
theorem d220_11 : decode cX9_nextByte 11 = .ok (.aload_n 0, 1) := by decide +kernel
theorem d220_12 : decode cX9_nextByte 12 = .ok (.getfield 26, 3) := by decide +kernel
theorem d220_15 : decode cX9_nextByte 15 = .ok (.aload_n 0, 1) := by decide +kernel
theorem d220_16 : decode cX9_nextByte 16 = .ok (.getfield 67, 3) := by decide +kernel
theorem d220_19 : decode cX9_nextByte 19 = .ok (.baload, 1) := by decide +kernel
theorem d220_20 : decode cX9_nextByte 20 = .ok (.bipush 32, 2) := by decide +kernel
theorem d220_22 : decode cX9_nextByte 22 = .ok (.if_icmp .ne 16, 3) := by decide +kernel
theorem d220_25 : decode cX9_nextByte 25 = .ok (.aload_n 0, 1) := by decide +kernel
theorem d220_26 : decode cX9_nextByte 26 = .ok (.dup, 1) := by decide +kernel
theorem d220_27 : decode cX9_nextByte 27 = .ok (.getfield 67, 3) := by decide +kernel
theorem d220_30 : decode cX9_nextByte 30 = .ok (.iconst 1, 1) := by decide +kernel
theorem d220_31 : decode cX9_nextByte 31 = .ok (.iadd, 1) := by decide +kernel
theorem d220_32 : decode cX9_nextByte 32 = .ok (.putfield 67, 3) := by decide +kernel
theorem d220_35 : decode cX9_nextByte 35 = .ok (.goto (-35), 3) := by decide +kernel
theorem d220_38 : decode cX9_nextByte 38 = .ok (.aload_n 0, 1) := by decide +kernel
theorem d220_39 : decode cX9_nextByte 39 = .ok (.aload_n 0, 1) := by decide +kernel
theorem d220_40 : decode cX9_nextByte 40 = .ok (.getfield 67, 3) := by decide +kernel
theorem d220_43 : decode cX9_nextByte 43 = .ok (.putfield 70, 3) := by decide +kernel
theorem d220_46 : decode cX9_nextByte 46 = .ok (.aload_n 0, 1) := by decide +kernel
theorem d220_47 : decode cX9_nextByte 47 = .ok (.getfield 67, 3) := by decide +kernel
theorem d220_50 : decode cX9_nextByte 50 = .ok (.aload_n 0, 1) := by decide +kernel
theorem d220_51 : decode cX9_nextByte 51 = .ok (.getfield 58, 3) := by decide +kernel
theorem d220_54 : decode cX9_nextByte 54 = .ok (.if_icmp .ge 19, 3) := by decide +kernel
theorem d220_57 : decode cX9_nextByte 57 = .ok (.aload_n 0, 1) := by decide +kernel
theorem d220_58 : decode cX9_nextByte 58 = .ok (.getfield 26, 3) := by decide +kernel
theorem d220_61 : decode cX9_nextByte 61 = .ok (.aload_n 0, 1) := by decide +kernel
theorem d220_62 : decode cX9_nextByte 62 = .ok (.getfield 67, 3) := by decide +kernel
theorem d220_65 : decode cX9_nextByte 65 = .ok (.baload, 1) := by decide +kernel
theorem d220_66 : decode cX9_nextByte 66 = .ok (.sipush 255, 3) := by decide +kernel
theorem d220_69 : decode cX9_nextByte 69 = .ok (.iand, 1) := by decide +kernel
theorem d220_70 : decode cX9_nextByte 70 = .ok (.goto 4, 3) := by decide +kernel
theorem d220_73 : decode cX9_nextByte 73 = .ok (.iconst (-1), 1) := by decide +kernel
theorem d220_74 : decode cX9_nextByte 74 = .ok (.ireturn, 1) := by decide +kernel
theorem v220_0 {w : PW} {Q : PO → PW → Prop}  (hs : Sh w)  (h : ((gI w 169 8) ≤ (gI w 169 9) → ∀ w2 : PW, w2 = sI w 169 10 (gI w 169 9) → ((gI w2 169 8) ≤ (gI w2 169 9) → Q (.inl (some (iv ((-1))))) w2) ∧ ((gI w2 169 9) < (gI w2 169 8) → (0 ≤ (gI w2 169 9) ∧ (gI w2 169 9) < 700) ∧ Q (.inl (some (iv (iAnd (gI w2 175 (gI w2 169 9).toNat) 255)))) w2)) ∧ ((gI w 169 9) < (gI w 169 8) → (0 ≤ (gI w 169 9) ∧ (gI w 169 9) < 700) ∧ ((gI w 175 (gI w 169 9).toNat) ≠ 32 → ∀ w5 : PW, w5 = sI w 169 10 (gI w 169 9) → ((gI w5 169 8) ≤ (gI w5 169 9) → Q (.inl (some (iv ((-1))))) w5) ∧ ((gI w5 169 9) < (gI w5 169 8) → (0 ≤ (gI w5 169 9) ∧ (gI w5 169 9) < 700) ∧ Q (.inl (some (iv (iAnd (gI w5 175 (gI w5 169 9).toNat) 255)))) w5)) ∧ ((gI w 175 (gI w 169 9).toNat) = 32 → ∀ w7 : PW, w7 = sI w 169 9 ((gI w 169 9) + 1) → pX 220 0 [some (.ref 169)] [] w7 Q))) : pX 220 0 [some (.ref 169)] [] w Q :=
  w_f b220 d220_0 rfl rfl rfl <| w_gi b220 d220_1 rfl rfl hs (tlt 169 rfl) tbC_169 rfl <| w_f b220 d220_4 rfl rfl rfl <| w_gi b220 d220_5 rfl rfl hs (tlt 169 rfl) tbC_169 rfl <| w_icge b220 d220_8 rfl rfl (p220 _ _) (bd_gI _ _ _) (bd_gI _ _ _) (fun c1 => w_f b220 d220_38 rfl rfl rfl <| w_f b220 d220_39 rfl rfl rfl <| w_gi b220 d220_40 rfl rfl hs (tlt 169 rfl) tbC_169 rfl <| w_pi b220 d220_43 rfl rfl hs (tlt 169 rfl) tbC_169 rfl rfl rfl <| w_f b220 d220_46 rfl rfl rfl <| w_gi b220 d220_47 rfl rfl (Sh_sI hs (slt_o tbC_169 rfl)) (tlt 169 rfl) tbC_169 rfl <| w_f b220 d220_50 rfl rfl rfl <| w_gi b220 d220_51 rfl rfl (Sh_sI hs (slt_o tbC_169 rfl)) (tlt 169 rfl) tbC_169 rfl <| w_icge b220 d220_54 rfl rfl (p220 _ _) (bd_gI _ _ _) (bd_gI _ _ _) (fun c3 => w_f b220 d220_73 rfl rfl rfl <| w_ri b220 d220_74 r220 (((h.1 c1) _ rfl).1 c3)) (fun c3 => w_f b220 d220_57 rfl rfl rfl <| w_gr b220 d220_58 rfl rfl (Sh_sI hs (slt_o tbC_169 rfl)) (tlt 169 rfl) tbC_169 rfl (by decide) <| w_f b220 d220_61 rfl rfl rfl <| w_gi b220 d220_62 rfl rfl (Sh_sI hs (slt_o tbC_169 rfl)) (tlt 169 rfl) tbC_169 rfl <| w_bal b220 d220_65 rfl (Sh_sI hs (slt_o tbC_169 rfl)) (tlt 175 rfl) tbC_175 (by decide) (bdix (n := 700) (((h.1 c1) _ rfl).2 c3).1 rfl) (((h.1 c1) _ rfl).2 c3).1 <| w_f b220 d220_66 rfl rfl rfl <| w_f b220 d220_69 rfl (pf_iand _ 255) rfl <| w_j b220 d220_70 rfl (p220 _ _) <| w_ri b220 d220_74 r220 (((h.1 c1) _ rfl).2 c3).2)) (fun c1 => w_f b220 d220_11 rfl rfl rfl <| w_gr b220 d220_12 rfl rfl hs (tlt 169 rfl) tbC_169 rfl (by decide) <| w_f b220 d220_15 rfl rfl rfl <| w_gi b220 d220_16 rfl rfl hs (tlt 169 rfl) tbC_169 rfl <| w_bal b220 d220_19 rfl hs (tlt 175 rfl) tbC_175 (by decide) (bdix (n := 700) (h.2 c1).1 rfl) (h.2 c1).1 <| w_f b220 d220_20 rfl rfl rfl <| w_icne b220 d220_22 rfl rfl (p220 _ _) (bd_gI _ _ _) ⟨by decide, by decide⟩ (fun c4 => w_f b220 d220_38 rfl rfl rfl <| w_f b220 d220_39 rfl rfl rfl <| w_gi b220 d220_40 rfl rfl hs (tlt 169 rfl) tbC_169 rfl <| w_pi b220 d220_43 rfl rfl hs (tlt 169 rfl) tbC_169 rfl rfl rfl <| w_f b220 d220_46 rfl rfl rfl <| w_gi b220 d220_47 rfl rfl (Sh_sI hs (slt_o tbC_169 rfl)) (tlt 169 rfl) tbC_169 rfl <| w_f b220 d220_50 rfl rfl rfl <| w_gi b220 d220_51 rfl rfl (Sh_sI hs (slt_o tbC_169 rfl)) (tlt 169 rfl) tbC_169 rfl <| w_icge b220 d220_54 rfl rfl (p220 _ _) (bd_gI _ _ _) (bd_gI _ _ _) (fun c6 => w_f b220 d220_73 rfl rfl rfl <| w_ri b220 d220_74 r220 ((((h.2 c1).2.1 c4) _ rfl).1 c6)) (fun c6 => w_f b220 d220_57 rfl rfl rfl <| w_gr b220 d220_58 rfl rfl (Sh_sI hs (slt_o tbC_169 rfl)) (tlt 169 rfl) tbC_169 rfl (by decide) <| w_f b220 d220_61 rfl rfl rfl <| w_gi b220 d220_62 rfl rfl (Sh_sI hs (slt_o tbC_169 rfl)) (tlt 169 rfl) tbC_169 rfl <| w_bal b220 d220_65 rfl (Sh_sI hs (slt_o tbC_169 rfl)) (tlt 175 rfl) tbC_175 (by decide) (bdix (n := 700) ((((h.2 c1).2.1 c4) _ rfl).2 c6).1 rfl) ((((h.2 c1).2.1 c4) _ rfl).2 c6).1 <| w_f b220 d220_66 rfl rfl rfl <| w_f b220 d220_69 rfl (pf_iand _ 255) rfl <| w_j b220 d220_70 rfl (p220 _ _) <| w_ri b220 d220_74 r220 ((((h.2 c1).2.1 c4) _ rfl).2 c6).2)) (fun c4 => w_f b220 d220_25 rfl rfl rfl <| w_f b220 d220_26 rfl rfl rfl <| w_gi b220 d220_27 rfl rfl hs (tlt 169 rfl) tbC_169 rfl <| w_f b220 d220_30 rfl rfl rfl <| w_f b220 d220_31 rfl (pf_iadd (gI w 169 9) 1) rfl <| w_pi b220 d220_32 rfl rfl hs (tlt 169 rfl) tbC_169 rfl rfl rfl <| w_j b220 d220_35 rfl (p220 _ _) <| (((h.2 c1).2.2 c4) _ rfl)))
theorem e220 {w : PW} {Q : PO → PW → Prop}  (hs : Sh w)  (h : ((gI w 169 8) ≤ (gI w 169 9) → ∀ w2 : PW, w2 = sI w 169 10 (gI w 169 9) → ((gI w2 169 8) ≤ (gI w2 169 9) → Q (.inl (some (iv ((-1))))) w2) ∧ ((gI w2 169 9) < (gI w2 169 8) → (0 ≤ (gI w2 169 9) ∧ (gI w2 169 9) < 700) ∧ Q (.inl (some (iv (iAnd (gI w2 175 (gI w2 169 9).toNat) 255)))) w2)) ∧ ((gI w 169 9) < (gI w 169 8) → (0 ≤ (gI w 169 9) ∧ (gI w 169 9) < 700) ∧ ((gI w 175 (gI w 169 9).toNat) ≠ 32 → ∀ w5 : PW, w5 = sI w 169 10 (gI w 169 9) → ((gI w5 169 8) ≤ (gI w5 169 9) → Q (.inl (some (iv ((-1))))) w5) ∧ ((gI w5 169 9) < (gI w5 169 8) → (0 ≤ (gI w5 169 9) ∧ (gI w5 169 9) < 700) ∧ Q (.inl (some (iv (iAnd (gI w5 175 (gI w5 169 9).toNat) 255)))) w5)) ∧ ((gI w 175 (gI w 169 9).toNat) = 32 → ∀ w7 : PW, w7 = sI w 169 9 ((gI w 169 9) + 1) → pX 220 0 [some (.ref 169)] [] w7 Q))) : pC 220 [.ref 169] w Q :=
  (pC_in (Nat.le_of_ble_eq_true rfl) rfl Q).mpr (v220_0 hs  h)
/-! 223: PinBarrelModel.takes(Ljava/lang/String;)Z -/
theorem b223 : mB 223 = cX9_takes := rfl
theorem r223 : mR 223 = (some .boolean) := rfl
theorem p223 (a b : Nat) : phi 223 a ≤ phi 223 b := Nat.le_refl 0
theorem d223_0 : decode cX9_takes 0 = .ok (.aload_n 0, 1) := by decide +kernel
theorem d223_1 : decode cX9_takes 1 = .ok (.invokevirtual 73, 3) := by decide +kernel
theorem d223_4 : decode cX9_takes 4 = .ok (.i2l, 1) := by decide +kernel
theorem d223_5 : decode cX9_takes 5 = .ok (.ldc2_w 100, 3) := by decide +kernel
theorem d223_8 : decode cX9_takes 8 = .ok (.ldc2_w 102, 3) := by decide +kernel
theorem d223_11 : decode cX9_takes 11 = .ok (.invokestatic 81, 3) := by decide +kernel
theorem d223_14 : decode cX9_takes 14 = .ok (.ifCond .ne 5, 3) := by decide +kernel
theorem d223_17 : decode cX9_takes 17 = .ok (.iconst 0, 1) := by decide +kernel
theorem d223_18 : decode cX9_takes 18 = .ok (.ireturn, 1) := by decide +kernel
theorem d223_19 : decode cX9_takes 19 = .ok (.aload_n 0, 1) := by decide +kernel
theorem d223_20 : decode cX9_takes 20 = .ok (.getfield 70, 3) := by decide +kernel
theorem d223_23 : decode cX9_takes 23 = .ok (.istore_n 2, 1) := by decide +kernel
theorem d223_24 : decode cX9_takes 24 = .ok (.aload_n 0, 1) := by decide +kernel
theorem d223_25 : decode cX9_takes 25 = .ok (.iload_n 2, 1) := by decide +kernel
theorem d223_26 : decode cX9_takes 26 = .ok (.bipush 97, 2) := by decide +kernel
theorem d223_28 : decode cX9_takes 28 = .ok (.bipush 122, 2) := by decide +kernel
theorem d223_30 : decode cX9_takes 30 = .ok (.invokevirtual 89, 3) := by decide +kernel
theorem d223_33 : decode cX9_takes 33 = .ok (.ifCond .eq 9, 3) := by decide +kernel
theorem d223_36 : decode cX9_takes 36 = .ok (.iinc 2 1, 3) := by decide +kernel
theorem d223_39 : decode cX9_takes 39 = .ok (.goto (-15), 3) := by decide +kernel
theorem d223_42 : decode cX9_takes 42 = .ok (.iload_n 2, 1) := by decide +kernel
theorem d223_43 : decode cX9_takes 43 = .ok (.aload_n 0, 1) := by decide +kernel
theorem d223_44 : decode cX9_takes 44 = .ok (.getfield 70, 3) := by decide +kernel
theorem d223_47 : decode cX9_takes 47 = .ok (.isub, 1) := by decide +kernel
theorem d223_48 : decode cX9_takes 48 = .ok (.aload_n 1, 1) := by decide +kernel
theorem d223_49 : decode cX9_takes 49 = .ok (.invokevirtual 104, 3) := by decide +kernel
theorem d223_52 : decode cX9_takes 52 = .ok (.if_icmp .eq 5, 3) := by decide +kernel
theorem d223_55 : decode cX9_takes 55 = .ok (.iconst 0, 1) := by decide +kernel
theorem d223_56 : decode cX9_takes 56 = .ok (.ireturn, 1) := by decide +kernel
theorem d223_57 : decode cX9_takes 57 = .ok (.iconst 0, 1) := by decide +kernel
theorem d223_58 : decode cX9_takes 58 = .ok (.istore_n 3, 1) := by decide +kernel
theorem d223_59 : decode cX9_takes 59 = .ok (.iload_n 3, 1) := by decide +kernel
theorem d223_60 : decode cX9_takes 60 = .ok (.aload_n 1, 1) := by decide +kernel
theorem d223_61 : decode cX9_takes 61 = .ok (.invokevirtual 104, 3) := by decide +kernel
theorem d223_64 : decode cX9_takes 64 = .ok (.if_icmp .ge 30, 3) := by decide +kernel
theorem d223_67 : decode cX9_takes 67 = .ok (.aload_n 0, 1) := by decide +kernel
theorem d223_68 : decode cX9_takes 68 = .ok (.getfield 26, 3) := by decide +kernel
theorem d223_71 : decode cX9_takes 71 = .ok (.aload_n 0, 1) := by decide +kernel
theorem d223_72 : decode cX9_takes 72 = .ok (.getfield 70, 3) := by decide +kernel
theorem d223_75 : decode cX9_takes 75 = .ok (.iload_n 3, 1) := by decide +kernel
theorem d223_76 : decode cX9_takes 76 = .ok (.iadd, 1) := by decide +kernel
theorem d223_77 : decode cX9_takes 77 = .ok (.baload, 1) := by decide +kernel
theorem d223_78 : decode cX9_takes 78 = .ok (.aload_n 1, 1) := by decide +kernel
theorem d223_79 : decode cX9_takes 79 = .ok (.iload_n 3, 1) := by decide +kernel
theorem d223_80 : decode cX9_takes 80 = .ok (.invokevirtual 108, 3) := by decide +kernel
theorem d223_83 : decode cX9_takes 83 = .ok (.if_icmp .eq 5, 3) := by decide +kernel
theorem d223_86 : decode cX9_takes 86 = .ok (.iconst 0, 1) := by decide +kernel
theorem d223_87 : decode cX9_takes 87 = .ok (.ireturn, 1) := by decide +kernel
theorem d223_88 : decode cX9_takes 88 = .ok (.iinc 3 1, 3) := by decide +kernel
theorem d223_91 : decode cX9_takes 91 = .ok (.goto (-32), 3) := by decide +kernel
theorem d223_94 : decode cX9_takes 94 = .ok (.aload_n 0, 1) := by decide +kernel
theorem d223_95 : decode cX9_takes 95 = .ok (.iload_n 2, 1) := by decide +kernel
theorem d223_96 : decode cX9_takes 96 = .ok (.putfield 67, 3) := by decide +kernel
theorem d223_99 : decode cX9_takes 99 = .ok (.iconst 1, 1) := by decide +kernel
theorem d223_100 : decode cX9_takes 100 = .ok (.ireturn, 1) := by decide +kernel
theorem v223_0 {w : PW} {Q : PO → PW → Prop} {r1 : Nat} (hs : Sh w) (hr1 : r1 < 38) (h : pC 220 [.ref 169] w (kI fun u2 w1 => Sh w1 ∧ ((((97 : Int64)).toInt ≤ (i2L u2).toInt ∧ (i2L u2).toInt ≤ ((122 : Int64)).toInt) → pX 223 24 [some (.ref 169), some (.ref (pSB + r1)), some (iv (gI w1 169 10)), none] [] w1 Q) ∧ ((¬ (((97 : Int64)).toInt ≤ (i2L u2).toInt ∧ (i2L u2).toInt ≤ ((122 : Int64)).toInt)) → Q (.inl (some (iv 0))) w1))) : pX 223 0 [some (.ref 169), some (.ref (pSB + r1)), none, none] [] w Q :=
  w_f b223 d223_0 rfl rfl rfl <| w_c b223 d223_1 rfl (pcl_v (n := 0) rfl rfl rfl (by decide +kernel) (sh_isOb hs (tlt 169 rfl) tbC_169) rfl rfl) rfl _ (hK_I fun u2 w1 hbu2 hkw1 => w_f b223 d223_4 rfl rfl rfl <| w_ldcL b223 d223_5 rfl rfl <| w_ldcL b223 d223_8 rfl rfl <| w_cc b223 d223_11 rfl (pcl_s1 (n := 3) rfl rfl rfl (by decide +kernel) rfl rfl) rfl <| c221 hkw1.1 <| w_ifneZ b223 d223_14 rfl rfl (p223 _ _) (fun c3 => w_f b223 d223_19 rfl rfl rfl <| w_gi b223 d223_20 rfl rfl hkw1.1 (tlt 169 rfl) tbC_169 rfl <| w_f b223 d223_23 rfl rfl rfl <| (hkw1.2.1 c3)) (fun c3 => w_f b223 d223_17 rfl rfl rfl <| w_rz b223 d223_18 r223 (by decide) (hkw1.2.2 c3))) h
theorem e223 {w : PW} {Q : PO → PW → Prop} {r1 : Nat} (hs : Sh w) (hr1 : r1 < 38) (h : pC 220 [.ref 169] w (kI fun u2 w1 => Sh w1 ∧ ((((97 : Int64)).toInt ≤ (i2L u2).toInt ∧ (i2L u2).toInt ≤ ((122 : Int64)).toInt) → pX 223 24 [some (.ref 169), some (.ref (pSB + r1)), some (iv (gI w1 169 10)), none] [] w1 Q) ∧ ((¬ (((97 : Int64)).toInt ≤ (i2L u2).toInt ∧ (i2L u2).toInt ≤ ((122 : Int64)).toInt)) → Q (.inl (some (iv 0))) w1))) : pC 223 [.ref 169, .ref (pSB + r1)] w Q :=
  (pC_in (Nat.le_of_ble_eq_true rfl) rfl Q).mpr (v223_0 hs hr1 h)
theorem v223_24 {w : PW} {Q : PO → PW → Prop} {r1 : Nat} {x2 : Int} {o3 : Option Value} (hs : Sh w) (hr1 : r1 < 38) (hx2 : bd x2) (ho3 : pc2 o3 = false) (h : (0 ≤ x2) ∧ (gI w 169 8 ≤ 700) ∧ ((¬ (x2 < gI w 169 8 ∧ 97 ≤ gI w 175 (x2).toNat ∧ gI w 175 (x2).toNat ≤ 122)) → (bd (x2 - (gI w 169 10))) ∧ ((x2 - (gI w 169 10)) = (((sTx.getD r1 []).length : Int)) → pX 223 59 [some (.ref 169), some (.ref (pSB + r1)), some (iv x2), some (iv 0)] [] w Q) ∧ ((x2 - (gI w 169 10)) ≠ (((sTx.getD r1 []).length : Int)) → Q (.inl (some (iv 0))) w)) ∧ ((x2 < gI w 169 8 ∧ 97 ≤ gI w 175 (x2).toNat ∧ gI w 175 (x2).toNat ≤ 122) → pX 223 24 [some (.ref 169), some (.ref (pSB + r1)), some (iv (x2 + 1)), o3] [] w Q)) : pX 223 24 [some (.ref 169), some (.ref (pSB + r1)), some (iv x2), o3] [] w Q :=
  w_f b223 d223_24 rfl rfl rfl <| w_f b223 d223_25 rfl rfl rfl <| w_f b223 d223_26 rfl rfl rfl <| w_f b223 d223_28 rfl rfl rfl <| w_cc b223 d223_30 rfl (pcl_v (n := 3) rfl rfl rfl (by decide +kernel) (sh_isOb hs (tlt 169 rfl) tbC_169) rfl rfl) rfl <| c222 hs hx2 ⟨by decide, by decide⟩ ⟨by decide, by decide⟩ h.1 h.2.1 <| w_ifeqZ b223 d223_33 rfl rfl (p223 _ _) (fun c1 => w_f b223 d223_42 rfl rfl rfl <| w_f b223 d223_43 rfl rfl rfl <| w_gi b223 d223_44 rfl rfl hs (tlt 169 rfl) tbC_169 rfl <| w_f b223 d223_47 rfl (pf_isub x2 (gI w 169 10)) rfl <| w_f b223 d223_48 rfl rfl rfl <| w_slen b223 d223_49 rfl rfl hr1 rfl <| w_iceq b223 d223_52 rfl rfl (p223 _ _) (h.2.2.1 c1).1 (bd_sl hr1) (fun c2 => w_f b223 d223_57 rfl rfl rfl <| w_f b223 d223_58 rfl rfl rfl <| ((h.2.2.1 c1).2.1 c2)) (fun c2 => w_f b223 d223_55 rfl rfl rfl <| w_rz b223 d223_56 r223 (by decide) ((h.2.2.1 c1).2.2 c2))) (fun c1 => w_f b223 d223_36 rfl (pf_iinc rfl rfl) rfl <| w_j b223 d223_39 rfl (p223 _ _) <| (h.2.2.2 c1))
theorem v223_59 {w : PW} {Q : PO → PW → Prop} {r1 : Nat} {x2 : Int} {x3 : Int} (hs : Sh w) (hr1 : r1 < 38) (hx2 : bd x2) (hx3 : bd x3) (h : ((((sTx.getD r1 []).length : Int)) ≤ x3 → ∀ w2 : PW, w2 = sI w 169 9 x2 → Q (.inl (some (iv 1))) w2) ∧ (x3 < (((sTx.getD r1 []).length : Int)) → (0 ≤ ((gI w 169 10) + x3) ∧ ((gI w 169 10) + x3) < 700) ∧ (0 ≤ x3 ∧ x3 < (sTx.getD r1 []).length) ∧ ((gI w 175 ((gI w 169 10) + x3).toNat) = (((sTx.getD r1 []).getD x3.toNat 0 : Int)) → pX 223 59 [some (.ref 169), some (.ref (pSB + r1)), some (iv x2), some (iv (x3 + 1))] [] w Q) ∧ ((gI w 175 ((gI w 169 10) + x3).toNat) ≠ (((sTx.getD r1 []).getD x3.toNat 0 : Int)) → Q (.inl (some (iv 0))) w))) : pX 223 59 [some (.ref 169), some (.ref (pSB + r1)), some (iv x2), some (iv x3)] [] w Q :=
  w_f b223 d223_59 rfl rfl rfl <| w_f b223 d223_60 rfl rfl rfl <| w_slen b223 d223_61 rfl rfl hr1 rfl <| w_icge b223 d223_64 rfl rfl (p223 _ _) hx3 (bd_sl hr1) (fun c1 => w_f b223 d223_94 rfl rfl rfl <| w_f b223 d223_95 rfl rfl rfl <| w_pi b223 d223_96 rfl rfl hs (tlt 169 rfl) tbC_169 rfl rfl rfl <| w_f b223 d223_99 rfl rfl rfl <| w_rz b223 d223_100 r223 (by decide) ((h.1 c1) _ rfl)) (fun c1 => w_f b223 d223_67 rfl rfl rfl <| w_gr b223 d223_68 rfl rfl hs (tlt 169 rfl) tbC_169 rfl (by decide) <| w_f b223 d223_71 rfl rfl rfl <| w_gi b223 d223_72 rfl rfl hs (tlt 169 rfl) tbC_169 rfl <| w_f b223 d223_75 rfl rfl rfl <| w_f b223 d223_76 rfl (pf_iadd (gI w 169 10) x3) rfl <| w_bal b223 d223_77 rfl hs (tlt 175 rfl) tbC_175 (by decide) (bdix (n := 700) (h.2 c1).1 rfl) (h.2 c1).1 <| w_f b223 d223_78 rfl rfl rfl <| w_f b223 d223_79 rfl rfl rfl <| w_chat b223 d223_80 rfl rfl hr1 rfl hx3 (h.2 c1).2.1 <| w_iceq b223 d223_83 rfl rfl (p223 _ _) (bd_gI _ _ _) (bd_sc hr1 (h.2 c1).2.1) (fun c3 => w_f b223 d223_88 rfl (pf_iinc rfl rfl) rfl <| w_j b223 d223_91 rfl (p223 _ _) <| ((h.2 c1).2.2.1 c3)) (fun c3 => w_f b223 d223_86 rfl rfl rfl <| w_rz b223 d223_87 r223 (by decide) ((h.2 c1).2.2.2 c3)))
/-! 225: PinBarrelModel.reads(II)Z -/
theorem b225 : mB 225 = cX9_reads := rfl
theorem r225 : mR 225 = (some .boolean) := rfl
theorem p225 (a b : Nat) : phi 225 a ≤ phi 225 b := Nat.le_refl 0
theorem d225_0 : decode cX9_reads 0 = .ok (.aload_n 0, 1) := by decide +kernel
theorem d225_1 : decode cX9_reads 1 = .ok (.invokevirtual 73, 3) := by decide +kernel
theorem d225_4 : decode cX9_reads 4 = .ok (.i2l, 1) := by decide +kernel
theorem d225_5 : decode cX9_reads 5 = .ok (.ldc2_w 77, 3) := by decide +kernel
theorem d225_8 : decode cX9_reads 8 = .ok (.ldc2_w 79, 3) := by decide +kernel
theorem d225_11 : decode cX9_reads 11 = .ok (.invokestatic 81, 3) := by decide +kernel
theorem d225_14 : decode cX9_reads 14 = .ok (.ifCond .ne 13, 3) := by decide +kernel
theorem d225_17 : decode cX9_reads 17 = .ok (.aload_n 0, 1) := by decide +kernel
theorem d225_18 : decode cX9_reads 18 = .ok (.iconst 1, 1) := by decide +kernel
theorem d225_19 : decode cX9_reads 19 = .ok (.aload_n 0, 1) := by decide +kernel
theorem d225_20 : decode cX9_reads 20 = .ok (.getfield 70, 3) := by decide +kernel
theorem d225_23 : decode cX9_reads 23 = .ok (.invokevirtual 85, 3) := by decide +kernel
theorem d225_26 : decode cX9_reads 26 = .ok (.ireturn, 1) := by decide +kernel
theorem d225_27 : decode cX9_reads 27 = .ok (.lconst 0, 1) := by decide +kernel
theorem d225_28 : decode cX9_reads 28 = .ok (.lstore_n 3, 1) := by decide +kernel
theorem d225_29 : decode cX9_reads 29 = .ok (.aload_n 0, 1) := by decide +kernel
theorem d225_30 : decode cX9_reads 30 = .ok (.aload_n 0, 1) := by decide +kernel
theorem d225_31 : decode cX9_reads 31 = .ok (.getfield 67, 3) := by decide +kernel
theorem d225_34 : decode cX9_reads 34 = .ok (.bipush 48, 2) := by decide +kernel
theorem d225_36 : decode cX9_reads 36 = .ok (.bipush 57, 2) := by decide +kernel
theorem d225_38 : decode cX9_reads 38 = .ok (.invokevirtual 89, 3) := by decide +kernel
theorem d225_41 : decode cX9_reads 41 = .ok (.ifCond .eq 49, 3) := by decide +kernel
theorem d225_44 : decode cX9_reads 44 = .ok (.lload_n 3, 1) := by decide +kernel
theorem d225_45 : decode cX9_reads 45 = .ok (.ldc2_w 93, 3) := by decide +kernel
theorem d225_48 : decode cX9_reads 48 = .ok (.lcmp, 1) := by decide +kernel
theorem d225_49 : decode cX9_reads 49 = .ok (.ifCond .le 7, 3) := by decide +kernel
theorem d225_52 : decode cX9_reads 52 = .ok (.lload_n 3, 1) := by decide +kernel
theorem d225_53 : decode cX9_reads 53 = .ok (.goto 23, 3) := by decide +kernel
theorem d225_56 : decode cX9_reads 56 = .ok (.ldc2_w 95, 3) := by decide +kernel
theorem d225_59 : decode cX9_reads 59 = .ok (.lload_n 3, 1) := by decide +kernel
theorem d225_60 : decode cX9_reads 60 = .ok (.lmul, 1) := by decide +kernel
theorem d225_61 : decode cX9_reads 61 = .ok (.aload_n 0, 1) := by decide +kernel
theorem d225_62 : decode cX9_reads 62 = .ok (.getfield 26, 3) := by decide +kernel
theorem d225_65 : decode cX9_reads 65 = .ok (.aload_n 0, 1) := by decide +kernel
theorem d225_66 : decode cX9_reads 66 = .ok (.getfield 67, 3) := by decide +kernel
theorem d225_69 : decode cX9_reads 69 = .ok (.baload, 1) := by decide +kernel
theorem d225_70 : decode cX9_reads 70 = .ok (.i2l, 1) := by decide +kernel
theorem d225_71 : decode cX9_reads 71 = .ok (.ladd, 1) := by decide +kernel
theorem d225_72 : decode cX9_reads 72 = .ok (.ldc2_w 77, 3) := by decide +kernel
theorem d225_75 : decode cX9_reads 75 = .ok (.lsub, 1) := by decide +kernel
theorem d225_76 : decode cX9_reads 76 = .ok (.lstore_n 3, 1) := by decide +kernel
theorem d225_77 : decode cX9_reads 77 = .ok (.aload_n 0, 1) := by decide +kernel
theorem d225_78 : decode cX9_reads 78 = .ok (.dup, 1) := by decide +kernel
theorem d225_79 : decode cX9_reads 79 = .ok (.getfield 67, 3) := by decide +kernel
theorem d225_82 : decode cX9_reads 82 = .ok (.iconst 1, 1) := by decide +kernel
theorem d225_83 : decode cX9_reads 83 = .ok (.iadd, 1) := by decide +kernel
theorem d225_84 : decode cX9_reads 84 = .ok (.putfield 67, 3) := by decide +kernel
theorem d225_87 : decode cX9_reads 87 = .ok (.goto (-58), 3) := by decide +kernel
theorem d225_90 : decode cX9_reads 90 = .ok (.lload_n 3, 1) := by decide +kernel
theorem d225_91 : decode cX9_reads 91 = .ok (.iload_n 1, 1) := by decide +kernel
theorem d225_92 : decode cX9_reads 92 = .ok (.i2l, 1) := by decide +kernel
theorem d225_93 : decode cX9_reads 93 = .ok (.iload_n 2, 1) := by decide +kernel
theorem d225_94 : decode cX9_reads 94 = .ok (.i2l, 1) := by decide +kernel
theorem d225_95 : decode cX9_reads 95 = .ok (.invokestatic 81, 3) := by decide +kernel
theorem d225_98 : decode cX9_reads 98 = .ok (.ifCond .ne 13, 3) := by decide +kernel
theorem d225_101 : decode cX9_reads 101 = .ok (.aload_n 0, 1) := by decide +kernel
theorem d225_102 : decode cX9_reads 102 = .ok (.iconst 2, 1) := by decide +kernel
theorem d225_103 : decode cX9_reads 103 = .ok (.aload_n 0, 1) := by decide +kernel
theorem d225_104 : decode cX9_reads 104 = .ok (.getfield 70, 3) := by decide +kernel
theorem d225_107 : decode cX9_reads 107 = .ok (.invokevirtual 85, 3) := by decide +kernel
theorem d225_110 : decode cX9_reads 110 = .ok (.ireturn, 1) := by decide +kernel
theorem d225_111 : decode cX9_reads 111 = .ok (.aload_n 0, 1) := by decide +kernel
theorem d225_112 : decode cX9_reads 112 = .ok (.lload_n 3, 1) := by decide +kernel
theorem d225_113 : decode cX9_reads 113 = .ok (.l2i, 1) := by decide +kernel
theorem d225_114 : decode cX9_reads 114 = .ok (.putfield 97, 3) := by decide +kernel
theorem d225_117 : decode cX9_reads 117 = .ok (.iconst 1, 1) := by decide +kernel
theorem d225_118 : decode cX9_reads 118 = .ok (.ireturn, 1) := by decide +kernel
theorem v225_0 {w : PW} {Q : PO → PW → Prop} {x1 : Int} {x2 : Int} (hs : Sh w) (hx1 : bd x1) (hx2 : bd x2) (h : pC 220 [.ref 169] w (kI fun u2 w1 => Sh w1 ∧ ((((48 : Int64)).toInt ≤ (i2L u2).toInt ∧ (i2L u2).toInt ≤ ((57 : Int64)).toInt) → pX 225 29 [some (.ref 169), some (iv x1), some (iv x2), some (.long ((0 : Int64))), none] [] w1 Q) ∧ ((¬ (((48 : Int64)).toInt ≤ (i2L u2).toInt ∧ (i2L u2).toInt ≤ ((57 : Int64)).toInt)) → ∀ w4 : PW, w4 = sI (sI w1 169 12 1) 169 13 (gI w1 169 10) → Q (.inl (some (iv 0))) w4))) : pX 225 0 [some (.ref 169), some (iv x1), some (iv x2), none, none] [] w Q :=
  w_f b225 d225_0 rfl rfl rfl <| w_c b225 d225_1 rfl (pcl_v (n := 0) rfl rfl rfl (by decide +kernel) (sh_isOb hs (tlt 169 rfl) tbC_169) rfl rfl) rfl _ (hK_I fun u2 w1 hbu2 hkw1 => w_f b225 d225_4 rfl rfl rfl <| w_ldcL b225 d225_5 rfl rfl <| w_ldcL b225 d225_8 rfl rfl <| w_cc b225 d225_11 rfl (pcl_s1 (n := 3) rfl rfl rfl (by decide +kernel) rfl rfl) rfl <| c221 hkw1.1 <| w_ifneZ b225 d225_14 rfl rfl (p225 _ _) (fun c3 => w_f b225 d225_27 rfl rfl rfl <| w_f b225 d225_28 rfl rfl rfl <| (hkw1.2.1 c3)) (fun c3 => w_f b225 d225_17 rfl rfl rfl <| w_f b225 d225_18 rfl rfl rfl <| w_f b225 d225_19 rfl rfl rfl <| w_gi b225 d225_20 rfl rfl hkw1.1 (tlt 169 rfl) tbC_169 rfl <| w_cc b225 d225_23 rfl (pcl_v (n := 2) rfl rfl rfl (by decide +kernel) (sh_isOb hkw1.1 (tlt 169 rfl) tbC_169) rfl rfl) rfl <| c224 hkw1.1 ⟨by decide, by decide⟩ (bd_gI _ _ _) <| w_rz b225 d225_26 r225 (by decide) ((hkw1.2.2 c3) _ rfl))) h
theorem e225 {w : PW} {Q : PO → PW → Prop} {x1 : Int} {x2 : Int} (hs : Sh w) (hx1 : bd x1) (hx2 : bd x2) (h : pC 220 [.ref 169] w (kI fun u2 w1 => Sh w1 ∧ ((((48 : Int64)).toInt ≤ (i2L u2).toInt ∧ (i2L u2).toInt ≤ ((57 : Int64)).toInt) → pX 225 29 [some (.ref 169), some (iv x1), some (iv x2), some (.long ((0 : Int64))), none] [] w1 Q) ∧ ((¬ (((48 : Int64)).toInt ≤ (i2L u2).toInt ∧ (i2L u2).toInt ≤ ((57 : Int64)).toInt)) → ∀ w4 : PW, w4 = sI (sI w1 169 12 1) 169 13 (gI w1 169 10) → Q (.inl (some (iv 0))) w4))) : pC 225 [.ref 169, iv x1, iv x2] w Q :=
  (pC_in (Nat.le_of_ble_eq_true rfl) rfl Q).mpr (v225_0 hs hx1 hx2 h)
theorem v225_29 {w : PW} {Q : PO → PW → Prop} {x1 : Int} {x2 : Int} {y3 : Int64} (hs : Sh w) (hx1 : bd x1) (hx2 : bd x2) (h : (0 ≤ (gI w 169 9)) ∧ (gI w 169 8 ≤ 700) ∧ ((¬ ((gI w 169 9) < gI w 169 8 ∧ 48 ≤ gI w 175 ((gI w 169 9)).toNat ∧ gI w 175 ((gI w 169 9)).toNat ≤ 57)) → (((i2L x1).toInt ≤ y3.toInt ∧ y3.toInt ≤ (i2L x2).toInt) → ∀ w3 : PW, w3 = sI w 169 11 (l2I y3) → Q (.inl (some (iv 1))) w3) ∧ ((¬ ((i2L x1).toInt ≤ y3.toInt ∧ y3.toInt ≤ (i2L x2).toInt)) → ∀ w4 : PW, w4 = sI (sI w 169 12 2) 169 13 (gI w 169 10) → Q (.inl (some (iv 0))) w4)) ∧ (((gI w 169 9) < gI w 169 8 ∧ 48 ≤ gI w 175 ((gI w 169 9)).toNat ∧ gI w 175 ((gI w 169 9)).toNat ≤ 57) → ((lCmp y3 ((99999999 : Int64))) ≤ 0 → (0 ≤ (gI w 169 9) ∧ (gI w 169 9) < 700) ∧ ∀ w6 : PW, w6 = sI w 169 9 ((gI w 169 9) + 1) → pX 225 29 [some (.ref 169), some (iv x1), some (iv x2), some (.long (((((10 : Int64)) * y3) + (i2L (gI w 175 (gI w 169 9).toNat))) - ((48 : Int64)))), none] [] w6 Q) ∧ (0 < (lCmp y3 ((99999999 : Int64))) → ∀ w7 : PW, w7 = sI w 169 9 ((gI w 169 9) + 1) → pX 225 29 [some (.ref 169), some (iv x1), some (iv x2), some (.long y3), none] [] w7 Q))) : pX 225 29 [some (.ref 169), some (iv x1), some (iv x2), some (.long y3), none] [] w Q :=
  w_f b225 d225_29 rfl rfl rfl <| w_f b225 d225_30 rfl rfl rfl <| w_gi b225 d225_31 rfl rfl hs (tlt 169 rfl) tbC_169 rfl <| w_f b225 d225_34 rfl rfl rfl <| w_f b225 d225_36 rfl rfl rfl <| w_cc b225 d225_38 rfl (pcl_v (n := 3) rfl rfl rfl (by decide +kernel) (sh_isOb hs (tlt 169 rfl) tbC_169) rfl rfl) rfl <| c222 hs (bd_gI _ _ _) ⟨by decide, by decide⟩ ⟨by decide, by decide⟩ h.1 h.2.1 <| w_ifeqZ b225 d225_41 rfl rfl (p225 _ _) (fun c1 => w_f b225 d225_90 rfl rfl rfl <| w_f b225 d225_91 rfl rfl rfl <| w_f b225 d225_92 rfl rfl rfl <| w_f b225 d225_93 rfl rfl rfl <| w_f b225 d225_94 rfl rfl rfl <| w_cc b225 d225_95 rfl (pcl_s1 (n := 3) rfl rfl rfl (by decide +kernel) rfl rfl) rfl <| c221 hs <| w_ifneZ b225 d225_98 rfl rfl (p225 _ _) (fun c2 => w_f b225 d225_111 rfl rfl rfl <| w_f b225 d225_112 rfl rfl rfl <| w_f b225 d225_113 rfl (pf_l2i _) rfl <| w_pi b225 d225_114 rfl rfl hs (tlt 169 rfl) tbC_169 rfl rfl rfl <| w_f b225 d225_117 rfl rfl rfl <| w_rz b225 d225_118 r225 (by decide) (((h.2.2.1 c1).1 c2) _ rfl)) (fun c2 => w_f b225 d225_101 rfl rfl rfl <| w_f b225 d225_102 rfl rfl rfl <| w_f b225 d225_103 rfl rfl rfl <| w_gi b225 d225_104 rfl rfl hs (tlt 169 rfl) tbC_169 rfl <| w_cc b225 d225_107 rfl (pcl_v (n := 2) rfl rfl rfl (by decide +kernel) (sh_isOb hs (tlt 169 rfl) tbC_169) rfl rfl) rfl <| c224 hs ⟨by decide, by decide⟩ (bd_gI _ _ _) <| w_rz b225 d225_110 r225 (by decide) (((h.2.2.1 c1).2 c2) _ rfl))) (fun c1 => w_f b225 d225_44 rfl rfl rfl <| w_ldcL b225 d225_45 rfl rfl <| w_f b225 d225_48 rfl (pf_lcmp _ _) rfl <| w_ifle b225 d225_49 rfl rfl (p225 _ _) (bd_toInt _) (fun c5 => w_ldcL b225 d225_56 rfl rfl <| w_f b225 d225_59 rfl rfl rfl <| w_f b225 d225_60 rfl rfl rfl <| w_f b225 d225_61 rfl rfl rfl <| w_gr b225 d225_62 rfl rfl hs (tlt 169 rfl) tbC_169 rfl (by decide) <| w_f b225 d225_65 rfl rfl rfl <| w_gi b225 d225_66 rfl rfl hs (tlt 169 rfl) tbC_169 rfl <| w_bal b225 d225_69 rfl hs (tlt 175 rfl) tbC_175 (by decide) (bdix (n := 700) ((h.2.2.2 c1).1 c5).1 rfl) ((h.2.2.2 c1).1 c5).1 <| w_f b225 d225_70 rfl rfl rfl <| w_f b225 d225_71 rfl rfl rfl <| w_ldcL b225 d225_72 rfl rfl <| w_f b225 d225_75 rfl rfl rfl <| w_f b225 d225_76 rfl rfl rfl <| w_f b225 d225_77 rfl rfl rfl <| w_f b225 d225_78 rfl rfl rfl <| w_gi b225 d225_79 rfl rfl hs (tlt 169 rfl) tbC_169 rfl <| w_f b225 d225_82 rfl rfl rfl <| w_f b225 d225_83 rfl (pf_iadd (gI w 169 9) 1) rfl <| w_pi b225 d225_84 rfl rfl hs (tlt 169 rfl) tbC_169 rfl rfl rfl <| w_j b225 d225_87 rfl (p225 _ _) <| (((h.2.2.2 c1).1 c5).2 _ rfl)) (fun c5 => w_f b225 d225_52 rfl rfl rfl <| w_j b225 d225_53 rfl (p225 _ _) <| w_f b225 d225_76 rfl rfl rfl <| w_f b225 d225_77 rfl rfl rfl <| w_f b225 d225_78 rfl rfl rfl <| w_gi b225 d225_79 rfl rfl hs (tlt 169 rfl) tbC_169 rfl <| w_f b225 d225_82 rfl rfl rfl <| w_f b225 d225_83 rfl (pf_iadd (gI w 169 9) 1) rfl <| w_pi b225 d225_84 rfl rfl hs (tlt 169 rfl) tbC_169 rfl rfl rfl <| w_j b225 d225_87 rfl (p225 _ _) <| (((h.2.2.2 c1).2 c5) _ rfl)))
/-! 229: PinBarrelModel.readPitch()Z -/
theorem b229 : mB 229 = cX9_readPitch := rfl
theorem r229 : mR 229 = (some .boolean) := rfl
theorem p229 (a b : Nat) : phi 229 a ≤ phi 229 b := Nat.le_refl 0
theorem d229_0 : decode cX9_readPitch 0 = .ok (.iconst 0, 1) := by decide +kernel
theorem d229_1 : decode cX9_readPitch 1 = .ok (.istore_n 1, 1) := by decide +kernel
theorem d229_2 : decode cX9_readPitch 2 = .ok (.iload_n 1, 1) := by decide +kernel
theorem d229_3 : decode cX9_readPitch 3 = .ok (.bipush 12, 2) := by decide +kernel
theorem d229_5 : decode cX9_readPitch 5 = .ok (.if_icmp .ge 20, 3) := by decide +kernel
theorem d229_8 : decode cX9_readPitch 8 = .ok (.aload_n 0, 1) := by decide +kernel
theorem d229_9 : decode cX9_readPitch 9 = .ok (.iload_n 1, 1) := by decide +kernel
theorem d229_10 : decode cX9_readPitch 10 = .ok (.invokestatic 136, 3) := by decide +kernel
theorem d229_13 : decode cX9_readPitch 13 = .ok (.invokevirtual 140, 3) := by decide +kernel
theorem d229_16 : decode cX9_readPitch 16 = .ok (.ifCond .ne 9, 3) := by decide +kernel
theorem d229_19 : decode cX9_readPitch 19 = .ok (.iinc 1 1, 3) := by decide +kernel
theorem d229_22 : decode cX9_readPitch 22 = .ok (.goto (-20), 3) := by decide +kernel
theorem d229_25 : decode cX9_readPitch 25 = .ok (.iload_n 1, 1) := by decide +kernel
theorem d229_26 : decode cX9_readPitch 26 = .ok (.bipush 12, 2) := by decide +kernel
theorem d229_28 : decode cX9_readPitch 28 = .ok (.if_icmp .ne 13, 3) := by decide +kernel
theorem d229_31 : decode cX9_readPitch 31 = .ok (.aload_n 0, 1) := by decide +kernel
theorem d229_32 : decode cX9_readPitch 32 = .ok (.iconst 1, 1) := by decide +kernel
theorem d229_33 : decode cX9_readPitch 33 = .ok (.aload_n 0, 1) := by decide +kernel
theorem d229_34 : decode cX9_readPitch 34 = .ok (.getfield 70, 3) := by decide +kernel
theorem d229_37 : decode cX9_readPitch 37 = .ok (.invokevirtual 85, 3) := by decide +kernel
theorem d229_40 : decode cX9_readPitch 40 = .ok (.ireturn, 1) := by decide +kernel
theorem d229_41 : decode cX9_readPitch 41 = .ok (.aload_n 0, 1) := by decide +kernel
theorem d229_42 : decode cX9_readPitch 42 = .ok (.iconst 0, 1) := by decide +kernel
theorem d229_43 : decode cX9_readPitch 43 = .ok (.iconst 1, 1) := by decide +kernel
theorem d229_44 : decode cX9_readPitch 44 = .ok (.invokevirtual 144, 3) := by decide +kernel
theorem d229_47 : decode cX9_readPitch 47 = .ok (.ifCond .ne 5, 3) := by decide +kernel
theorem d229_50 : decode cX9_readPitch 50 = .ok (.iconst 0, 1) := by decide +kernel
theorem d229_51 : decode cX9_readPitch 51 = .ok (.ireturn, 1) := by decide +kernel
theorem d229_52 : decode cX9_readPitch 52 = .ok (.aload_n 0, 1) := by decide +kernel
theorem d229_53 : decode cX9_readPitch 53 = .ok (.bipush 12, 2) := by decide +kernel
theorem d229_55 : decode cX9_readPitch 55 = .ok (.aload_n 0, 1) := by decide +kernel
theorem d229_56 : decode cX9_readPitch 56 = .ok (.getfield 97, 3) := by decide +kernel
theorem d229_59 : decode cX9_readPitch 59 = .ok (.imul, 1) := by decide +kernel
theorem d229_60 : decode cX9_readPitch 60 = .ok (.iload_n 1, 1) := by decide +kernel
theorem d229_61 : decode cX9_readPitch 61 = .ok (.iadd, 1) := by decide +kernel
theorem d229_62 : decode cX9_readPitch 62 = .ok (.putfield 147, 3) := by decide +kernel
theorem d229_65 : decode cX9_readPitch 65 = .ok (.iconst 1, 1) := by decide +kernel
theorem d229_66 : decode cX9_readPitch 66 = .ok (.ireturn, 1) := by decide +kernel
theorem v229_0 {w : PW} {Q : PO → PW → Prop}  (hs : Sh w)  (h : pX 229 2 [some (.ref 169), some (iv 0)] [] w Q) : pX 229 0 [some (.ref 169), none] [] w Q :=
  w_f b229 d229_0 rfl rfl rfl <| w_f b229 d229_1 rfl rfl rfl <| h
theorem e229 {w : PW} {Q : PO → PW → Prop}  (hs : Sh w)  (h : pX 229 2 [some (.ref 169), some (iv 0)] [] w Q) : pC 229 [.ref 169] w Q :=
  (pC_in (Nat.le_of_ble_eq_true rfl) rfl Q).mpr (v229_0 hs  h)
theorem v229_2 {w : PW} {Q : PO → PW → Prop} {x1 : Int} (hs : Sh w) (hx1 : bd x1) (h : (12 ≤ x1 → (x1 ≠ 12 → pC 225 [.ref 169, iv 0, iv 1] w (kI fun u4 w3 => Sh w3 ∧ (u4 ≠ 0 → ∀ w6 : PW, w6 = sI w3 169 16 ((12 * (gI w3 169 11)) + x1) → Q (.inl (some (iv 1))) w6) ∧ (u4 = 0 → Q (.inl (some (iv 0))) w3))) ∧ (x1 = 12 → ∀ w7 : PW, w7 = sI (sI w 169 12 1) 169 13 (gI w 169 10) → Q (.inl (some (iv 0))) w7)) ∧ (x1 < 12 → pC 223 [.ref 169, .ref (pSB + nmM x1)] w (kI fun u9 w8 => Sh w8 ∧ (u9 ≠ 0 → (x1 ≠ 12 → pC 225 [.ref 169, iv 0, iv 1] w8 (kI fun u13 w12 => Sh w12 ∧ (u13 ≠ 0 → ∀ w15 : PW, w15 = sI w12 169 16 ((12 * (gI w12 169 11)) + x1) → Q (.inl (some (iv 1))) w15) ∧ (u13 = 0 → Q (.inl (some (iv 0))) w12))) ∧ (x1 = 12 → ∀ w16 : PW, w16 = sI (sI w8 169 12 1) 169 13 (gI w8 169 10) → Q (.inl (some (iv 0))) w16)) ∧ (u9 = 0 → pX 229 2 [some (.ref 169), some (iv (x1 + 1))] [] w8 Q)))) : pX 229 2 [some (.ref 169), some (iv x1)] [] w Q :=
  w_f b229 d229_2 rfl rfl rfl <| w_f b229 d229_3 rfl rfl rfl <| w_icge b229 d229_5 rfl rfl (p229 _ _) hx1 ⟨by decide, by decide⟩ (fun c1 => w_f b229 d229_25 rfl rfl rfl <| w_f b229 d229_26 rfl rfl rfl <| w_icne b229 d229_28 rfl rfl (p229 _ _) hx1 ⟨by decide, by decide⟩ (fun c2 => w_f b229 d229_41 rfl rfl rfl <| w_f b229 d229_42 rfl rfl rfl <| w_f b229 d229_43 rfl rfl rfl <| w_c b229 d229_44 rfl (pcl_v (n := 2) rfl rfl rfl (by decide +kernel) (sh_isOb hs (tlt 169 rfl) tbC_169) rfl rfl) rfl _ (hK_I fun u4 w3 hbu4 hkw3 => w_ifne b229 d229_47 rfl rfl (p229 _ _) hbu4 (fun c5 => w_f b229 d229_52 rfl rfl rfl <| w_f b229 d229_53 rfl rfl rfl <| w_f b229 d229_55 rfl rfl rfl <| w_gi b229 d229_56 rfl rfl hkw3.1 (tlt 169 rfl) tbC_169 rfl <| w_f b229 d229_59 rfl (pf_imul 12 _) rfl <| w_f b229 d229_60 rfl rfl rfl <| w_f b229 d229_61 rfl (pf_iadd _ x1) rfl <| w_pi b229 d229_62 rfl rfl hkw3.1 (tlt 169 rfl) tbC_169 rfl rfl rfl <| w_f b229 d229_65 rfl rfl rfl <| w_rz b229 d229_66 r229 (by decide) ((hkw3.2.1 c5) _ rfl)) (fun c5 => w_f b229 d229_50 rfl rfl rfl <| w_rz b229 d229_51 r229 (by decide) (hkw3.2.2 c5))) ((h.1 c1).1 c2)) (fun c2 => w_f b229 d229_31 rfl rfl rfl <| w_f b229 d229_32 rfl rfl rfl <| w_f b229 d229_33 rfl rfl rfl <| w_gi b229 d229_34 rfl rfl hs (tlt 169 rfl) tbC_169 rfl <| w_cc b229 d229_37 rfl (pcl_v (n := 2) rfl rfl rfl (by decide +kernel) (sh_isOb hs (tlt 169 rfl) tbC_169) rfl rfl) rfl <| c224 hs ⟨by decide, by decide⟩ (bd_gI _ _ _) <| w_rz b229 d229_40 r229 (by decide) (((h.1 c1).2 c2) _ rfl))) (fun c1 => w_f b229 d229_8 rfl rfl rfl <| w_f b229 d229_9 rfl rfl rfl <| w_cc b229 d229_10 rfl (pcl_s1 (n := 1) rfl rfl rfl (by decide +kernel) rfl rfl) rfl <| c228 hs hx1 <| w_c b229 d229_13 rfl (pcl_v (n := 1) rfl rfl rfl (by decide +kernel) (sh_isOb hs (tlt 169 rfl) tbC_169) rfl rfl) rfl _ (hK_I fun u9 w8 hbu9 hkw8 => w_ifne b229 d229_16 rfl rfl (p229 _ _) hbu9 (fun c10 => w_f b229 d229_25 rfl rfl rfl <| w_f b229 d229_26 rfl rfl rfl <| w_icne b229 d229_28 rfl rfl (p229 _ _) hx1 ⟨by decide, by decide⟩ (fun c11 => w_f b229 d229_41 rfl rfl rfl <| w_f b229 d229_42 rfl rfl rfl <| w_f b229 d229_43 rfl rfl rfl <| w_c b229 d229_44 rfl (pcl_v (n := 2) rfl rfl rfl (by decide +kernel) (sh_isOb hkw8.1 (tlt 169 rfl) tbC_169) rfl rfl) rfl _ (hK_I fun u13 w12 hbu13 hkw12 => w_ifne b229 d229_47 rfl rfl (p229 _ _) hbu13 (fun c14 => w_f b229 d229_52 rfl rfl rfl <| w_f b229 d229_53 rfl rfl rfl <| w_f b229 d229_55 rfl rfl rfl <| w_gi b229 d229_56 rfl rfl hkw12.1 (tlt 169 rfl) tbC_169 rfl <| w_f b229 d229_59 rfl (pf_imul 12 _) rfl <| w_f b229 d229_60 rfl rfl rfl <| w_f b229 d229_61 rfl (pf_iadd _ x1) rfl <| w_pi b229 d229_62 rfl rfl hkw12.1 (tlt 169 rfl) tbC_169 rfl rfl rfl <| w_f b229 d229_65 rfl rfl rfl <| w_rz b229 d229_66 r229 (by decide) ((hkw12.2.1 c14) _ rfl)) (fun c14 => w_f b229 d229_50 rfl rfl rfl <| w_rz b229 d229_51 r229 (by decide) (hkw12.2.2 c14))) ((hkw8.2.1 c10).1 c11)) (fun c11 => w_f b229 d229_31 rfl rfl rfl <| w_f b229 d229_32 rfl rfl rfl <| w_f b229 d229_33 rfl rfl rfl <| w_gi b229 d229_34 rfl rfl hkw8.1 (tlt 169 rfl) tbC_169 rfl <| w_cc b229 d229_37 rfl (pcl_v (n := 2) rfl rfl rfl (by decide +kernel) (sh_isOb hkw8.1 (tlt 169 rfl) tbC_169) rfl rfl) rfl <| c224 hkw8.1 ⟨by decide, by decide⟩ (bd_gI _ _ _) <| w_rz b229 d229_40 r229 (by decide) (((hkw8.2.1 c10).2 c11) _ rfl))) (fun c10 => w_f b229 d229_19 rfl (pf_iinc rfl rfl) rfl <| w_j b229 d229_22 rfl (p229 _ _) <| (hkw8.2.2 c10))) (h.2 c1))
def sgB (z : Nat) : Int := if z < 128 then z else z - 256
theorem sgB_i : ∀ z : Nat, z < 256 → i2B (z : Int) = sgB z := by decide +kernel
theorem sgB_n : ∀ z : Nat, z < 256 → vp_nar .byte (Int32.ofInt (sgB z)) = Int32.ofInt (sgB z) := by decide +kernel
theorem sgB_a : ∀ z : Nat, z < 256 → iAnd (sgB z) 255 = (z : Int) := by decide +kernel
theorem sgB_bd {z : Nat} (h : z < 256) : bd (sgB z) := by unfold sgB; split <;> exact ⟨by omega, by omega⟩
theorem sgB_eq {z c : Nat} (hz : z < 256) (hc : c < 128) : sgB z = (c : Int) ↔ z = c := by unfold sgB; split <;> omega
theorem sgB_in {z lo hi : Nat} (hz : z < 256) (h1 : 1 ≤ lo) (h2 : hi < 128) : ((lo : Int) ≤ sgB z ∧ sgB z ≤ (hi : Int)) ↔ (lo ≤ z ∧ z ≤ hi) := by unfold sgB; split <;> omega
/-- the text that waits -/
def MTx (w : PW) (l : List Nat) : Prop := gI w 169 8 = (l.length : Nat) ∧ l.length ≤ 700 ∧ ∀ k, k < l.length → gI w 175 k = sgB (l.getD k 0) ∧ l.getD k 0 < 256
/-- what reading leaves: e, a failure is told; r, the row may be another -/
def RdW (e r : Bool) (w w2 : PW) : Prop := Sh w2 ∧ (∀ c, c ≠ 169 → (r = true → c ≠ 170) → w2.2.2 c = w.2.2 c) ∧ ∀ j, j ≠ 9 → j ≠ 10 → j ≠ 11 → (r = true → j ≠ 16) → (e = true → j ≠ 12 ∧ j ≠ 13) → gI w2 169 j = gI w 169 j
section MRD
variable {w w1 w2 : PW} {Q : PO → PW → Prop} {m : Row} {l : List Nat} {p : Nat} {e r e2 r2 : Bool}
theorem RdW.rf (hs : Sh w) : RdW e r w w := ⟨hs, fun _ _ _ => rfl, fun _ _ _ _ _ _ => rfl⟩
theorem RdW.tr (h1 : RdW e r w w1) (h2 : RdW e r w1 w2) : RdW e r w w2 := ⟨h2.1, fun c a b => (h2.2.1 c a b).trans (h1.2.1 c a b), fun j a b c d f => (h2.2.2 j a b c d f).trans (h1.2.2 j a b c d f)⟩
theorem RdW.wk (h : RdW e r w w2) (he : e = true → e2 = true) (hr : r = true → r2 = true) : RdW e2 r2 w w2 := ⟨h.1, fun c a b => h.2.1 c a (fun q => b (hr q)), fun j a b c d f => h.2.2 j a b c (fun q => d (hr q)) (fun q => f (he q))⟩
theorem RdW.r0 (h : RdW e false w w2) (hM : MR w m) : MR w2 m := hM.cell (h.2.1 170 (by decide) (fun z => by cases z))
theorem RdW.tx (h : RdW e r w w2) (hT : MTx w l) : MTx w2 l := ⟨(h.2.2 8 (by decide) (by decide) (by decide) (fun _ => by decide) (fun _ => ⟨by decide, by decide⟩)).trans hT.1, hT.2.1, fun k hk => by rw [gI_cell (h.2.1 175 (by decide) (fun _ => by decide))]; exact hT.2.2 k hk⟩
/-- a place of the reader's -/
theorem RdW.set {k : Nat} {z : Int} (hs : Sh w) (ee : w2 = sI w 169 k z) (hl : slt (tb 169) k) (hz : bd z) (hk : k = 9 ∨ k = 10 ∨ k = 11) : RdW false false w w2 ∧ ∀ j, gI w2 169 j = if j = k then z else gI w 169 j := by
  obtain ⟨s1, g1, -, k1⟩ := stI ee hs (by omega) hl hz
  refine ⟨⟨s1, fun c a _ => k1 c a, fun j a b c d _ => by rw [g1, if_neg (by omega)]⟩, fun j => ?_⟩
  rw [g1]
  by_cases q : j = k
  · rw [if_pos ⟨rfl, q⟩, if_pos q]
  · rw [if_neg (fun z => q z.2), if_neg q]
theorem RdW.set16 {z : Int} (hs : Sh w) (ee : w2 = sI w 169 16 z) (hz : bd z) : RdW false true w w2 ∧ w2.2.2 170 = w.2.2 170 ∧ ∀ j, gI w2 169 j = if j = 16 then z else gI w 169 j := by
  obtain ⟨s1, g1, -, k1⟩ := stI ee hs (by omega) (slt_o tbC_169 rfl) hz
  refine ⟨⟨s1, fun c a _ => k1 c a, fun j a b c d _ => by have := d rfl; rw [g1, if_neg (by omega)]⟩, k1 170 (by decide), fun j => ?_⟩
  rw [g1]
  by_cases q : j = 16
  · rw [if_pos ⟨rfl, q⟩, if_pos q]
  · rw [if_neg (fun z => q z.2), if_neg q]
/-- a failure is told -/
theorem RdW.fail {a b : Int} (hs : Sh w) (ha : bd a) (hb : bd b) (ee : w2 = sI (sI w 169 12 a) 169 13 b) : RdW true false w w2 ∧ gI w2 169 12 = a ∧ gI w2 169 13 = b := by
  obtain ⟨s1, g1, -, k1⟩ := stI (w := w) rfl hs (by omega) (slt_o tbC_169 (k := 12) rfl) ha
  obtain ⟨s2, g2, -, k2⟩ := stI ee s1 (by omega) (slt_o tbC_169 rfl) hb
  refine ⟨⟨s2, fun c x _ => (k2 c x).trans (k1 c x), fun j x y z v f => ?_⟩, ?_, by rw [g2, if_pos ⟨rfl, rfl⟩]⟩
  · have := f rfl
    rw [g2, if_neg (by omega), g1, if_neg (by omega)]
  · rw [g2, if_neg (by omega), g1, if_pos ⟨rfl, rfl⟩]
theorem l220_0 (hT : MTx w l) (hp : p ≤ l.length) (h : ∀ w2, RdW false false w w2 → gI w2 169 9 = (sW0 l p : Nat) → gI w2 169 10 = (sW0 l p : Nat) → Q (.inl (some (iv (if sW0 l p < l.length then ((l.getD (sW0 l p) 0 : Nat) : Int) else -1)))) w2) : ∀ n i : Nat, i + n = sW0 l p → p ≤ i → ∀ w1, RdW false false w w1 → gI w1 169 9 = (i : Nat) → pX 220 0 [some (.ref 169)] [] w1 Q := by
  have hW : p ≤ sW0 l p ∧ sW0 l p ≤ l.length := sWh_bd (P := isSp) hp
  have h7 := hT.2.1
  have hoff : sW0 l p < l.length → isSp (l.getD (sW0 l p) 0) = false := fun q => sWh_off (P := isSp) q
  intro n
  induction n with
  | zero =>
    intro i hi hpi w1 F1 g9
    have ei : i = sW0 l p := by omega
    obtain ⟨t8, -, tc⟩ := F1.tx hT
    have hend : ∀ w5 : PW, w5 = sI w1 169 10 (gI w1 169 9) → ((gI w5 169 8) ≤ (gI w5 169 9) → Q (.inl (some (iv ((-1))))) w5) ∧ ((gI w5 169 9) < (gI w5 169 8) → (0 ≤ (gI w5 169 9) ∧ (gI w5 169 9) < 700) ∧ Q (.inl (some (iv (iAnd (gI w5 175 (gI w5 169 9).toNat) 255)))) w5) := by
      intro w5 e5
      rw [g9] at e5
      obtain ⟨F5, g5⟩ := RdW.set F1.1 e5 (slt_o tbC_169 rfl) (bdk (by omega)) (by omega)
      have hh := h w5 (F1.tr F5) (by rw [g5, if_neg (by omega), g9, ei]) (by rw [g5, if_pos rfl, ei])
      obtain ⟨u8, -, uc⟩ := (F1.tr F5).tx hT
      rw [u8, g5, if_neg (by omega), g9]
      refine ⟨fun q => ?_, fun q => ⟨⟨by omega, by omega⟩, ?_⟩⟩
      · rw [if_neg (by omega)] at hh
        exact hh
      · rw [if_pos (by omega)] at hh
        rw [Int.toNat_natCast, (uc i (by omega)).1, sgB_a _ (uc i (by omega)).2, ei]
        exact hh
    refine v220_0 F1.1 ?_
    rw [t8, g9]
    refine ⟨fun q => ?_, fun q => ⟨⟨by omega, by omega⟩, fun q2 => ?_, fun q2 => ?_⟩⟩
    · rw [← g9]; exact hend
    · rw [← g9]; exact hend
    · have h1 := tc i (by omega)
      rw [Int.toNat_natCast, h1.1] at q2
      have h2 := (sgB_eq h1.2 (by decide : (32 : Nat) < 128)).mp q2
      have h3 := hoff (by omega)
      rw [← ei, h2] at h3
      exact absurd h3 (by decide)
  | succ n ih =>
    intro i hi hpi w1 F1 g9
    obtain ⟨t8, -, tc⟩ := F1.tx hT
    have h1 := tc i (by omega)
    have hsp : isSp (l.getD i 0) = true := sWh_in (P := isSp) (a := p) hpi (by show i < sW0 l p; omega)
    have h32 : l.getD i 0 = 32 := of_decide_eq_true hsp
    refine v220_0 F1.1 ?_
    rw [t8, g9, Int.toNat_natCast, h1.1]
    refine ⟨fun q => by omega, fun q => ⟨⟨by omega, by omega⟩, fun q2 => absurd ((sgB_eq h1.2 (by decide : (32 : Nat) < 128)).mpr h32) q2, fun q2 w7 e7 => ?_⟩⟩
    obtain ⟨F7, g7⟩ := RdW.set F1.1 e7 (slt_o tbC_169 rfl) ⟨by omega, by omega⟩ (by omega)
    exact ih (i + 1) (by omega) (by omega) w7 (F1.tr F7) (by rw [g7, if_pos rfl]; rfl)
theorem c220 (hs : Sh w) (hT : MTx w l) (hp : p ≤ l.length) (h9 : gI w 169 9 = (p : Nat)) (h : ∀ w2, RdW false false w w2 → gI w2 169 9 = (sW0 l p : Nat) → gI w2 169 10 = (sW0 l p : Nat) → Q (.inl (some (iv (if sW0 l p < l.length then ((l.getD (sW0 l p) 0 : Nat) : Int) else -1)))) w2) : pC 220 [.ref 169] w Q := by
  have hW : p ≤ sW0 l p ∧ sW0 l p ≤ l.length := sWh_bd (P := isSp) hp
  exact (pC_in (Nat.le_of_ble_eq_true rfl) rfl Q).mpr (l220_0 hT hp h (sW0 l p - p) p (by omega) (Nat.le_refl _) w (RdW.rf hs) h9)
theorem nxt_bd {a : Nat} (hT : MTx w l) : bd (if a < l.length then ((l.getD a 0 : Nat) : Int) else -1) := by
  by_cases q : a < l.length
  · rw [if_pos q]
    have := (hT.2.2 a q).2
    exact bdk (by omega)
  · rw [if_neg q]; exact ⟨by decide, by decide⟩
/-- the start of a word, read again, is the same -/
theorem sW0_0 (hp : p ≤ l.length) : sW0 l (sW0 l p) = sW0 l p := by
  have hW : p ≤ sW0 l p ∧ sW0 l p ≤ l.length := sWh_bd (P := isSp) hp
  have := sWh_at (P := isSp) (l := l) (a := sW0 l p) (i := 0) (fun y hy => absurd hy (Nat.not_lt_zero y)) (fun q => sWh_off (P := isSp) (l := l) (a := p) q) hW.2
  exact this
theorem sW1_0 (hp : p ≤ l.length) : sW1 l (sW0 l p) = sW1 l p := by
  show sWh isAz l (sW0 l (sW0 l p)) = sWh isAz l (sW0 l p)
  rw [sW0_0 hp]
theorem l223_59 {w : PW} {Q : PO → PW → Prop} {l : List Nat} {x z r1 : Nat} (hs : Sh w) (hT : MTx w l) (h10 : gI w 169 10 = (x : Nat)) (hr : r1 < 38) (hc : ∀ y, y < (sTx.getD r1 []).length → (sTx.getD r1 []).getD y 0 < 128) (hx : x + (sTx.getD r1 []).length = z) (hz : z ≤ l.length) (hN : fnd (fun i => !decide (l.getD (x + i) 0 = (sTx.getD r1 []).getD i 0)) (sTx.getD r1 []).length ≠ (sTx.getD r1 []).length → Q (.inl (some (iv 0))) w) (h : fnd (fun i => !decide (l.getD (x + i) 0 = (sTx.getD r1 []).getD i 0)) (sTx.getD r1 []).length = (sTx.getD r1 []).length → ∀ w2 : PW, w2 = sI w 169 9 (z : Nat) → Q (.inl (some (iv 1))) w2) : ∀ k i : Nat, i + k = (sTx.getD r1 []).length → (∀ y, y < i → (!decide (l.getD (x + y) 0 = (sTx.getD r1 []).getD y 0)) = false) → pX 223 59 [some (.ref 169), some (.ref (pSB + r1)), some (iv (z : Nat)), some (iv (i : Nat))] [] w Q := by
  have h7 := hT.2.1
  intro k
  induction k with
  | zero =>
    intro i hi hI
    refine v223_59 hs hr (bdk (by omega)) (bdk (by omega)) ⟨fun _ => h ?_, fun q => by omega⟩
    exact fnd_eq (fun y hy => hI y (by omega)) (fun q => absurd q (by omega)) (Nat.le_refl _)
  | succ k ih =>
    intro i hi hI
    have h1 := hT.2.2 (x + i) (by omega)
    have h2 := hc i (by omega)
    refine v223_59 hs hr (bdk (by omega)) (bdk (by omega)) ⟨fun q => by omega, fun _ => ?_⟩
    rw [h10, show ((x : Nat) : Int) + ((i : Nat) : Int) = ((x + i : Nat) : Int) from rfl, Int.toNat_natCast, Int.toNat_natCast, h1.1]
    refine ⟨⟨by omega, by omega⟩, ⟨by omega, by omega⟩, fun q => ih (i + 1) (by omega) (fun y hy => ?_), fun q => hN (fun e => ?_)⟩
    · by_cases q2 : y = i
      · rw [q2, decide_eq_true (p := l.getD (x + i) 0 = (sTx.getD r1 []).getD i 0) ((sgB_eq h1.2 h2).mp q)]
        rfl
      · exact hI y (by omega)
    · have e2 : fnd (fun i => !decide (l.getD (x + i) 0 = (sTx.getD r1 []).getD i 0)) (sTx.getD r1 []).length = i := fnd_eq hI (fun _ => by rw [decide_eq_false (p := l.getD (x + i) 0 = (sTx.getD r1 []).getD i 0) (fun z => q ((sgB_eq h1.2 h2).mpr z))]; rfl) (by omega)
      omega
theorem c223 {r1 : Nat} (hs : Sh w) (hT : MTx w l) (hp : p ≤ l.length) (h9 : gI w 169 9 = (p : Nat)) (hr : r1 < 38) (hc : ∀ y, y < (sTx.getD r1 []).length → (sTx.getD r1 []).getD y 0 < 128) (h0 : 0 < (sTx.getD r1 []).length) (hN : sIsW l (sW0 l p) (sW1 l p) (sTx.getD r1 []) = false → ∀ w2, RdW false false w w2 → gI w2 169 9 = (sW0 l p : Nat) → gI w2 169 10 = (sW0 l p : Nat) → Q (.inl (some (iv 0))) w2) (hY : sIsW l (sW0 l p) (sW1 l p) (sTx.getD r1 []) = true → ∀ w2, RdW false false w w2 → gI w2 169 9 = (sW1 l p : Nat) → gI w2 169 10 = (sW0 l p : Nat) → Q (.inl (some (iv 1))) w2) : pC 223 [.ref 169, .ref (pSB + r1)] w Q := by
  have hW : p ≤ sW0 l p ∧ sW0 l p ≤ l.length := sWh_bd (P := isSp) hp
  have hW1 : sW0 l p ≤ sW1 l p ∧ sW1 l p ≤ l.length := sWh_bd (P := isAz) hW.2
  have h7 := hT.2.1
  unfold sIsW at hN hY
  refine e223 hs hr (c220 hs hT hp h9 (fun w2 F2 g9 g10 => kI_iv (nxt_bd hT) ⟨F2.1, ?_⟩))
  obtain ⟨t8, -, tc⟩ := F2.tx hT
  rw [i2L_toInt (nxt_bd hT), show (97 : Int64).toInt = 97 from by decide, show (122 : Int64).toInt = 122 from by decide, g10]
  refine ⟨fun q => ?_, fun q => ?_⟩
  · have hgo : ∀ n i : Nat, i + n = sW1 l p → sW0 l p ≤ i → ∀ o3 : Option Value, pc2 o3 = false → pX 223 24 [some (.ref 169), some (.ref (pSB + r1)), some (iv (i : Nat)), o3] [] w2 Q := by
      intro n
      induction n with
      | zero =>
        intro i hi hge o3 ho
        have ei : i = sW1 l p := by omega
        refine v223_24 F2.1 hr (bdk (by omega)) ho ?_
        rw [t8, g10, Int.toNat_natCast]
        refine ⟨by omega, by omega, fun _ => ⟨⟨by omega, by omega⟩, fun q2 => ?_, fun q2 => ?_⟩, fun q2 => ?_⟩
        · rw [decide_eq_true (p := sW1 l p - sW0 l p = (sTx.getD r1 []).length) (by omega), Bool.true_and] at hN hY
          refine l223_59 (x := sW0 l p) F2.1 ⟨t8, h7, tc⟩ g10 hr hc (by omega) (by omega) (fun z => hN (decide_eq_false z) w2 F2 g9 g10) (fun z w3 e3 => ?_) _ 0 (Nat.zero_add _) (fun y hy => absurd hy (Nat.not_lt_zero y))
          obtain ⟨F3, g3⟩ := RdW.set F2.1 e3 (slt_o tbC_169 rfl) (bdk (by omega)) (by omega)
          exact hY (decide_eq_true z) w3 (F2.tr F3) (by rw [g3, if_pos rfl, ei]) (by rw [g3, if_neg (by omega), g10])
        · rw [decide_eq_false (p := sW1 l p - sW0 l p = (sTx.getD r1 []).length) (by omega), Bool.false_and] at hN
          exact hN rfl w2 F2 g9 g10
        · have h1 := tc i (by omega)
          rw [h1.1] at q2
          have h2 : isAz (l.getD (sW1 l p) 0) = false := sWh_off (P := isAz) (by show sW1 l p < l.length; omega)
          rw [← ei] at h2
          have h3 := (sgB_in (lo := 97) (hi := 122) h1.2 (by decide) (by decide)).mp q2.2
          exact absurd h3 (of_decide_eq_false h2)
      | succ n ih =>
        intro i hi hge o3 ho
        have h1 := tc i (by omega)
        have h2 : isAz (l.getD i 0) = true := sWh_in (P := isAz) (a := sW0 l p) hge (by show i < sW1 l p; omega)
        have h3 := (sgB_in (lo := 97) (hi := 122) h1.2 (by decide) (by decide)).mpr (of_decide_eq_true h2)
        refine v223_24 F2.1 hr (bdk (by omega)) ho ?_
        rw [t8, g10, Int.toNat_natCast, h1.1]
        exact ⟨by omega, by omega, fun q2 => absurd ⟨by omega, h3⟩ q2, fun _ => ih (i + 1) (by omega) (by omega) o3 ho⟩
    exact hgo (sW1 l p - sW0 l p) (sW0 l p) (by omega) (Nat.le_refl _) none rfl
  · have he : sW1 l p = sW0 l p := by
      have := sWh_at (P := isAz) (l := l) (a := sW0 l p) (i := 0) (fun y hy => absurd hy (Nat.not_lt_zero y)) (fun q2 => decide_eq_false (fun z => q (by
        have q3 : sW0 l p < l.length := q2
        have z2 : 97 ≤ l.getD (sW0 l p) 0 ∧ l.getD (sW0 l p) 0 ≤ 122 := z
        rw [if_pos q3]
        omega))) hW.2
      exact this
    rw [decide_eq_false (p := sW1 l p - sW0 l p = (sTx.getD r1 []).length) (by omega), Bool.false_and] at hN
    exact hN rfl w2 F2 g9 g10
theorem bm64 {n : Int} (h : -1000000000000 ≤ n ∧ n ≤ 1000000000000) : n.bmod (2^64) = n := by
  rw [Int.bmod_def]
  have : ((2^64 : Nat) : Int) = 18446744073709551616 := rfl
  rw [this]
  split <;> omega
theorem l2I_v {y : Int64} (h : 0 ≤ y.toInt ∧ y.toInt < 2147483648) : l2I y = y.toInt := by
  unfold l2I
  rw [Int64.toInt_toInt32, Int.bmod_def]
  have : ((2^32 : Nat) : Int) = 4294967296 := rfl
  rw [this]
  split <;> omega
theorem dgt_v {y : Int64} {v z : Nat} {x : Int} (h : y.toInt = (v : Int)) (hv : v ≤ 99999999) (hx : (i2L x).toInt = x) (hz : x = (z : Int)) (h48 : 48 ≤ z ∧ z ≤ 57) : ((((10 : Int64) * y) + i2L x) - (48 : Int64)).toInt = ((10 * v + (z - 48) : Nat) : Int) := by
  rw [Int64.toInt_sub, Int64.toInt_add, Int64.toInt_mul, h, hx, hz, show (10 : Int64).toInt = 10 from by decide, show (48 : Int64).toInt = 48 from by decide]
  rw [bm64 (n := 10 * (v : Int)) (by omega), bm64 (n := 10 * (v : Int) + (z : Int)) (by omega), bm64 (by omega)]
  omega
/-- the number read so far, and the number that stands there -/
def capN (v n : Nat) : Prop := (v = n ∧ v ≤ 999999999) ∨ (99999999 < v ∧ v ≤ 999999999 ∧ 99999999 < n)
theorem l225_29 {x1 x2 : Int} {a : Nat} (hx1 : bd x1) (hx2 : bd x2) (hhi : x2 ≤ 1000) (hT : MTx w l) (ha : a ≤ l.length) (h10 : gI w 169 10 = (a : Nat)) (hE : ¬ (x1 ≤ ((sNum l a (sWh isDg l a - a) : Nat) : Int) ∧ ((sNum l a (sWh isDg l a - a) : Nat) : Int) ≤ x2) → ∀ w2, RdW true false w w2 → gI w2 169 12 = 2 → gI w2 169 13 = (a : Nat) → Q (.inl (some (iv 0))) w2) (hV : (x1 ≤ ((sNum l a (sWh isDg l a - a) : Nat) : Int) ∧ ((sNum l a (sWh isDg l a - a) : Nat) : Int) ≤ x2) → ∀ w2, RdW false false w w2 → gI w2 169 9 = (sWh isDg l a : Nat) → gI w2 169 11 = (sNum l a (sWh isDg l a - a) : Nat) → Q (.inl (some (iv 1))) w2) : ∀ n i : Nat, a + i + n = sWh isDg l a → ∀ (v : Nat) (y : Int64), y.toInt = (v : Int) → capN v (sNum l a i) → ∀ w1, RdW false false w w1 → gI w1 169 9 = ((a + i : Nat) : Int) → gI w1 169 10 = (a : Nat) → pX 225 29 [some (.ref 169), some (iv x1), some (iv x2), some (.long y), none] [] w1 Q := by
  have hb := sWh_bd (P := isDg) ha
  have h7 := hT.2.1
  intro n
  induction n with
  | zero =>
    intro i hi v y hy hcap w1 F1 g9 g10
    obtain ⟨t8, -, tc⟩ := F1.tx hT
    have ei : sWh isDg l a - a = i := by omega
    have hi2 : a + i = sWh isDg l a := by omega
    refine v225_29 F1.1 hx1 hx2 ?_
    rw [g9, t8, Int.toNat_natCast, i2L_toInt hx1, i2L_toInt hx2, hy]
    rw [ei] at hE hV
    have hcv : (x1 ≤ (v : Int) ∧ (v : Int) ≤ x2) ↔ (x1 ≤ ((sNum l a i : Nat) : Int) ∧ ((sNum l a i : Nat) : Int) ≤ x2) := by
      rcases hcap with ⟨c1, c2⟩ | ⟨c1, c2, c3⟩
      · rw [c1]
      · constructor <;> (intro z; omega)
    refine ⟨by omega, by omega, fun _ => ⟨fun q w3 e3 => ?_, fun q w4 e4 => ?_⟩, fun q => ?_⟩
    · have hv : v = sNum l a i := by
        rcases hcap with ⟨c1, c2⟩ | ⟨c1, c2, c3⟩
        · exact c1
        · omega
      rw [l2I_v (by rw [hy]; omega), hy] at e3
      obtain ⟨F3, g3⟩ := RdW.set F1.1 e3 (slt_o tbC_169 rfl) ⟨by omega, by omega⟩ (by omega)
      exact hV (hcv.mp q) w3 (F1.tr F3) (by rw [g3, if_neg (by omega), g9, hi2]) (by rw [g3, if_pos rfl, hv])
    · rw [g10] at e4
      obtain ⟨F4, a4, b4⟩ := RdW.fail F1.1 (by decide) (bdk (by omega)) e4
      exact hE (fun z => q (hcv.mpr z)) w4 ((F1.wk (fun _ => rfl) id).tr F4) a4 b4
    · have h1 := tc (a + i) (by omega)
      rw [h1.1] at q
      have h2 := sWh_off (P := isDg) (l := l) (a := a) (by omega)
      rw [← hi2] at h2
      exact absurd ((sgB_in (lo := 48) (hi := 57) h1.2 (by decide) (by decide)).mp q.2) (of_decide_eq_false h2)
  | succ n ih =>
    intro i hi v y hy hcap w1 F1 g9 g10
    obtain ⟨t8, -, tc⟩ := F1.tx hT
    have h1 := tc (a + i) (by omega)
    have h2 := of_decide_eq_true (sWh_in (P := isDg) (l := l) (a := a) (k := a + i) (by omega) (by omega))
    have h3 := (sgB_in (lo := 48) (hi := 57) h1.2 (by decide) (by decide)).mpr h2
    have hs8 : sgB (l.getD (a + i) 0) = ((l.getD (a + i) 0 : Nat) : Int) := by unfold sgB; rw [if_pos (by omega)]
    have hnum : sNum l a (i + 1) = 10 * sNum l a i + (l.getD (a + i) 0 - 48) := rfl
    refine v225_29 F1.1 hx1 hx2 ?_
    rw [g9, t8, Int.toNat_natCast, h1.1]
    have nxt : ∀ w6 : PW, w6 = sI w1 169 9 (((a + i : Nat) : Int) + 1) → RdW false false w w6 ∧ gI w6 169 9 = ((a + (i + 1) : Nat) : Int) ∧ gI w6 169 10 = (a : Nat) := fun w6 e6 => by
      obtain ⟨F6, g6⟩ := RdW.set F1.1 e6 (slt_o tbC_169 rfl) ⟨by omega, by omega⟩ (by omega)
      exact ⟨F1.tr F6, by rw [g6, if_pos rfl]; rfl, by rw [g6, if_neg (by omega), g10]⟩
    refine ⟨by omega, by omega, fun q => absurd ⟨by omega, h3⟩ q, fun _ => ⟨fun q => ⟨⟨by omega, by omega⟩, fun w6 e6 => ?_⟩, fun q w7 e7 => ?_⟩⟩
    · obtain ⟨F6, g6, k6⟩ := nxt w6 e6
      have hv : v ≤ 99999999 := by
        rcases Nat.lt_or_ge 99999999 v with z | z
        · have := lCmp_gt (x := y) (y := (99999999 : Int64))
          rw [show (99999999 : Int64).toInt = 99999999 from by decide, hy] at this
          have := this.mpr (by omega)
          omega
        · exact z
      have hsum := dgt_v (y := y) (v := v) (z := l.getD (a + i) 0) (x := sgB (l.getD (a + i) 0)) hy hv (i2L_toInt (sgB_bd h1.2)) hs8 h2
      refine ih (i + 1) (by omega) _ _ hsum ?_ w6 F6 g6 k6
      rw [hnum]
      rcases hcap with ⟨c1, c2⟩ | ⟨c1, c2, c3⟩
      · left
        rw [← c1]
        exact ⟨rfl, by omega⟩
      · omega
    · obtain ⟨F6, g6, k6⟩ := nxt w7 e7
      have hv : 99999999 < v := by
        have := (lCmp_gt (x := y) (y := (99999999 : Int64))).mp q
        rw [show (99999999 : Int64).toInt = 99999999 from by decide, hy] at this
        omega
      refine ih (i + 1) (by omega) v y hy ?_ w7 F6 g6 k6
      rw [hnum]
      rcases hcap with ⟨c1, c2⟩ | ⟨c1, c2, c3⟩
      · exact Or.inr ⟨hv, c2, by omega⟩
      · exact Or.inr ⟨c1, c2, by omega⟩
theorem c225 {x1 x2 : Int} (hs : Sh w) (hT : MTx w l) (hp : p ≤ l.length) (h9 : gI w 169 9 = (p : Nat)) (hx1 : bd x1) (hx2 : bd x2) (hhi : x2 ≤ 1000) (hE : ∀ kk aa, sRd l p x1 x2 = .inl (kk, aa) → ∀ w2, RdW true false w w2 → gI w2 169 12 = kk → gI w2 169 13 = (aa : Nat) → Q (.inl (some (iv 0))) w2) (hV : ∀ q v, sRd l p x1 x2 = .inr (q, v) → ∀ w2, RdW false false w w2 → gI w2 169 9 = (q : Nat) → gI w2 169 11 = v → Q (.inl (some (iv 1))) w2) : pC 225 [.ref 169, iv x1, iv x2] w Q := by
  have hW : p ≤ sW0 l p ∧ sW0 l p ≤ l.length := sWh_bd (P := isSp) hp
  have hb := sWh_bd (P := isDg) hW.2
  have h7 := hT.2.1
  refine e225 hs hx1 hx2 (c220 hs hT hp h9 (fun w2 F2 g9 g10 => kI_iv (nxt_bd hT) ⟨F2.1, ?_⟩))
  obtain ⟨t8, -, tc⟩ := F2.tx hT
  rw [i2L_toInt (nxt_bd hT), show (48 : Int64).toInt = 48 from by decide, show (57 : Int64).toInt = 57 from by decide]
  unfold sRd at hE hV
  refine ⟨fun q => ?_, fun q w4 e4 => ?_⟩
  · have hne : ¬ sWh isDg l (sW0 l p) = sW0 l p := fun z => by
      have q3 : sW0 l p < l.length := by
        rcases Nat.lt_or_ge (sW0 l p) l.length with z2 | z2
        · exact z2
        · rw [if_neg (by omega)] at q; omega
      rw [if_pos q3] at q
      have h2 := sWh_off (P := isDg) (l := l) (a := sW0 l p) (by omega)
      rw [z] at h2
      have h3 := of_decide_eq_false h2
      omega
    rw [if_neg hne] at hE hV
    refine l225_29 (w := w2) hx1 hx2 hhi (F2.tx hT) hW.2 g10 (fun z w3 F3 a3 b3 => ?_) (fun z w3 F3 a3 b3 => ?_) (sWh isDg l (sW0 l p) - sW0 l p) 0 (by omega) 0 0 (by decide) (Or.inl ⟨rfl, by decide⟩) w2 (RdW.rf F2.1) g9 g10
    · rw [if_neg z] at hE
      exact hE 2 _ rfl w3 ((F2.wk (fun _ => rfl) id).tr F3) a3 b3
    · rw [if_pos z] at hV
      exact hV _ _ rfl w3 (F2.tr F3) a3 b3
  · have he : sWh isDg l (sW0 l p) = sW0 l p := by
      have := sWh_at (P := isDg) (l := l) (a := sW0 l p) (i := 0) (fun y hy => absurd hy (Nat.not_lt_zero y)) (fun q2 => decide_eq_false (fun z => q (by
        have q3 : sW0 l p < l.length := q2
        have z2 : 48 ≤ l.getD (sW0 l p) 0 ∧ l.getD (sW0 l p) 0 ≤ 57 := z
        rw [if_pos q3]
        omega))) hW.2
      exact this
    rw [if_pos he] at hE
    rw [g10] at e4
    obtain ⟨F4, a4, b4⟩ := RdW.fail F2.1 (by decide) (bdk (by omega)) e4
    exact hE 1 _ rfl w4 ((F2.wk (fun _ => rfl) id).tr F4) a4 b4
theorem nmL_lo : ∀ k, k < 12 → 0 < (nmL.getD k []).length ∧ ∀ y, y < (nmL.getD k []).length → (nmL.getD k []).getD y 0 < 128 := by decide +kernel
theorem l229_2 {w : PW} {Q : PO → PW → Prop} {l : List Nat} {p : Nat} (hs : Sh w) (hT : MTx w l) (hp : p ≤ l.length) (hE : ∀ kk aa, sPt l p = .inl (kk, aa) → ∀ w2, RdW true false w w2 → gI w2 169 12 = kk → gI w2 169 13 = (aa : Nat) → Q (.inl (some (iv 0))) w2) (h : ∀ q v, sPt l p = .inr (q, v) → ∀ w2, RdW false true w w2 → w2.2.2 170 = w.2.2 170 → gI w2 169 9 = (q : Nat) → gI w2 169 16 = v → Q (.inl (some (iv 1))) w2) : ∀ k i : Nat, i + k = 12 → ∀ w1, RdW false false w w1 → ∀ x : Nat, x ≤ l.length → gI w1 169 9 = (x : Nat) → sW0 l x = sW0 l p → sW1 l x = sW1 l p → (∀ y, y < i → sIsW l (sW0 l p) (sW1 l p) (nmL.getD y []) = false) → (0 < i → gI w1 169 10 = (sW0 l p : Nat)) → pX 229 2 [some (.ref 169), some (iv (i : Nat))] [] w1 Q := by
  have hW : p ≤ sW0 l p ∧ sW0 l p ≤ l.length := sWh_bd (P := isSp) hp
  have hW1 : sW0 l p ≤ sW1 l p ∧ sW1 l p ≤ l.length := sWh_bd (P := isAz) hW.2
  have h7 := hT.2.1
  intro k
  induction k with
  | zero =>
    intro i hi w1 F1 x hx2 h9 hx0 hx1 hI h10
    have ei : i = 12 := by omega
    subst ei
    refine v229_2 F1.1 (by decide) ⟨fun _ => ⟨fun q => absurd rfl q, fun _ w7 e7 => ?_⟩, fun q => by omega⟩
    rw [h10 (by decide)] at e7
    obtain ⟨F7, a7, b7⟩ := RdW.fail F1.1 (by decide) (bdk (by omega)) e7
    have e : fnd (fun k => sIsW l (sW0 l p) (sW1 l p) (nmL.getD k [])) 12 = 12 := fnd_eq (i := 12) (fun y hy => hI y (by omega)) (fun q => absurd q (by omega)) (by omega)
    exact hE 1 _ (by unfold sPt; rw [if_pos e]) w7 ((F1.wk (fun _ => rfl) id).tr F7) a7 b7
  | succ k ih =>
    intro i hi w1 F1 x hx2 h9 hx0 hx1 hI h10
    have e0 := nmM_txt i (by omega)
    have e1 := nmL_lo i (by omega)
    refine v229_2 F1.1 (bdk (by omega)) ⟨fun q => by omega, fun _ => c223 F1.1 (F1.tx hT) hx2 h9 e0.2 (by rw [e0.1]; exact e1.2) (by rw [e0.1]; exact e1.1) (fun q w8 F8 g9 g10 => kI_iv bd0 ⟨F8.1, fun z => absurd rfl z, fun _ => ?_⟩) (fun q w8 F8 g9 g10 => kI_iv (by decide) ⟨F8.1, fun _ => ⟨fun _ => ?_, fun z => by omega⟩, fun z => absurd z (by decide)⟩)⟩
    · rw [e0.1, hx0, hx1] at q
      rw [hx0] at g9 g10
      refine ih (i + 1) (by omega) w8 (F1.tr F8) (sW0 l p) hW.2 g9 (sW0_0 hp) (sW1_0 hp) (fun y hy => ?_) (fun _ => g10)
      by_cases q2 : y = i
      · rw [q2]; exact q
      · exact hI y (by omega)
    · rw [e0.1, hx0, hx1] at q
      rw [hx1] at g9
      have e : fnd (fun k => sIsW l (sW0 l p) (sW1 l p) (nmL.getD k [])) 12 = i := fnd_eq (i := i) hI (fun _ => q) (by omega)
      unfold sPt at hE h
      rw [e, if_neg (by omega)] at hE h
      refine c225 F8.1 (F8.tx (F1.tx hT)) hW1.2 g9 (by decide) (by decide) (by decide) (fun kk aa er w9 F9 a9 b9 => kI_iv bd0 ⟨F9.1, fun z => absurd rfl z, fun _ => ?_⟩) (fun q9 v er w9 F9 a9 b9 => kI_iv (by decide) ⟨F9.1, fun _ w15 e15 => ?_, fun z => absurd z (by decide)⟩)
      · rw [er] at hE
        exact hE kk aa rfl w9 (((F1.tr F8).wk (fun _ => rfl) id).tr F9) a9 b9
      · have hv := sRd_bd hW1.2 er
        rw [b9] at e15
        obtain ⟨F15, k15, g15⟩ := RdW.set16 F9.1 e15 ⟨by omega, by omega⟩
        rw [er] at h
        have F9' := (F1.tr F8).tr F9
        exact h _ _ rfl w15 ((F9'.wk id (fun _ => rfl)).tr F15) (k15.trans (F9'.2.1 170 (by decide) (fun z => by cases z))) (by rw [g15, if_neg (by omega), a9]) (by rw [g15, if_pos rfl])
theorem c229 (hs : Sh w) (hT : MTx w l) (hp : p ≤ l.length) (h9 : gI w 169 9 = (p : Nat)) (hE : ∀ kk aa, sPt l p = .inl (kk, aa) → ∀ w2, RdW true false w w2 → gI w2 169 12 = kk → gI w2 169 13 = (aa : Nat) → Q (.inl (some (iv 0))) w2) (hV : ∀ q v, sPt l p = .inr (q, v) → ∀ w2, RdW false true w w2 → w2.2.2 170 = w.2.2 170 → gI w2 169 9 = (q : Nat) → gI w2 169 16 = v → Q (.inl (some (iv 1))) w2) : pC 229 [.ref 169] w Q :=
  e229 hs (l229_2 hs hT hp hE hV 12 0 rfl w (RdW.rf hs) p hp h9 rfl rfl (fun y hy => absurd hy (Nat.not_lt_zero y)) (fun z => absurd z (by decide)))
end MRD
