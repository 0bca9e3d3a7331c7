/-! THE MODEL's FACE: fullest, collision, isClean -/
/-! 278: PinBarrelModel.fullest(I)I -/
theorem b278 : mB 278 = cX9_fullest := rfl
theorem r278 : mR 278 = (some .int) := rfl
theorem p278 (a b : Nat) : phi 278 a ≤ phi 278 b := Nat.le_refl 0
theorem d278_0 : decode cX9_fullest 0 = .ok (.aload_n 0, 1) := by decide +kernel
theorem d278_1 : decode cX9_fullest 1 = .ok (.iload_n 1, 1) := by decide +kernel
theorem d278_2 : decode cX9_fullest 2 = .ok (.invokevirtual 377, 3) := by decide +kernel
theorem d278_5 : decode cX9_fullest 5 = .ok (.ifCond .eq 5, 3) := by decide +kernel
theorem d278_8 : decode cX9_fullest 8 = .ok (.iconst 0, 1) := by decide +kernel
theorem d278_9 : decode cX9_fullest 9 = .ok (.ireturn, 1) := by decide +kernel
theorem d278_10 : decode cX9_fullest 10 = .ok (.iconst (-1), 1) := by decide +kernel
theorem d278_11 : decode cX9_fullest 11 = .ok (.istore_n 2, 1) := by decide +kernel
theorem d278_12 : decode cX9_fullest 12 = .ok (.iconst 0, 1) := by decide +kernel
theorem d278_13 : decode cX9_fullest 13 = .ok (.istore_n 3, 1) := by decide +kernel
theorem d278_14 : decode cX9_fullest 14 = .ok (.iconst 0, 1) := by decide +kernel
theorem d278_15 : decode cX9_fullest 15 = .ok (.istore 4, 2) := by decide +kernel
theorem d278_17 : decode cX9_fullest 17 = .ok (.iload 4, 2) := by decide +kernel
theorem d278_19 : decode cX9_fullest 19 = .ok (.aload_n 0, 1) := by decide +kernel
theorem d278_20 : decode cX9_fullest 20 = .ok (.getfield 9, 3) := by decide +kernel
theorem d278_23 : decode cX9_fullest 23 = .ok (.iconst 0, 1) := by decide +kernel
theorem d278_24 : decode cX9_fullest 24 = .ok (.iaload, 1) := by decide +kernel
theorem d278_25 : decode cX9_fullest 25 = .ok (.if_icmp .ge 40, 3) := by decide +kernel
theorem d278_28 : decode cX9_fullest 28 = .ok (.aload_n 0, 1) := by decide +kernel
theorem d278_29 : decode cX9_fullest 29 = .ok (.getfield 9, 3) := by decide +kernel
theorem d278_32 : decode cX9_fullest 32 = .ok (.iload_n 1, 1) := by decide +kernel
theorem d278_33 : decode cX9_fullest 33 = .ok (.iload 4, 2) := by decide +kernel
theorem d278_35 : decode cX9_fullest 35 = .ok (.invokestatic 213, 3) := by decide +kernel
theorem d278_38 : decode cX9_fullest 38 = .ok (.iaload, 1) := by decide +kernel
theorem d278_39 : decode cX9_fullest 39 = .ok (.invokestatic 222, 3) := by decide +kernel
theorem d278_42 : decode cX9_fullest 42 = .ok (.istore 5, 2) := by decide +kernel
theorem d278_44 : decode cX9_fullest 44 = .ok (.iload 5, 2) := by decide +kernel
theorem d278_46 : decode cX9_fullest 46 = .ok (.iload_n 3, 1) := by decide +kernel
theorem d278_47 : decode cX9_fullest 47 = .ok (.if_icmp .gt 6, 3) := by decide +kernel
theorem d278_50 : decode cX9_fullest 50 = .ok (.goto 9, 3) := by decide +kernel
theorem d278_53 : decode cX9_fullest 53 = .ok (.iload 4, 2) := by decide +kernel
theorem d278_55 : decode cX9_fullest 55 = .ok (.istore_n 2, 1) := by decide +kernel
theorem d278_56 : decode cX9_fullest 56 = .ok (.iload 5, 2) := by decide +kernel
theorem d278_58 : decode cX9_fullest 58 = .ok (.istore_n 3, 1) := by decide +kernel
theorem d278_59 : decode cX9_fullest 59 = .ok (.iinc 4 1, 3) := by decide +kernel
theorem d278_62 : decode cX9_fullest 62 = .ok (.goto (-45), 3) := by decide +kernel
theorem d278_65 : decode cX9_fullest 65 = .ok (.iload_n 2, 1) := by decide +kernel
theorem d278_66 : decode cX9_fullest 66 = .ok (.ireturn, 1) := by decide +kernel
theorem v278_0 {w : PW} {Q : PO → PW → Prop} {x1 : Int} (hs : Sh w) (hx1 : bd x1) (h : (bd ((gI w 170 1) - 1)) ∧ ((0 ≤ x1 ∧ x1 < gI w 170 1) → ∀ w2 : PW, w2 = sI w 169 0 0 → pX 278 17 [some (.ref 169), some (iv x1), some (iv ((-1))), some (iv 0), some (iv 0), none] [] w2 Q) ∧ ((¬ (0 ≤ x1 ∧ x1 < gI w 170 1)) → ∀ w4 : PW, w4 = sI w 169 0 1 → Q (.inl (some (iv 0))) w4)) : pX 278 0 [some (.ref 169), some (iv x1), none, none, none, none] [] w Q :=
  w_f b278 d278_0 rfl rfl rfl <| w_f b278 d278_1 rfl rfl rfl <| w_cc b278 d278_2 rfl (pcl_v (n := 1) rfl rfl rfl (by decide +kernel) (sh_isOb hs (tlt 169 rfl) tbC_169) rfl rfl) rfl <| c275 hs hx1 h.1 (fun c1 => w_ifeq b278 d278_5 rfl rfl (p278 _ _) ⟨by decide, by decide⟩ (fun _ => w_f b278 d278_10 rfl rfl rfl <| w_f b278 d278_11 rfl rfl rfl <| w_f b278 d278_12 rfl rfl rfl <| w_f b278 d278_13 rfl rfl rfl <| w_f b278 d278_14 rfl rfl rfl <| w_f b278 d278_15 rfl rfl rfl <| (h.2.1 c1 _ rfl)) (fun c => absurd c (by decide))) (fun c3 => w_ifeq b278 d278_5 rfl rfl (p278 _ _) ⟨by decide, by decide⟩ (fun c => absurd c (by decide)) (fun _ => w_f b278 d278_8 rfl rfl rfl <| w_ri b278 d278_9 r278 (h.2.2 c3 _ rfl)))
theorem e278 {w : PW} {Q : PO → PW → Prop} {x1 : Int} (hs : Sh w) (hx1 : bd x1) (h : (bd ((gI w 170 1) - 1)) ∧ ((0 ≤ x1 ∧ x1 < gI w 170 1) → ∀ w2 : PW, w2 = sI w 169 0 0 → pX 278 17 [some (.ref 169), some (iv x1), some (iv ((-1))), some (iv 0), some (iv 0), none] [] w2 Q) ∧ ((¬ (0 ≤ x1 ∧ x1 < gI w 170 1)) → ∀ w4 : PW, w4 = sI w 169 0 1 → Q (.inl (some (iv 0))) w4)) : pC 278 [.ref 169, iv x1] w Q :=
  (pC_in (Nat.le_of_ble_eq_true rfl) rfl Q).mpr (v278_0 hs hx1 h)
theorem v278_17 {w : PW} {Q : PO → PW → Prop} {x1 : Int} {x2 : Int} {x3 : Int} {x4 : Int} {o5 : Option Value} (hs : Sh w) (hx1 : bd x1) (hx2 : bd x2) (hx3 : bd x3) (hx4 : bd x4) (ho5 : pc2 o5 = false) (h : ((gI w 170 0) ≤ x4 → Q (.inl (some (iv x2))) w) ∧ (x4 < (gI w 170 0) → (0 ≤ ((251 + 64 * x1) + x4) ∧ ((251 + 64 * x1) + x4) < 843) ∧ (x3 < ((cnt (tI (gI w 170 ((251 + 64 * x1) + x4).toNat)) 12 : Int)) → pX 278 17 [some (.ref 169), some (iv x1), some (iv x4), some (iv ((cnt (tI (gI w 170 ((251 + 64 * x1) + x4).toNat)) 12 : Int))), some (iv (x4 + 1)), some (iv ((cnt (tI (gI w 170 ((251 + 64 * x1) + x4).toNat)) 12 : Int)))] [] w Q) ∧ (((cnt (tI (gI w 170 ((251 + 64 * x1) + x4).toNat)) 12 : Int)) ≤ x3 → pX 278 17 [some (.ref 169), some (iv x1), some (iv x2), some (iv x3), some (iv (x4 + 1)), some (iv ((cnt (tI (gI w 170 ((251 + 64 * x1) + x4).toNat)) 12 : Int)))] [] w Q))) : pX 278 17 [some (.ref 169), some (iv x1), some (iv x2), some (iv x3), some (iv x4), o5] [] w Q :=
  w_f b278 d278_17 rfl rfl rfl <| w_f b278 d278_19 rfl rfl rfl <| w_gr b278 d278_20 rfl rfl hs (tlt 169 rfl) tbC_169 rfl (by decide) <| w_f b278 d278_23 rfl rfl rfl <| w_ial b278 d278_24 rfl hs (tlt 170 rfl) tbC_170 (bdix (n := 843) ⟨by decide, by decide⟩ rfl) ⟨by decide, by decide⟩ <| w_icge b278 d278_25 rfl rfl (p278 _ _) hx4 (bd_gI _ _ _) (fun c1 => w_f b278 d278_65 rfl rfl rfl <| w_ri b278 d278_66 r278 (h.1 c1)) (fun c1 => w_f b278 d278_28 rfl rfl rfl <| w_gr b278 d278_29 rfl rfl hs (tlt 169 rfl) tbC_169 rfl (by decide) <| w_f b278 d278_32 rfl rfl rfl <| w_f b278 d278_33 rfl rfl rfl <| w_cc b278 d278_35 rfl (pcl_s1 (n := 2) rfl rfl rfl (by decide +kernel) rfl rfl) rfl <| c236 hs hx1 hx4 <| w_ial b278 d278_38 rfl hs (tlt 170 rfl) tbC_170 (bdix (n := 843) (h.2 c1).1 rfl) (h.2 c1).1 <| w_cc b278 d278_39 rfl (pcl_s1 (n := 1) rfl rfl rfl (by decide +kernel) rfl rfl) rfl <| c246 hs (bd_gI _ _ _) <| w_f b278 d278_42 rfl rfl rfl <| w_f b278 d278_44 rfl rfl rfl <| w_f b278 d278_46 rfl rfl rfl <| w_icgt b278 d278_47 rfl rfl (p278 _ _) (bd_c12 _) hx3 (fun c2 => w_f b278 d278_53 rfl rfl rfl <| w_f b278 d278_55 rfl rfl rfl <| w_f b278 d278_56 rfl rfl rfl <| w_f b278 d278_58 rfl rfl rfl <| w_f b278 d278_59 rfl (pf_iinc rfl rfl) rfl <| w_j b278 d278_62 rfl (p278 _ _) <| ((h.2 c1).2.1 c2)) (fun c2 => w_j b278 d278_50 rfl (p278 _ _) <| w_f b278 d278_59 rfl (pf_iinc rfl rfl) rfl <| w_j b278 d278_62 rfl (p278 _ _) <| ((h.2 c1).2.2 c2)))
/-! 284: PinBarrelModel.collision(II)I -/
theorem b284 : mB 284 = cX9_collision := rfl
theorem r284 : mR 284 = (some .int) := rfl
theorem p284 (a b : Nat) : phi 284 a ≤ phi 284 b := Nat.le_refl 0
theorem d284_0 : decode cX9_collision 0 = .ok (.aload_n 0, 1) := by decide +kernel
theorem d284_1 : decode cX9_collision 1 = .ok (.iload_n 2, 1) := by decide +kernel
theorem d284_2 : decode cX9_collision 2 = .ok (.i2l, 1) := by decide +kernel
theorem d284_3 : decode cX9_collision 3 = .ok (.lconst 0, 1) := by decide +kernel
theorem d284_4 : decode cX9_collision 4 = .ok (.ldc2_w 383, 3) := by decide +kernel
theorem d284_7 : decode cX9_collision 7 = .ok (.invokestatic 81, 3) := by decide +kernel
theorem d284_10 : decode cX9_collision 10 = .ok (.ifCond .ne 7, 3) := by decide +kernel
theorem d284_13 : decode cX9_collision 13 = .ok (.iconst 1, 1) := by decide +kernel
theorem d284_14 : decode cX9_collision 14 = .ok (.goto 4, 3) := by decide +kernel
theorem d284_17 : decode cX9_collision 17 = .ok (.iconst 0, 1) := by decide +kernel
theorem d284_18 : decode cX9_collision 18 = .ok (.invokevirtual 328, 3) := by decide +kernel
theorem d284_21 : decode cX9_collision 21 = .ok (.ifCond .eq 5, 3) := by decide +kernel
theorem d284_24 : decode cX9_collision 24 = .ok (.iconst 0, 1) := by decide +kernel
theorem d284_25 : decode cX9_collision 25 = .ok (.ireturn, 1) := by decide +kernel
theorem d284_26 : decode cX9_collision 26 = .ok (.iload_n 1, 1) := by decide +kernel
theorem d284_27 : decode cX9_collision 27 = .ok (.ifCond .lt 12, 3) := by decide +kernel
theorem d284_30 : decode cX9_collision 30 = .ok (.aload_n 0, 1) := by decide +kernel
theorem d284_31 : decode cX9_collision 31 = .ok (.iload_n 1, 1) := by decide +kernel
theorem d284_32 : decode cX9_collision 32 = .ok (.invokevirtual 277, 3) := by decide +kernel
theorem d284_35 : decode cX9_collision 35 = .ok (.iload_n 1, 1) := by decide +kernel
theorem d284_36 : decode cX9_collision 36 = .ok (.if_icmp .gt 5, 3) := by decide +kernel
theorem d284_39 : decode cX9_collision 39 = .ok (.iconst (-1), 1) := by decide +kernel
theorem d284_40 : decode cX9_collision 40 = .ok (.ireturn, 1) := by decide +kernel
theorem d284_41 : decode cX9_collision 41 = .ok (.iload_n 2, 1) := by decide +kernel
theorem d284_42 : decode cX9_collision 42 = .ok (.iconst 3, 1) := by decide +kernel
theorem d284_43 : decode cX9_collision 43 = .ok (.if_icmp .ge 10, 3) := by decide +kernel
theorem d284_46 : decode cX9_collision 46 = .ok (.aload_n 0, 1) := by decide +kernel
theorem d284_47 : decode cX9_collision 47 = .ok (.getfield 268, 3) := by decide +kernel
theorem d284_50 : decode cX9_collision 50 = .ok (.goto 9, 3) := by decide +kernel
theorem d284_53 : decode cX9_collision 53 = .ok (.aload_n 0, 1) := by decide +kernel
theorem d284_54 : decode cX9_collision 54 = .ok (.getfield 268, 3) := by decide +kernel
theorem d284_57 : decode cX9_collision 57 = .ok (.iconst 1, 1) := by decide +kernel
theorem d284_58 : decode cX9_collision 58 = .ok (.iadd, 1) := by decide +kernel
theorem d284_59 : decode cX9_collision 59 = .ok (.istore_n 3, 1) := by decide +kernel
theorem d284_60 : decode cX9_collision 60 = .ok (.iload_n 2, 1) := by decide +kernel
theorem d284_61 : decode cX9_collision 61 = .ok (.iconst 3, 1) := by decide +kernel
theorem d284_62 : decode cX9_collision 62 = .ok (.irem, 1) := by decide +kernel
theorem d284_63 : decode cX9_collision 63 = .ok (.lookupswitch 43 #[(0, 25), (1, 34)], 25) := by decide +kernel
theorem d284_88 : decode cX9_collision 88 = .ok (.iload_n 3, 1) := by decide +kernel
theorem d284_89 : decode cX9_collision 89 = .ok (.aload_n 0, 1) := by decide +kernel
theorem d284_90 : decode cX9_collision 90 = .ok (.getfield 9, 3) := by decide +kernel
theorem d284_93 : decode cX9_collision 93 = .ok (.iconst 1, 1) := by decide +kernel
theorem d284_94 : decode cX9_collision 94 = .ok (.iaload, 1) := by decide +kernel
theorem d284_95 : decode cX9_collision 95 = .ok (.irem, 1) := by decide +kernel
theorem d284_96 : decode cX9_collision 96 = .ok (.ireturn, 1) := by decide +kernel
theorem d284_97 : decode cX9_collision 97 = .ok (.iload_n 3, 1) := by decide +kernel
theorem d284_98 : decode cX9_collision 98 = .ok (.aload_n 0, 1) := by decide +kernel
theorem d284_99 : decode cX9_collision 99 = .ok (.getfield 9, 3) := by decide +kernel
theorem d284_102 : decode cX9_collision 102 = .ok (.iconst 1, 1) := by decide +kernel
theorem d284_103 : decode cX9_collision 103 = .ok (.iaload, 1) := by decide +kernel
theorem d284_104 : decode cX9_collision 104 = .ok (.idiv, 1) := by decide +kernel
theorem d284_105 : decode cX9_collision 105 = .ok (.ireturn, 1) := by decide +kernel
theorem d284_106 : decode cX9_collision 106 = .ok (.iload_n 2, 1) := by decide +kernel
theorem d284_107 : decode cX9_collision 107 = .ok (.iconst 3, 1) := by decide +kernel
theorem d284_108 : decode cX9_collision 108 = .ok (.if_icmp .ge 10, 3) := by decide +kernel
theorem d284_111 : decode cX9_collision 111 = .ok (.aload_n 0, 1) := by decide +kernel
theorem d284_112 : decode cX9_collision 112 = .ok (.getfield 271, 3) := by decide +kernel
theorem d284_115 : decode cX9_collision 115 = .ok (.goto 7, 3) := by decide +kernel
theorem d284_118 : decode cX9_collision 118 = .ok (.aload_n 0, 1) := by decide +kernel
theorem d284_119 : decode cX9_collision 119 = .ok (.getfield 274, 3) := by decide +kernel
theorem d284_122 : decode cX9_collision 122 = .ok (.ireturn, 1) := by decide +kernel
theorem v284_0 {w : PW} {Q : PO → PW → Prop} {x1 : Int} {x2 : Int} (hs : Sh w) (hx1 : bd x1) (hx2 : bd x2) (h : ((((0 : Int64)).toInt ≤ (i2L x2).toInt ∧ (i2L x2).toInt ≤ ((5 : Int64)).toInt) → ∀ w2 : PW, w2 = sI w 169 0 0 → (x1 < 0 → Q (.inl (some (iv ((-1))))) w2) ∧ (0 ≤ x1 → pC 255 [.ref 169, iv x1] w2 (kI fun u5 w4 => Sh w4 ∧ (x1 < u5 → (3 ≤ x2 → (bd (x2.tmod 3)) ∧ ((x2.tmod 3) = 0 → (bd ((gI w4 169 21) + 1)) ∧ (0 < (gI w4 170 1) ∧ (gI w4 170 1) < 2147483648) ∧ Q (.inl (some (iv (((gI w4 169 21) + 1).tmod (gI w4 170 1))))) w4) ∧ ((x2.tmod 3) = 1 → (bd ((gI w4 169 21) + 1)) ∧ (0 < (gI w4 170 1) ∧ (gI w4 170 1) < 2147483648) ∧ Q (.inl (some (iv (((gI w4 169 21) + 1).tdiv (gI w4 170 1))))) w4) ∧ (((x2.tmod 3) ≠ 0 ∧ (x2.tmod 3) ≠ 1) → (3 ≤ x2 → Q (.inl (some (iv (gI w4 169 23)))) w4) ∧ (x2 < 3 → Q (.inl (some (iv (gI w4 169 22)))) w4))) ∧ (x2 < 3 → (bd (x2.tmod 3)) ∧ ((x2.tmod 3) = 0 → (0 < (gI w4 170 1) ∧ (gI w4 170 1) < 2147483648) ∧ Q (.inl (some (iv ((gI w4 169 21).tmod (gI w4 170 1))))) w4) ∧ ((x2.tmod 3) = 1 → (0 < (gI w4 170 1) ∧ (gI w4 170 1) < 2147483648) ∧ Q (.inl (some (iv ((gI w4 169 21).tdiv (gI w4 170 1))))) w4) ∧ (((x2.tmod 3) ≠ 0 ∧ (x2.tmod 3) ≠ 1) → (3 ≤ x2 → Q (.inl (some (iv (gI w4 169 23)))) w4) ∧ (x2 < 3 → Q (.inl (some (iv (gI w4 169 22)))) w4)))) ∧ (u5 ≤ x1 → Q (.inl (some (iv ((-1))))) w4)))) ∧ ((¬ (((0 : Int64)).toInt ≤ (i2L x2).toInt ∧ (i2L x2).toInt ≤ ((5 : Int64)).toInt)) → ∀ w12 : PW, w12 = sI w 169 0 1 → Q (.inl (some (iv 0))) w12)) : pX 284 0 [some (.ref 169), some (iv x1), some (iv x2), none] [] w Q :=
  w_f b284 d284_0 rfl rfl rfl <| w_f b284 d284_1 rfl rfl rfl <| w_f b284 d284_2 rfl rfl rfl <| w_f b284 d284_3 rfl rfl rfl <| w_ldcL b284 d284_4 rfl rfl <| w_cc b284 d284_7 rfl (pcl_s1 (n := 3) rfl rfl rfl (by decide +kernel) rfl rfl) rfl <| c221 hs <| w_ifneZ b284 d284_10 rfl rfl (p284 _ _) (fun c1 => w_f b284 d284_17 rfl rfl rfl <| w_cc b284 d284_18 rfl (pcl_v (n := 1) rfl rfl rfl (by decide +kernel) (sh_isOb hs (tlt 169 rfl) tbC_169) rfl rfl) rfl <| c245 hs ⟨by decide, by decide⟩ (by decide) <| w_ifeq b284 d284_21 rfl rfl (p284 _ _) ⟨by decide, by decide⟩ (fun _ => w_f b284 d284_26 rfl rfl rfl <| w_iflt b284 d284_27 rfl rfl (p284 _ _) hx1 (fun c3 => w_f b284 d284_39 rfl rfl rfl <| w_ri b284 d284_40 r284 (((h.1 c1) _ rfl).1 c3)) (fun c3 => w_f b284 d284_30 rfl rfl rfl <| w_f b284 d284_31 rfl rfl rfl <| w_c b284 d284_32 rfl (pcl_v (n := 1) rfl rfl rfl (by decide +kernel) (sh_isOb (Sh_sI hs (slt_o tbC_169 rfl)) (tlt 169 rfl) tbC_169) rfl rfl) rfl _ (hK_I fun u5 w4 hbu5 hkw4 => w_f b284 d284_35 rfl rfl rfl <| w_icgt b284 d284_36 rfl rfl (p284 _ _) hbu5 hx1 (fun c6 => w_f b284 d284_41 rfl rfl rfl <| w_f b284 d284_42 rfl rfl rfl <| w_icge b284 d284_43 rfl rfl (p284 _ _) hx2 ⟨by decide, by decide⟩ (fun c7 => w_f b284 d284_53 rfl rfl rfl <| w_gi b284 d284_54 rfl rfl hkw4.1 (tlt 169 rfl) tbC_169 rfl <| w_f b284 d284_57 rfl rfl rfl <| w_f b284 d284_58 rfl (pf_iadd _ 1) rfl <| w_f b284 d284_59 rfl rfl rfl <| w_f b284 d284_60 rfl rfl rfl <| w_f b284 d284_61 rfl rfl rfl <| w_f b284 d284_62 rfl (pf_irem hx2 ⟨by decide, by decide⟩) rfl <| Decidable.byCases (p := (x2.tmod 3) = 0) (fun c8 => w_lsw (off := 25) b284 d284_63 rfl (p284 _ _) ((hkw4.2.1 c6).1 c7).1 (by decide +kernel) (by rw [c8]; decide +kernel) <| w_f b284 d284_88 rfl rfl rfl <| w_f b284 d284_89 rfl rfl rfl <| w_gr b284 d284_90 rfl rfl hkw4.1 (tlt 169 rfl) tbC_169 rfl (by decide) <| w_f b284 d284_93 rfl rfl rfl <| w_ial b284 d284_94 rfl hkw4.1 (tlt 170 rfl) tbC_170 (bdix (n := 843) ⟨by decide, by decide⟩ rfl) ⟨by decide, by decide⟩ <| w_f b284 d284_95 rfl (pf_irem (((hkw4.2.1 c6).1 c7).2.1 c8).1 (((hkw4.2.1 c6).1 c7).2.1 c8).2.1) rfl <| w_ri b284 d284_96 r284 (((hkw4.2.1 c6).1 c7).2.1 c8).2.2) (fun cn0 => Decidable.byCases (p := (x2.tmod 3) = 1) (fun c8 => w_lsw (off := 34) b284 d284_63 rfl (p284 _ _) ((hkw4.2.1 c6).1 c7).1 (by decide +kernel) (by rw [c8]; decide +kernel) <| w_f b284 d284_97 rfl rfl rfl <| w_f b284 d284_98 rfl rfl rfl <| w_gr b284 d284_99 rfl rfl hkw4.1 (tlt 169 rfl) tbC_169 rfl (by decide) <| w_f b284 d284_102 rfl rfl rfl <| w_ial b284 d284_103 rfl hkw4.1 (tlt 170 rfl) tbC_170 (bdix (n := 843) ⟨by decide, by decide⟩ rfl) ⟨by decide, by decide⟩ <| w_f b284 d284_104 rfl (pf_idiv (((hkw4.2.1 c6).1 c7).2.2.1 c8).1 (((hkw4.2.1 c6).1 c7).2.2.1 c8).2.1) rfl <| w_ri b284 d284_105 r284 (((hkw4.2.1 c6).1 c7).2.2.1 c8).2.2) (fun cn1 => w_lsw (off := 43) b284 d284_63 rfl (p284 _ _) ((hkw4.2.1 c6).1 c7).1 (by decide +kernel) (lsd2 cn0 cn1) <| have c8 := ⟨cn0, cn1⟩
  w_f b284 d284_106 rfl rfl rfl <| w_f b284 d284_107 rfl rfl rfl <| w_icge b284 d284_108 rfl rfl (p284 _ _) hx2 ⟨by decide, by decide⟩ (fun c9 => w_f b284 d284_118 rfl rfl rfl <| w_gi b284 d284_119 rfl rfl hkw4.1 (tlt 169 rfl) tbC_169 rfl <| w_ri b284 d284_122 r284 ((((hkw4.2.1 c6).1 c7).2.2.2 c8).1 c9)) (fun c9 => w_f b284 d284_111 rfl rfl rfl <| w_gi b284 d284_112 rfl rfl hkw4.1 (tlt 169 rfl) tbC_169 rfl <| w_j b284 d284_115 rfl (p284 _ _) <| w_ri b284 d284_122 r284 ((((hkw4.2.1 c6).1 c7).2.2.2 c8).2 c9))))) (fun c7 => w_f b284 d284_46 rfl rfl rfl <| w_gi b284 d284_47 rfl rfl hkw4.1 (tlt 169 rfl) tbC_169 rfl <| w_j b284 d284_50 rfl (p284 _ _) <| w_f b284 d284_59 rfl rfl rfl <| w_f b284 d284_60 rfl rfl rfl <| w_f b284 d284_61 rfl rfl rfl <| w_f b284 d284_62 rfl (pf_irem hx2 ⟨by decide, by decide⟩) rfl <| Decidable.byCases (p := (x2.tmod 3) = 0) (fun c10 => w_lsw (off := 25) b284 d284_63 rfl (p284 _ _) ((hkw4.2.1 c6).2 c7).1 (by decide +kernel) (by rw [c10]; decide +kernel) <| w_f b284 d284_88 rfl rfl rfl <| w_f b284 d284_89 rfl rfl rfl <| w_gr b284 d284_90 rfl rfl hkw4.1 (tlt 169 rfl) tbC_169 rfl (by decide) <| w_f b284 d284_93 rfl rfl rfl <| w_ial b284 d284_94 rfl hkw4.1 (tlt 170 rfl) tbC_170 (bdix (n := 843) ⟨by decide, by decide⟩ rfl) ⟨by decide, by decide⟩ <| w_f b284 d284_95 rfl (pf_irem (bd_gI _ _ _) (((hkw4.2.1 c6).2 c7).2.1 c10).1) rfl <| w_ri b284 d284_96 r284 (((hkw4.2.1 c6).2 c7).2.1 c10).2) (fun cn0 => Decidable.byCases (p := (x2.tmod 3) = 1) (fun c10 => w_lsw (off := 34) b284 d284_63 rfl (p284 _ _) ((hkw4.2.1 c6).2 c7).1 (by decide +kernel) (by rw [c10]; decide +kernel) <| w_f b284 d284_97 rfl rfl rfl <| w_f b284 d284_98 rfl rfl rfl <| w_gr b284 d284_99 rfl rfl hkw4.1 (tlt 169 rfl) tbC_169 rfl (by decide) <| w_f b284 d284_102 rfl rfl rfl <| w_ial b284 d284_103 rfl hkw4.1 (tlt 170 rfl) tbC_170 (bdix (n := 843) ⟨by decide, by decide⟩ rfl) ⟨by decide, by decide⟩ <| w_f b284 d284_104 rfl (pf_idiv (bd_gI _ _ _) (((hkw4.2.1 c6).2 c7).2.2.1 c10).1) rfl <| w_ri b284 d284_105 r284 (((hkw4.2.1 c6).2 c7).2.2.1 c10).2) (fun cn1 => w_lsw (off := 43) b284 d284_63 rfl (p284 _ _) ((hkw4.2.1 c6).2 c7).1 (by decide +kernel) (lsd2 cn0 cn1) <| have c10 := ⟨cn0, cn1⟩
  w_f b284 d284_106 rfl rfl rfl <| w_f b284 d284_107 rfl rfl rfl <| w_icge b284 d284_108 rfl rfl (p284 _ _) hx2 ⟨by decide, by decide⟩ (fun c11 => w_f b284 d284_118 rfl rfl rfl <| w_gi b284 d284_119 rfl rfl hkw4.1 (tlt 169 rfl) tbC_169 rfl <| w_ri b284 d284_122 r284 ((((hkw4.2.1 c6).2 c7).2.2.2 c10).1 c11)) (fun c11 => w_f b284 d284_111 rfl rfl rfl <| w_gi b284 d284_112 rfl rfl hkw4.1 (tlt 169 rfl) tbC_169 rfl <| w_j b284 d284_115 rfl (p284 _ _) <| w_ri b284 d284_122 r284 ((((hkw4.2.1 c6).2 c7).2.2.2 c10).2 c11)))))) (fun c6 => w_f b284 d284_39 rfl rfl rfl <| w_ri b284 d284_40 r284 (hkw4.2.2 c6))) (((h.1 c1) _ rfl).2 c3))) (fun c => absurd c (by decide))) (fun c1 => w_f b284 d284_13 rfl rfl rfl <| w_j b284 d284_14 rfl (p284 _ _) <| w_cc b284 d284_18 rfl (pcl_v (n := 1) rfl rfl rfl (by decide +kernel) (sh_isOb hs (tlt 169 rfl) tbC_169) rfl rfl) rfl <| c245 hs ⟨by decide, by decide⟩ (by decide) <| w_ifeq b284 d284_21 rfl rfl (p284 _ _) ⟨by decide, by decide⟩ (fun c => absurd c (by decide)) (fun _ => w_f b284 d284_24 rfl rfl rfl <| w_ri b284 d284_25 r284 ((h.2 c1) _ rfl)))
theorem e284 {w : PW} {Q : PO → PW → Prop} {x1 : Int} {x2 : Int} (hs : Sh w) (hx1 : bd x1) (hx2 : bd x2) (h : ((((0 : Int64)).toInt ≤ (i2L x2).toInt ∧ (i2L x2).toInt ≤ ((5 : Int64)).toInt) → ∀ w2 : PW, w2 = sI w 169 0 0 → (x1 < 0 → Q (.inl (some (iv ((-1))))) w2) ∧ (0 ≤ x1 → pC 255 [.ref 169, iv x1] w2 (kI fun u5 w4 => Sh w4 ∧ (x1 < u5 → (3 ≤ x2 → (bd (x2.tmod 3)) ∧ ((x2.tmod 3) = 0 → (bd ((gI w4 169 21) + 1)) ∧ (0 < (gI w4 170 1) ∧ (gI w4 170 1) < 2147483648) ∧ Q (.inl (some (iv (((gI w4 169 21) + 1).tmod (gI w4 170 1))))) w4) ∧ ((x2.tmod 3) = 1 → (bd ((gI w4 169 21) + 1)) ∧ (0 < (gI w4 170 1) ∧ (gI w4 170 1) < 2147483648) ∧ Q (.inl (some (iv (((gI w4 169 21) + 1).tdiv (gI w4 170 1))))) w4) ∧ (((x2.tmod 3) ≠ 0 ∧ (x2.tmod 3) ≠ 1) → (3 ≤ x2 → Q (.inl (some (iv (gI w4 169 23)))) w4) ∧ (x2 < 3 → Q (.inl (some (iv (gI w4 169 22)))) w4))) ∧ (x2 < 3 → (bd (x2.tmod 3)) ∧ ((x2.tmod 3) = 0 → (0 < (gI w4 170 1) ∧ (gI w4 170 1) < 2147483648) ∧ Q (.inl (some (iv ((gI w4 169 21).tmod (gI w4 170 1))))) w4) ∧ ((x2.tmod 3) = 1 → (0 < (gI w4 170 1) ∧ (gI w4 170 1) < 2147483648) ∧ Q (.inl (some (iv ((gI w4 169 21).tdiv (gI w4 170 1))))) w4) ∧ (((x2.tmod 3) ≠ 0 ∧ (x2.tmod 3) ≠ 1) → (3 ≤ x2 → Q (.inl (some (iv (gI w4 169 23)))) w4) ∧ (x2 < 3 → Q (.inl (some (iv (gI w4 169 22)))) w4)))) ∧ (u5 ≤ x1 → Q (.inl (some (iv ((-1))))) w4)))) ∧ ((¬ (((0 : Int64)).toInt ≤ (i2L x2).toInt ∧ (i2L x2).toInt ≤ ((5 : Int64)).toInt)) → ∀ w12 : PW, w12 = sI w 169 0 1 → Q (.inl (some (iv 0))) w12)) : pC 284 [.ref 169, iv x1, iv x2] w Q :=
  (pC_in (Nat.le_of_ble_eq_true rfl) rfl Q).mpr (v284_0 hs hx1 hx2 h)
/-! 290: PinBarrelModel.collidesAbove(I)Z -/
theorem b290 : mB 290 = cX9_collidesAbove := rfl
theorem r290 : mR 290 = (some .boolean) := rfl
theorem p290 (a b : Nat) : phi 290 a ≤ phi 290 b := Nat.le_refl 0
theorem d290_0 : decode cX9_collidesAbove 0 = .ok (.iconst 0, 1) := by decide +kernel
theorem d290_1 : decode cX9_collidesAbove 1 = .ok (.istore_n 2, 1) := by decide +kernel
theorem d290_2 : decode cX9_collidesAbove 2 = .ok (.iload_n 2, 1) := by decide +kernel
theorem d290_3 : decode cX9_collidesAbove 3 = .ok (.aload_n 0, 1) := by decide +kernel
theorem d290_4 : decode cX9_collidesAbove 4 = .ok (.getfield 9, 3) := by decide +kernel
theorem d290_7 : decode cX9_collidesAbove 7 = .ok (.iconst 0, 1) := by decide +kernel
theorem d290_8 : decode cX9_collidesAbove 8 = .ok (.iaload, 1) := by decide +kernel
theorem d290_9 : decode cX9_collidesAbove 9 = .ok (.if_icmp .ge 67, 3) := by decide +kernel
theorem d290_12 : decode cX9_collidesAbove 12 = .ok (.aload_n 0, 1) := by decide +kernel
theorem d290_13 : decode cX9_collidesAbove 13 = .ok (.iload_n 1, 1) := by decide +kernel
theorem d290_14 : decode cX9_collidesAbove 14 = .ok (.iload_n 2, 1) := by decide +kernel
theorem d290_15 : decode cX9_collidesAbove 15 = .ok (.invokevirtual 262, 3) := by decide +kernel
theorem d290_18 : decode cX9_collidesAbove 18 = .ok (.ifCond .ne 6, 3) := by decide +kernel
theorem d290_21 : decode cX9_collidesAbove 21 = .ok (.goto 49, 3) := by decide +kernel
theorem d290_24 : decode cX9_collidesAbove 24 = .ok (.iconst 0, 1) := by decide +kernel
theorem d290_25 : decode cX9_collidesAbove 25 = .ok (.istore_n 3, 1) := by decide +kernel
theorem d290_26 : decode cX9_collidesAbove 26 = .ok (.iload_n 3, 1) := by decide +kernel
theorem d290_27 : decode cX9_collidesAbove 27 = .ok (.aload_n 0, 1) := by decide +kernel
theorem d290_28 : decode cX9_collidesAbove 28 = .ok (.getfield 9, 3) := by decide +kernel
theorem d290_31 : decode cX9_collidesAbove 31 = .ok (.iconst 0, 1) := by decide +kernel
theorem d290_32 : decode cX9_collidesAbove 32 = .ok (.iaload, 1) := by decide +kernel
theorem d290_33 : decode cX9_collidesAbove 33 = .ok (.if_icmp .ge 37, 3) := by decide +kernel
theorem d290_36 : decode cX9_collidesAbove 36 = .ok (.aload_n 0, 1) := by decide +kernel
theorem d290_37 : decode cX9_collidesAbove 37 = .ok (.iload_n 1, 1) := by decide +kernel
theorem d290_38 : decode cX9_collidesAbove 38 = .ok (.iconst 1, 1) := by decide +kernel
theorem d290_39 : decode cX9_collidesAbove 39 = .ok (.iadd, 1) := by decide +kernel
theorem d290_40 : decode cX9_collidesAbove 40 = .ok (.iload_n 3, 1) := by decide +kernel
theorem d290_41 : decode cX9_collidesAbove 41 = .ok (.invokevirtual 262, 3) := by decide +kernel
theorem d290_44 : decode cX9_collidesAbove 44 = .ok (.ifCond .eq 20, 3) := by decide +kernel
theorem d290_47 : decode cX9_collidesAbove 47 = .ok (.aload_n 0, 1) := by decide +kernel
theorem d290_48 : decode cX9_collidesAbove 48 = .ok (.iload_n 2, 1) := by decide +kernel
theorem d290_49 : decode cX9_collidesAbove 49 = .ok (.iload_n 3, 1) := by decide +kernel
theorem d290_50 : decode cX9_collidesAbove 50 = .ok (.aload_n 0, 1) := by decide +kernel
theorem d290_51 : decode cX9_collidesAbove 51 = .ok (.getfield 9, 3) := by decide +kernel
theorem d290_54 : decode cX9_collidesAbove 54 = .ok (.iconst 2, 1) := by decide +kernel
theorem d290_55 : decode cX9_collidesAbove 55 = .ok (.iaload, 1) := by decide +kernel
theorem d290_56 : decode cX9_collidesAbove 56 = .ok (.invokevirtual 265, 3) := by decide +kernel
theorem d290_59 : decode cX9_collidesAbove 59 = .ok (.ifCond .eq 5, 3) := by decide +kernel
theorem d290_62 : decode cX9_collidesAbove 62 = .ok (.iconst 1, 1) := by decide +kernel
theorem d290_63 : decode cX9_collidesAbove 63 = .ok (.ireturn, 1) := by decide +kernel
theorem d290_64 : decode cX9_collidesAbove 64 = .ok (.iinc 3 1, 3) := by decide +kernel
theorem d290_67 : decode cX9_collidesAbove 67 = .ok (.goto (-41), 3) := by decide +kernel
theorem d290_70 : decode cX9_collidesAbove 70 = .ok (.iinc 2 1, 3) := by decide +kernel
theorem d290_73 : decode cX9_collidesAbove 73 = .ok (.goto (-71), 3) := by decide +kernel
theorem d290_76 : decode cX9_collidesAbove 76 = .ok (.iconst 0, 1) := by decide +kernel
theorem d290_77 : decode cX9_collidesAbove 77 = .ok (.ireturn, 1) := by decide +kernel
theorem v290_0 {w : PW} {Q : PO → PW → Prop} {x1 : Int} (hs : Sh w) (hx1 : bd x1) (h : pX 290 2 [some (.ref 169), some (iv x1), some (iv 0), none] [] w Q) : pX 290 0 [some (.ref 169), some (iv x1), none, none] [] w Q :=
  w_f b290 d290_0 rfl rfl rfl <| w_f b290 d290_1 rfl rfl rfl <| h
theorem e290 {w : PW} {Q : PO → PW → Prop} {x1 : Int} (hs : Sh w) (hx1 : bd x1) (h : pX 290 2 [some (.ref 169), some (iv x1), some (iv 0), none] [] w Q) : pC 290 [.ref 169, iv x1] w Q :=
  (pC_in (Nat.le_of_ble_eq_true rfl) rfl Q).mpr (v290_0 hs hx1 h)
theorem v290_2 {w : PW} {Q : PO → PW → Prop} {x1 : Int} {x2 : Int} {o3 : Option Value} (hs : Sh w) (hx1 : bd x1) (hx2 : bd x2) (ho3 : pc2 o3 = false) (h : ((gI w 170 0) ≤ x2 → Q (.inl (some (iv 0))) w) ∧ (x2 < (gI w 170 0) → (1 ≤ gI w 170 1 ∧ gI w 170 1 ≤ 3) ∧ (0 ≤ x1 ∧ x1 < 12 * gI w 170 1) ∧ (0 ≤ x2 ∧ x2 < 64) ∧ ((mOn w x1 x2 = true) → pX 290 26 [some (.ref 169), some (iv x1), some (iv x2), some (iv 0)] [] w Q) ∧ ((¬ (mOn w x1 x2 = true)) → pX 290 2 [some (.ref 169), some (iv x1), some (iv (x2 + 1)), o3] [] w Q))) : pX 290 2 [some (.ref 169), some (iv x1), some (iv x2), o3] [] w Q :=
  w_f b290 d290_2 rfl rfl rfl <| w_f b290 d290_3 rfl rfl rfl <| w_gr b290 d290_4 rfl rfl hs (tlt 169 rfl) tbC_169 rfl (by decide) <| w_f b290 d290_7 rfl rfl rfl <| w_ial b290 d290_8 rfl hs (tlt 170 rfl) tbC_170 (bdix (n := 843) ⟨by decide, by decide⟩ rfl) ⟨by decide, by decide⟩ <| w_icge b290 d290_9 rfl rfl (p290 _ _) hx2 (bd_gI _ _ _) (fun c1 => w_f b290 d290_76 rfl rfl rfl <| w_rz b290 d290_77 r290 (by decide) (h.1 c1)) (fun c1 => w_f b290 d290_12 rfl rfl rfl <| w_f b290 d290_13 rfl rfl rfl <| w_f b290 d290_14 rfl rfl rfl <| w_cc b290 d290_15 rfl (pcl_v (n := 2) rfl rfl rfl (by decide +kernel) (sh_isOb hs (tlt 169 rfl) tbC_169) rfl rfl) rfl <| c252 hs hx1 hx2 (h.2 c1).1 (h.2 c1).2.1 (h.2 c1).2.2.1 <| w_ifneZ b290 d290_18 rfl rfl (p290 _ _) (fun c2 => w_f b290 d290_24 rfl rfl rfl <| w_f b290 d290_25 rfl rfl rfl <| ((h.2 c1).2.2.2.1 c2)) (fun c2 => w_j b290 d290_21 rfl (p290 _ _) <| w_f b290 d290_70 rfl (pf_iinc rfl rfl) rfl <| w_j b290 d290_73 rfl (p290 _ _) <| ((h.2 c1).2.2.2.2 c2)))
theorem v290_26 {w : PW} {Q : PO → PW → Prop} {x1 : Int} {x2 : Int} {x3 : Int} (hs : Sh w) (hx1 : bd x1) (hx2 : bd x2) (hx3 : bd x3) (h : ((gI w 170 0) ≤ x3 → pX 290 2 [some (.ref 169), some (iv x1), some (iv (x2 + 1)), some (iv x3)] [] w Q) ∧ (x3 < (gI w 170 0) → (bd (x1 + 1)) ∧ (1 ≤ gI w 170 1 ∧ gI w 170 1 ≤ 3) ∧ (0 ≤ (x1 + 1) ∧ (x1 + 1) < 12 * gI w 170 1) ∧ (0 ≤ x3 ∧ x3 < 64) ∧ ((¬ (mOn w (x1 + 1) x3 = true)) → pX 290 26 [some (.ref 169), some (iv x1), some (iv x2), some (iv (x3 + 1))] [] w Q) ∧ ((mOn w (x1 + 1) x3 = true) → (0 < gI w 170 0 ∧ gI w 170 0 ≤ 64) ∧ (0 ≤ x2 ∧ x2 < gI w 170 0) ∧ (0 ≤ x3 ∧ x3 < gI w 170 0) ∧ ((¬ (nearI (gI w 170 0) x2 x3 (gI w 170 2) = true)) → pX 290 26 [some (.ref 169), some (iv x1), some (iv x2), some (iv (x3 + 1))] [] w Q) ∧ ((nearI (gI w 170 0) x2 x3 (gI w 170 2) = true) → Q (.inl (some (iv 1))) w)))) : pX 290 26 [some (.ref 169), some (iv x1), some (iv x2), some (iv x3)] [] w Q :=
  w_f b290 d290_26 rfl rfl rfl <| w_f b290 d290_27 rfl rfl rfl <| w_gr b290 d290_28 rfl rfl hs (tlt 169 rfl) tbC_169 rfl (by decide) <| w_f b290 d290_31 rfl rfl rfl <| w_ial b290 d290_32 rfl hs (tlt 170 rfl) tbC_170 (bdix (n := 843) ⟨by decide, by decide⟩ rfl) ⟨by decide, by decide⟩ <| w_icge b290 d290_33 rfl rfl (p290 _ _) hx3 (bd_gI _ _ _) (fun c1 => w_f b290 d290_70 rfl (pf_iinc rfl rfl) rfl <| w_j b290 d290_73 rfl (p290 _ _) <| (h.1 c1)) (fun c1 => w_f b290 d290_36 rfl rfl rfl <| w_f b290 d290_37 rfl rfl rfl <| w_f b290 d290_38 rfl rfl rfl <| w_f b290 d290_39 rfl (pf_iadd x1 1) rfl <| w_f b290 d290_40 rfl rfl rfl <| w_cc b290 d290_41 rfl (pcl_v (n := 2) rfl rfl rfl (by decide +kernel) (sh_isOb hs (tlt 169 rfl) tbC_169) rfl rfl) rfl <| c252 hs (h.2 c1).1 hx3 (h.2 c1).2.1 (h.2 c1).2.2.1 (h.2 c1).2.2.2.1 <| w_ifeqZ b290 d290_44 rfl rfl (p290 _ _) (fun c2 => w_f b290 d290_64 rfl (pf_iinc rfl rfl) rfl <| w_j b290 d290_67 rfl (p290 _ _) <| ((h.2 c1).2.2.2.2.1 c2)) (fun c2 => w_f b290 d290_47 rfl rfl rfl <| w_f b290 d290_48 rfl rfl rfl <| w_f b290 d290_49 rfl rfl rfl <| w_f b290 d290_50 rfl rfl rfl <| w_gr b290 d290_51 rfl rfl hs (tlt 169 rfl) tbC_169 rfl (by decide) <| w_f b290 d290_54 rfl rfl rfl <| w_ial b290 d290_55 rfl hs (tlt 170 rfl) tbC_170 (bdix (n := 843) ⟨by decide, by decide⟩ rfl) ⟨by decide, by decide⟩ <| w_cc b290 d290_56 rfl (pcl_v (n := 3) rfl rfl rfl (by decide +kernel) (sh_isOb hs (tlt 169 rfl) tbC_169) rfl rfl) rfl <| c254 hs hx2 hx3 (bd_gI _ _ _) ((h.2 c1).2.2.2.2.2 c2).1 ((h.2 c1).2.2.2.2.2 c2).2.1 ((h.2 c1).2.2.2.2.2 c2).2.2.1 <| w_ifeqZ b290 d290_59 rfl rfl (p290 _ _) (fun c3 => w_f b290 d290_64 rfl (pf_iinc rfl rfl) rfl <| w_j b290 d290_67 rfl (p290 _ _) <| (((h.2 c1).2.2.2.2.2 c2).2.2.2.1 c3)) (fun c3 => w_f b290 d290_62 rfl rfl rfl <| w_rz b290 d290_63 r290 (by decide) (((h.2 c1).2.2.2.2.2 c2).2.2.2.2 c3))))
/-! 291: PinBarrelModel.collides(I)Z -/
theorem b291 : mB 291 = cX9_collides := rfl
theorem r291 : mR 291 = (some .boolean) := rfl
theorem p291 (a b : Nat) : phi 291 a ≤ phi 291 b := Nat.le_refl 0
theorem d291_0 : decode cX9_collides 0 = .ok (.iconst 0, 1) := by decide +kernel
theorem d291_1 : decode cX9_collides 1 = .ok (.istore_n 2, 1) := by decide +kernel
theorem d291_2 : decode cX9_collides 2 = .ok (.iload_n 2, 1) := by decide +kernel
theorem d291_3 : decode cX9_collides 3 = .ok (.iconst 1, 1) := by decide +kernel
theorem d291_4 : decode cX9_collides 4 = .ok (.iadd, 1) := by decide +kernel
theorem d291_5 : decode cX9_collides 5 = .ok (.aload_n 0, 1) := by decide +kernel
theorem d291_6 : decode cX9_collides 6 = .ok (.invokevirtual 259, 3) := by decide +kernel
theorem d291_9 : decode cX9_collides 9 = .ok (.if_icmp .ge 55, 3) := by decide +kernel
theorem d291_12 : decode cX9_collides 12 = .ok (.iload_n 2, 1) := by decide +kernel
theorem d291_13 : decode cX9_collides 13 = .ok (.aload_n 0, 1) := by decide +kernel
theorem d291_14 : decode cX9_collides 14 = .ok (.getfield 9, 3) := by decide +kernel
theorem d291_17 : decode cX9_collides 17 = .ok (.iconst 1, 1) := by decide +kernel
theorem d291_18 : decode cX9_collides 18 = .ok (.iaload, 1) := by decide +kernel
theorem d291_19 : decode cX9_collides 19 = .ok (.irem, 1) := by decide +kernel
theorem d291_20 : decode cX9_collides 20 = .ok (.iload_n 1, 1) := by decide +kernel
theorem d291_21 : decode cX9_collides 21 = .ok (.if_icmp .eq 17, 3) := by decide +kernel
theorem d291_24 : decode cX9_collides 24 = .ok (.iload_n 2, 1) := by decide +kernel
theorem d291_25 : decode cX9_collides 25 = .ok (.iconst 1, 1) := by decide +kernel
theorem d291_26 : decode cX9_collides 26 = .ok (.iadd, 1) := by decide +kernel
theorem d291_27 : decode cX9_collides 27 = .ok (.aload_n 0, 1) := by decide +kernel
theorem d291_28 : decode cX9_collides 28 = .ok (.getfield 9, 3) := by decide +kernel
theorem d291_31 : decode cX9_collides 31 = .ok (.iconst 1, 1) := by decide +kernel
theorem d291_32 : decode cX9_collides 32 = .ok (.iaload, 1) := by decide +kernel
theorem d291_33 : decode cX9_collides 33 = .ok (.irem, 1) := by decide +kernel
theorem d291_34 : decode cX9_collides 34 = .ok (.iload_n 1, 1) := by decide +kernel
theorem d291_35 : decode cX9_collides 35 = .ok (.if_icmp .ne 7, 3) := by decide +kernel
theorem d291_38 : decode cX9_collides 38 = .ok (.iconst 1, 1) := by decide +kernel
theorem d291_39 : decode cX9_collides 39 = .ok (.goto 4, 3) := by decide +kernel
theorem d291_42 : decode cX9_collides 42 = .ok (.iconst 0, 1) := by decide +kernel
theorem d291_43 : decode cX9_collides 43 = .ok (.istore_n 3, 1) := by decide +kernel
theorem d291_44 : decode cX9_collides 44 = .ok (.iload_n 3, 1) := by decide +kernel
theorem d291_45 : decode cX9_collides 45 = .ok (.ifCond .eq 13, 3) := by decide +kernel
theorem d291_48 : decode cX9_collides 48 = .ok (.aload_n 0, 1) := by decide +kernel
theorem d291_49 : decode cX9_collides 49 = .ok (.iload_n 2, 1) := by decide +kernel
theorem d291_50 : decode cX9_collides 50 = .ok (.invokevirtual 280, 3) := by decide +kernel
theorem d291_53 : decode cX9_collides 53 = .ok (.ifCond .eq 5, 3) := by decide +kernel
theorem d291_56 : decode cX9_collides 56 = .ok (.iconst 1, 1) := by decide +kernel
theorem d291_57 : decode cX9_collides 57 = .ok (.ireturn, 1) := by decide +kernel
theorem d291_58 : decode cX9_collides 58 = .ok (.iinc 2 1, 3) := by decide +kernel
theorem d291_61 : decode cX9_collides 61 = .ok (.goto (-59), 3) := by decide +kernel
theorem d291_64 : decode cX9_collides 64 = .ok (.iconst 0, 1) := by decide +kernel
theorem d291_65 : decode cX9_collides 65 = .ok (.ireturn, 1) := by decide +kernel
theorem v291_0 {w : PW} {Q : PO → PW → Prop} {x1 : Int} (hs : Sh w) (hx1 : bd x1) (h : pX 291 2 [some (.ref 169), some (iv x1), some (iv 0), none] [] w Q) : pX 291 0 [some (.ref 169), some (iv x1), none, none] [] w Q :=
  w_f b291 d291_0 rfl rfl rfl <| w_f b291 d291_1 rfl rfl rfl <| h
theorem e291 {w : PW} {Q : PO → PW → Prop} {x1 : Int} (hs : Sh w) (hx1 : bd x1) (h : pX 291 2 [some (.ref 169), some (iv x1), some (iv 0), none] [] w Q) : pC 291 [.ref 169, iv x1] w Q :=
  (pC_in (Nat.le_of_ble_eq_true rfl) rfl Q).mpr (v291_0 hs hx1 h)
theorem v291_2 {w : PW} {Q : PO → PW → Prop} {x1 : Int} {x2 : Int} {o3 : Option Value} (hs : Sh w) (hx1 : bd x1) (hx2 : bd x2) (ho3 : pc2 o3 = false) (h : (bd (x2 + 1)) ∧ (bd ((gI w 170 1) * (gI w 170 4))) ∧ (((gI w 170 1) * (gI w 170 4)) ≤ (x2 + 1) → Q (.inl (some (iv 0))) w) ∧ ((x2 + 1) < ((gI w 170 1) * (gI w 170 4)) → (0 < (gI w 170 1) ∧ (gI w 170 1) < 2147483648) ∧ (bd (x2.tmod (gI w 170 1))) ∧ ((x2.tmod (gI w 170 1)) = x1 → pC 290 [.ref 169, iv x2] w (kI fun u4 w3 => Sh w3 ∧ (u4 = 0 → pX 291 2 [some (.ref 169), some (iv x1), some (iv (x2 + 1)), some (iv 1)] [] w3 Q) ∧ (u4 ≠ 0 → Q (.inl (some (iv 1))) w3))) ∧ ((x2.tmod (gI w 170 1)) ≠ x1 → (bd (x2 + 1)) ∧ (0 < (gI w 170 1) ∧ (gI w 170 1) < 2147483648) ∧ (bd ((x2 + 1).tmod (gI w 170 1))) ∧ (((x2 + 1).tmod (gI w 170 1)) ≠ x1 → pX 291 2 [some (.ref 169), some (iv x1), some (iv (x2 + 1)), some (iv 0)] [] w Q) ∧ (((x2 + 1).tmod (gI w 170 1)) = x1 → pC 290 [.ref 169, iv x2] w (kI fun u8 w7 => Sh w7 ∧ (u8 = 0 → pX 291 2 [some (.ref 169), some (iv x1), some (iv (x2 + 1)), some (iv 1)] [] w7 Q) ∧ (u8 ≠ 0 → Q (.inl (some (iv 1))) w7)))))) : pX 291 2 [some (.ref 169), some (iv x1), some (iv x2), o3] [] w Q :=
  w_f b291 d291_2 rfl rfl rfl <| w_f b291 d291_3 rfl rfl rfl <| w_f b291 d291_4 rfl (pf_iadd x2 1) rfl <| w_f b291 d291_5 rfl rfl rfl <| w_cc b291 d291_6 rfl (pcl_v (n := 0) rfl rfl rfl (by decide +kernel) (sh_isOb hs (tlt 169 rfl) tbC_169) rfl rfl) rfl <| c249 hs <| w_icge b291 d291_9 rfl rfl (p291 _ _) h.1 h.2.1 (fun c1 => w_f b291 d291_64 rfl rfl rfl <| w_rz b291 d291_65 r291 (by decide) (h.2.2.1 c1)) (fun c1 => w_f b291 d291_12 rfl rfl rfl <| w_f b291 d291_13 rfl rfl rfl <| w_gr b291 d291_14 rfl rfl hs (tlt 169 rfl) tbC_169 rfl (by decide) <| w_f b291 d291_17 rfl rfl rfl <| w_ial b291 d291_18 rfl hs (tlt 170 rfl) tbC_170 (bdix (n := 843) ⟨by decide, by decide⟩ rfl) ⟨by decide, by decide⟩ <| w_f b291 d291_19 rfl (pf_irem hx2 (h.2.2.2 c1).1) rfl <| w_f b291 d291_20 rfl rfl rfl <| w_iceq b291 d291_21 rfl rfl (p291 _ _) (h.2.2.2 c1).2.1 hx1 (fun c2 => w_f b291 d291_38 rfl rfl rfl <| w_j b291 d291_39 rfl (p291 _ _) <| w_f b291 d291_43 rfl rfl rfl <| w_f b291 d291_44 rfl rfl rfl <| w_ifeq b291 d291_45 rfl rfl (p291 _ _) ⟨by decide, by decide⟩ (fun c => absurd c (by decide)) (fun _ => w_f b291 d291_48 rfl rfl rfl <| w_f b291 d291_49 rfl rfl rfl <| w_c b291 d291_50 rfl (pcl_v (n := 1) rfl rfl rfl (by decide +kernel) (sh_isOb hs (tlt 169 rfl) tbC_169) rfl rfl) rfl _ (hK_I fun u4 w3 hbu4 hkw3 => w_ifeq b291 d291_53 rfl rfl (p291 _ _) hbu4 (fun c5 => w_f b291 d291_58 rfl (pf_iinc rfl rfl) rfl <| w_j b291 d291_61 rfl (p291 _ _) <| (hkw3.2.1 c5)) (fun c5 => w_f b291 d291_56 rfl rfl rfl <| w_rz b291 d291_57 r291 (by decide) (hkw3.2.2 c5))) ((h.2.2.2 c1).2.2.1 c2))) (fun c2 => w_f b291 d291_24 rfl rfl rfl <| w_f b291 d291_25 rfl rfl rfl <| w_f b291 d291_26 rfl (pf_iadd x2 1) rfl <| w_f b291 d291_27 rfl rfl rfl <| w_gr b291 d291_28 rfl rfl hs (tlt 169 rfl) tbC_169 rfl (by decide) <| w_f b291 d291_31 rfl rfl rfl <| w_ial b291 d291_32 rfl hs (tlt 170 rfl) tbC_170 (bdix (n := 843) ⟨by decide, by decide⟩ rfl) ⟨by decide, by decide⟩ <| w_f b291 d291_33 rfl (pf_irem ((h.2.2.2 c1).2.2.2 c2).1 ((h.2.2.2 c1).2.2.2 c2).2.1) rfl <| w_f b291 d291_34 rfl rfl rfl <| w_icne b291 d291_35 rfl rfl (p291 _ _) ((h.2.2.2 c1).2.2.2 c2).2.2.1 hx1 (fun c6 => w_f b291 d291_42 rfl rfl rfl <| w_f b291 d291_43 rfl rfl rfl <| w_f b291 d291_44 rfl rfl rfl <| w_ifeq b291 d291_45 rfl rfl (p291 _ _) ⟨by decide, by decide⟩ (fun _ => w_f b291 d291_58 rfl (pf_iinc rfl rfl) rfl <| w_j b291 d291_61 rfl (p291 _ _) <| (((h.2.2.2 c1).2.2.2 c2).2.2.2.1 c6)) (fun c => absurd c (by decide))) (fun c6 => w_f b291 d291_38 rfl rfl rfl <| w_j b291 d291_39 rfl (p291 _ _) <| w_f b291 d291_43 rfl rfl rfl <| w_f b291 d291_44 rfl rfl rfl <| w_ifeq b291 d291_45 rfl rfl (p291 _ _) ⟨by decide, by decide⟩ (fun c => absurd c (by decide)) (fun _ => w_f b291 d291_48 rfl rfl rfl <| w_f b291 d291_49 rfl rfl rfl <| w_c b291 d291_50 rfl (pcl_v (n := 1) rfl rfl rfl (by decide +kernel) (sh_isOb hs (tlt 169 rfl) tbC_169) rfl rfl) rfl _ (hK_I fun u8 w7 hbu8 hkw7 => w_ifeq b291 d291_53 rfl rfl (p291 _ _) hbu8 (fun c9 => w_f b291 d291_58 rfl (pf_iinc rfl rfl) rfl <| w_j b291 d291_61 rfl (p291 _ _) <| (hkw7.2.1 c9)) (fun c9 => w_f b291 d291_56 rfl rfl rfl <| w_rz b291 d291_57 r291 (by decide) (hkw7.2.2 c9))) (((h.2.2.2 c1).2.2.2 c2).2.2.2.2 c6)))))
/-! 292: PinBarrelModel.isClean(I)Z -/
theorem b292 : mB 292 = cX9_isClean := rfl
theorem r292 : mR 292 = (some .boolean) := rfl
theorem p292 (a b : Nat) : phi 292 a ≤ phi 292 b := Nat.le_refl 0
theorem d292_0 : decode cX9_isClean 0 = .ok (.aload_n 0, 1) := by decide +kernel
theorem d292_1 : decode cX9_isClean 1 = .ok (.iload_n 1, 1) := by decide +kernel
theorem d292_2 : decode cX9_isClean 2 = .ok (.invokevirtual 377, 3) := by decide +kernel
theorem d292_5 : decode cX9_isClean 5 = .ok (.ifCond .eq 5, 3) := by decide +kernel
theorem d292_8 : decode cX9_isClean 8 = .ok (.iconst 0, 1) := by decide +kernel
theorem d292_9 : decode cX9_isClean 9 = .ok (.ireturn, 1) := by decide +kernel
theorem d292_10 : decode cX9_isClean 10 = .ok (.aload_n 0, 1) := by decide +kernel
theorem d292_11 : decode cX9_isClean 11 = .ok (.iload_n 1, 1) := by decide +kernel
theorem d292_12 : decode cX9_isClean 12 = .ok (.invokevirtual 295, 3) := by decide +kernel
theorem d292_15 : decode cX9_isClean 15 = .ok (.ifCond .ne 31, 3) := by decide +kernel
theorem d292_18 : decode cX9_isClean 18 = .ok (.aload_n 0, 1) := by decide +kernel
theorem d292_19 : decode cX9_isClean 19 = .ok (.iload_n 1, 1) := by decide +kernel
theorem d292_20 : decode cX9_isClean 20 = .ok (.invokevirtual 385, 3) := by decide +kernel
theorem d292_23 : decode cX9_isClean 23 = .ok (.ifCond .ne 23, 3) := by decide +kernel
theorem d292_26 : decode cX9_isClean 26 = .ok (.aload_n 0, 1) := by decide +kernel
theorem d292_27 : decode cX9_isClean 27 = .ok (.iload_n 1, 1) := by decide +kernel
theorem d292_28 : decode cX9_isClean 28 = .ok (.invokevirtual 380, 3) := by decide +kernel
theorem d292_31 : decode cX9_isClean 31 = .ok (.ifCond .ne 15, 3) := by decide +kernel
theorem d292_34 : decode cX9_isClean 34 = .ok (.aload_n 0, 1) := by decide +kernel
theorem d292_35 : decode cX9_isClean 35 = .ok (.iload_n 1, 1) := by decide +kernel
theorem d292_36 : decode cX9_isClean 36 = .ok (.invokevirtual 388, 3) := by decide +kernel
theorem d292_39 : decode cX9_isClean 39 = .ok (.ifCond .ne 7, 3) := by decide +kernel
theorem d292_42 : decode cX9_isClean 42 = .ok (.iconst 1, 1) := by decide +kernel
theorem d292_43 : decode cX9_isClean 43 = .ok (.goto 4, 3) := by decide +kernel
theorem d292_46 : decode cX9_isClean 46 = .ok (.iconst 0, 1) := by decide +kernel
theorem d292_47 : decode cX9_isClean 47 = .ok (.ireturn, 1) := by decide +kernel
theorem v292_0 {w : PW} {Q : PO → PW → Prop} {x1 : Int} (hs : Sh w) (hx1 : bd x1) (h : (bd ((gI w 170 1) - 1)) ∧ ((0 ≤ x1 ∧ x1 < gI w 170 1) → ∀ w2 : PW, w2 = sI w 169 0 0 → pC 285 [.ref 169, iv x1] w2 (kI fun u4 w3 => Sh w3 ∧ (u4 ≠ 0 → Q (.inl (some (iv 0))) w3) ∧ (u4 = 0 → pC 288 [.ref 169, iv x1] w3 (kI fun u7 w6 => Sh w6 ∧ (u7 ≠ 0 → Q (.inl (some (iv 0))) w6) ∧ (u7 = 0 → pC 281 [.ref 169, iv x1] w6 (kI fun u10 w9 => Sh w9 ∧ (u10 ≠ 0 → Q (.inl (some (iv 0))) w9) ∧ (u10 = 0 → pC 291 [.ref 169, iv x1] w9 (kI fun u13 w12 => Sh w12 ∧ (u13 ≠ 0 → Q (.inl (some (iv 0))) w12) ∧ (u13 = 0 → Q (.inl (some (iv 1))) w12))))))))) ∧ ((¬ (0 ≤ x1 ∧ x1 < gI w 170 1)) → ∀ w16 : PW, w16 = sI w 169 0 1 → Q (.inl (some (iv 0))) w16)) : pX 292 0 [some (.ref 169), some (iv x1)] [] w Q :=
  w_f b292 d292_0 rfl rfl rfl <| w_f b292 d292_1 rfl rfl rfl <| w_cc b292 d292_2 rfl (pcl_v (n := 1) rfl rfl rfl (by decide +kernel) (sh_isOb hs (tlt 169 rfl) tbC_169) rfl rfl) rfl <| c275 hs hx1 h.1 (fun c1 => w_ifeq b292 d292_5 rfl rfl (p292 _ _) ⟨by decide, by decide⟩ (fun _ => w_f b292 d292_10 rfl rfl rfl <| w_f b292 d292_11 rfl rfl rfl <| w_c b292 d292_12 rfl (pcl_v (n := 1) rfl rfl rfl (by decide +kernel) (sh_isOb (Sh_sI hs (slt_o tbC_169 rfl)) (tlt 169 rfl) tbC_169) rfl rfl) rfl _ (hK_I fun u4 w3 hbu4 hkw3 => w_ifne b292 d292_15 rfl rfl (p292 _ _) hbu4 (fun c5 => w_f b292 d292_46 rfl rfl rfl <| w_rz b292 d292_47 r292 (by decide) (hkw3.2.1 c5)) (fun c5 => w_f b292 d292_18 rfl rfl rfl <| w_f b292 d292_19 rfl rfl rfl <| w_c b292 d292_20 rfl (pcl_v (n := 1) rfl rfl rfl (by decide +kernel) (sh_isOb hkw3.1 (tlt 169 rfl) tbC_169) rfl rfl) rfl _ (hK_I fun u7 w6 hbu7 hkw6 => w_ifne b292 d292_23 rfl rfl (p292 _ _) hbu7 (fun c8 => w_f b292 d292_46 rfl rfl rfl <| w_rz b292 d292_47 r292 (by decide) (hkw6.2.1 c8)) (fun c8 => w_f b292 d292_26 rfl rfl rfl <| w_f b292 d292_27 rfl rfl rfl <| w_c b292 d292_28 rfl (pcl_v (n := 1) rfl rfl rfl (by decide +kernel) (sh_isOb hkw6.1 (tlt 169 rfl) tbC_169) rfl rfl) rfl _ (hK_I fun u10 w9 hbu10 hkw9 => w_ifne b292 d292_31 rfl rfl (p292 _ _) hbu10 (fun c11 => w_f b292 d292_46 rfl rfl rfl <| w_rz b292 d292_47 r292 (by decide) (hkw9.2.1 c11)) (fun c11 => w_f b292 d292_34 rfl rfl rfl <| w_f b292 d292_35 rfl rfl rfl <| w_c b292 d292_36 rfl (pcl_v (n := 1) rfl rfl rfl (by decide +kernel) (sh_isOb hkw9.1 (tlt 169 rfl) tbC_169) rfl rfl) rfl _ (hK_I fun u13 w12 hbu13 hkw12 => w_ifne b292 d292_39 rfl rfl (p292 _ _) hbu13 (fun c14 => w_f b292 d292_46 rfl rfl rfl <| w_rz b292 d292_47 r292 (by decide) (hkw12.2.1 c14)) (fun c14 => w_f b292 d292_42 rfl rfl rfl <| w_j b292 d292_43 rfl (p292 _ _) <| w_rz b292 d292_47 r292 (by decide) (hkw12.2.2 c14))) (hkw9.2.2 c11))) (hkw6.2.2 c8))) (hkw3.2.2 c5))) (h.2.1 c1 _ rfl)) (fun c => absurd c (by decide))) (fun c15 => w_ifeq b292 d292_5 rfl rfl (p292 _ _) ⟨by decide, by decide⟩ (fun c => absurd c (by decide)) (fun _ => w_f b292 d292_8 rfl rfl rfl <| w_rz b292 d292_9 r292 (by decide) (h.2.2 c15 _ rfl)))
theorem e292 {w : PW} {Q : PO → PW → Prop} {x1 : Int} (hs : Sh w) (hx1 : bd x1) (h : (bd ((gI w 170 1) - 1)) ∧ ((0 ≤ x1 ∧ x1 < gI w 170 1) → ∀ w2 : PW, w2 = sI w 169 0 0 → pC 285 [.ref 169, iv x1] w2 (kI fun u4 w3 => Sh w3 ∧ (u4 ≠ 0 → Q (.inl (some (iv 0))) w3) ∧ (u4 = 0 → pC 288 [.ref 169, iv x1] w3 (kI fun u7 w6 => Sh w6 ∧ (u7 ≠ 0 → Q (.inl (some (iv 0))) w6) ∧ (u7 = 0 → pC 281 [.ref 169, iv x1] w6 (kI fun u10 w9 => Sh w9 ∧ (u10 ≠ 0 → Q (.inl (some (iv 0))) w9) ∧ (u10 = 0 → pC 291 [.ref 169, iv x1] w9 (kI fun u13 w12 => Sh w12 ∧ (u13 ≠ 0 → Q (.inl (some (iv 0))) w12) ∧ (u13 = 0 → Q (.inl (some (iv 1))) w12))))))))) ∧ ((¬ (0 ≤ x1 ∧ x1 < gI w 170 1)) → ∀ w16 : PW, w16 = sI w 169 0 1 → Q (.inl (some (iv 0))) w16)) : pC 292 [.ref 169, iv x1] w Q :=
  (pC_in (Nat.le_of_ble_eq_true rfl) rfl Q).mpr (v292_0 hs hx1 h)
theorem sCo1_2 {m : Row} {x s z : Nat} (hz : z < 64) : sCo1 m x (64 * s + z) = (rTr m x s && (rTr m (x + 1) z && nearI (m 0) s z (m 2))) := by
  unfold sCo1
  exact prP_at hz
theorem l278_17 {w : PW} {Q : PO → PW → Prop} {u : Nat} {m : Row} (hs : Sh w) (hM : MR w m) (hu : (u : Int) < m 1) (h : Q (.inl (some (iv (sFullA m u (m 0).toNat).1))) w) : ∀ k i : Nat, i + k = (m 0).toNat → ∀ o5 : Option Value, pc2 o5 = false → pX 278 17 [some (.ref 169), some (iv (u : Nat)), some (iv (sFullA m u i).1), some (iv (sFullA m u i).2), some (iv (i : Nat)), o5] [] w Q := by
  have h0 := hM.ok.s
  have h1 := hM.ok.u
  have h4 := hM.ok.t
  intro k
  induction k with
  | zero =>
    intro i hi o5 ho
    have hb := sFullA_bd m u i
    refine v278_17 hs (bdk (by omega)) ⟨by omega, by omega⟩ (bdk (by omega)) (bdk (by omega)) ho ?_
    rw [hM.g (k := 0) rfl]
    refine ⟨fun _ => ?_, fun q => by omega⟩
    rw [show (m 0).toNat = i from by omega] at h
    exact h
  | succ k ih =>
    intro i hi o5 ho
    have hb := sFullA_bd m u i
    have hS : (i : Int) < m 0 := by omega
    refine v278_17 hs (bdk (by omega)) ⟨by omega, by omega⟩ (bdk (by omega)) (bdk (by omega)) ho ?_
    rw [hM.g (k := 0) rfl, hM.pin (by omega) (by omega), set_cnt hM.ok hu hS (k := 12) (by omega)]
    refine ⟨fun q => by omega, fun _ => ⟨⟨by omega, by omega⟩, fun q => ?_, fun q => ?_⟩⟩
    · have e : sFullA m u (i + 1) = ((i : Int), cnt (fun t => rPin m u i t) (m 4).toNat) := if_pos (by omega)
      have := ih (i + 1) (by omega) (some (iv (cnt (fun t => rPin m u i t) (m 4).toNat : Nat))) rfl
      rw [e] at this
      exact this
    · have e : sFullA m u (i + 1) = sFullA m u i := if_neg (by omega)
      have := ih (i + 1) (by omega) (some (iv (cnt (fun t => rPin m u i t) (m 4).toNat : Nat))) rfl
      rw [e] at this
      exact this
theorem l290_26 {w : PW} {Q : PO → PW → Prop} {x s : Nat} {m : Row} (hs : Sh w) (hM : MR w m) (hx : x + 1 < (m 1).toNat * (m 4).toNat) (hS : (s : Int) < m 0) (hon : rTr m x s = true) (h1 : 0 < cnt (sCo1 m x) 4096 → Q (.inl (some (iv 1))) w) (h : cnt (sCo1 m x) (64 * (s + 1)) = 0 → pX 290 2 [some (.ref 169), some (iv (x : Nat)), some (iv ((s : Int) + 1)), some (iv (m 0))] [] w Q) : ∀ k i : Nat, i + k = (m 0).toNat → cnt (sCo1 m x) (64 * s + i) = 0 → pX 290 26 [some (.ref 169), some (iv (x : Nat)), some (iv (s : Nat)), some (iv (i : Nat))] [] w Q := by
  have g0 := hM.ok.s
  have g1 := hM.ok.u
  have g4 := hM.ok.t
  have hut := UT_le hM.ok
  have h12 : (m 1).toNat * (m 4).toNat ≤ (m 1).toNat * 12 := Nat.mul_le_mul_left _ (by omega)
  intro k
  induction k with
  | zero =>
    intro i hi hinv
    refine v290_26 hs (bdk (by omega)) (bdk (by omega)) (bdk (by omega)) ?_
    rw [hM.g (k := 0) rfl]
    refine ⟨fun _ => ?_, fun q => by omega⟩
    have e : cnt (sCo1 m x) (64 * s + i) = cnt (sCo1 m x) (64 * (s + 1)) := cnt_gap (by omega) (fun j h2 h3 => by
      rw [show j = 64 * s + (j - 64 * s) from by omega, sCo1_2 (by omega), rTr_no (j := x + 1) (Or.inr (by omega)), Bool.false_and, Bool.and_false])
    have := h (by rw [← e]; exact hinv)
    rw [show m 0 = (i : Nat) from by omega] at this
    exact this
  | succ k ih =>
    intro i hi hinv
    have hp := sCo1_2 (m := m) (x := x) (s := s) (z := i) (by omega)
    have e1 : (x : Int) + 1 = ((x + 1 : Nat) : Int) := rfl
    have hno : sCo1 m x (64 * s + i) = false → pX 290 26 [some (.ref 169), some (iv (x : Nat)), some (iv (s : Nat)), some (iv ((i : Int) + 1))] [] w Q := fun q => ih (i + 1) (by omega) (by
      rw [show 64 * s + (i + 1) = 64 * s + i + 1 from rfl, cnt_f q]
      exact hinv)
    refine v290_26 hs (bdk (by omega)) (bdk (by omega)) (bdk (by omega)) ?_
    rw [hM.g (k := 0) rfl, hM.g (k := 1) rfl, hM.g (k := 2) rfl, e1, mOn_tr hM hx (by omega)]
    refine ⟨fun q => by omega, fun _ => ⟨bdk (by omega), by omega, ⟨by omega, by omega⟩, ⟨by omega, by omega⟩, fun q => hno ?_, fun q => ⟨⟨by omega, by omega⟩, ⟨by omega, hS⟩, ⟨by omega, by omega⟩, fun q2 => hno ?_, fun q2 => h1 (cnt_pos (i := 64 * s + i) (by omega) ?_)⟩⟩⟩
    · rw [hp, Bool.eq_false_iff.mpr q, Bool.false_and, Bool.and_false]
    · rw [hp, Bool.eq_false_iff.mpr q2, Bool.and_false, Bool.and_false]
    · rw [hp, hon, q, q2]; rfl
theorem l290_2 {w : PW} {Q : PO → PW → Prop} {x : Nat} {m : Row} (hs : Sh w) (hM : MR w m) (hx : x + 1 < (m 1).toNat * (m 4).toNat) (h1 : 0 < cnt (sCo1 m x) 4096 → Q (.inl (some (iv 1))) w) (h : cnt (sCo1 m x) 4096 = 0 → Q (.inl (some (iv 0))) w) : ∀ k i : Nat, i + k = (m 0).toNat → cnt (sCo1 m x) (64 * i) = 0 → ∀ o3 : Option Value, pc2 o3 = false → pX 290 2 [some (.ref 169), some (iv (x : Nat)), some (iv (i : Nat)), o3] [] w Q := by
  have g0 := hM.ok.s
  have g1 := hM.ok.u
  have g4 := hM.ok.t
  have hut := UT_le hM.ok
  have h12 : (m 1).toNat * (m 4).toNat ≤ (m 1).toNat * 12 := Nat.mul_le_mul_left _ (by omega)
  intro k
  induction k with
  | zero =>
    intro i hi hinv o3 ho
    refine v290_2 hs (bdk (by omega)) (bdk (by omega)) ho ?_
    rw [hM.g (k := 0) rfl]
    refine ⟨fun _ => h ?_, fun q => by omega⟩
    have e : cnt (sCo1 m x) (64 * i) = cnt (sCo1 m x) 4096 := cnt_gap (by omega) (fun j h2 h3 => by
      rw [show j = 64 * (j / 64) + j % 64 from by omega, sCo1_2 (by omega), rTr_no (j := x) (Or.inr (by omega)), Bool.false_and])
    rw [← e]
    exact hinv
  | succ k ih =>
    intro i hi hinv o3 ho
    refine v290_2 hs (bdk (by omega)) (bdk (by omega)) ho ?_
    rw [hM.g (k := 0) rfl, hM.g (k := 1) rfl, mOn_tr hM (by omega) (by omega)]
    refine ⟨fun q => by omega, fun _ => ⟨by omega, ⟨by omega, by omega⟩, ⟨by omega, by omega⟩, fun q => ?_, fun q => ?_⟩⟩
    · exact l290_26 hs hM hx (by omega) q h1 (fun z => ih (i + 1) (by omega) z (some (iv (m 0))) rfl) (m 0).toNat 0 (Nat.zero_add _) hinv
    · refine ih (i + 1) (by omega) ?_ o3 ho
      have e : cnt (sCo1 m x) (64 * i) = cnt (sCo1 m x) (64 * (i + 1)) := cnt_gap (by omega) (fun j h2 h3 => by
        rw [show j = 64 * i + (j - 64 * i) from by omega, sCo1_2 (by omega), Bool.eq_false_iff.mpr q, Bool.false_and])
      rw [← e]
      exact hinv
theorem c290 {w : PW} {Q : PO → PW → Prop} {m : Row} {x : Nat} (hs : Sh w) (hM : MR w m) (hx : x + 1 < (m 1).toNat * (m 4).toNat) (h0 : cnt (sCo1 m x) 4096 = 0 → Q (.inl (some (iv 0))) w) (h1 : 0 < cnt (sCo1 m x) 4096 → Q (.inl (some (iv 1))) w) : pC 290 [.ref 169, iv (x : Nat)] w Q := by
  have hut := UT_le hM.ok
  exact e290 hs (bdk (by omega)) (l290_2 hs hM hx h1 h0 (m 0).toNat 0 (Nat.zero_add _) rfl none rfl)
theorem sHas_t {m : Row} {u x : Nat} (h1 : 0 < (m 1).toNat) (hx : x + 1 < (m 1).toNat * (m 4).toNat) (hp : 0 < cnt (sCo1 m x) 4096) (hu : x % (m 1).toNat = u ∨ (x + 1) % (m 1).toNat = u) : sHas m u := by
  rcases hu with hu | hu
  · have e := Nat.div_add_mod x (m 1).toNat
    rw [hu] at e
    refine cnt_pos (i := x / (m 1).toNat) ((Nat.div_lt_iff_lt_mul h1).mpr (by rw [Nat.mul_comm]; omega)) ?_
    unfold sHasT
    rw [e, decide_eq_true hp]; rfl
  · have e := Nat.div_add_mod (x + 1) (m 1).toNat
    rw [hu] at e
    refine cnt_pos (i := (x + 1) / (m 1).toNat) ((Nat.div_lt_iff_lt_mul h1).mpr (by rw [Nat.mul_comm]; omega)) ?_
    unfold sHasT
    rw [e, Nat.add_sub_cancel, decide_eq_true hp, decide_eq_true (Nat.succ_pos x)]
    exact Bool.or_true _
theorem sHas_f {m : Row} {u : Nat} (hu : u < (m 1).toNat) (h : ∀ x, x + 1 < (m 1).toNat * (m 4).toNat → (x % (m 1).toNat = u ∨ (x + 1) % (m 1).toNat = u) → cnt (sCo1 m x) 4096 = 0) : ¬ sHas m u := by
  intro hp
  obtain ⟨t, ht, q⟩ := cnt_ex.mp hp
  have e : ((m 1).toNat * t + u) % (m 1).toNat = u := by rw [Nat.mul_add_mod]; exact Nat.mod_eq_of_lt hu
  have hle : (m 1).toNat * (t + 1) ≤ (m 1).toNat * (m 4).toNat := Nat.mul_le_mul_left _ ht
  rw [Nat.mul_succ] at hle
  unfold sHasT at q
  have z1 : cnt (sCo1 m ((m 1).toNat * t + u)) 4096 = 0 := by
    by_cases q2 : (m 1).toNat * t + u + 1 < (m 1).toNat * (m 4).toNat
    · exact h _ q2 (Or.inl e)
    · exact cnt_zero (fun c _ => sCo1_no (by omega))
  rw [z1] at q
  by_cases q3 : 0 < (m 1).toNat * t + u
  · have z2 : cnt (sCo1 m ((m 1).toNat * t + u - 1)) 4096 = 0 := h _ (by omega) (Or.inr (by rw [show (m 1).toNat * t + u - 1 + 1 = (m 1).toNat * t + u from by omega]; exact e))
    rw [z2, decide_eq_true q3] at q
    exact absurd q (by decide)
  · rw [decide_eq_false q3] at q
    exact absurd q (by simp)
theorem l291_2 {w : PW} {Q : PO → PW → Prop} {u : Nat} {m : Row} (hs : Sh w) (hM : MR w m) (hu : (u : Int) < m 1) (h0 : ¬ sHas m u → Q (.inl (some (iv 0))) w) (h : sHas m u → Q (.inl (some (iv 1))) w) : ∀ k i : Nat, i + k = (m 1).toNat * (m 4).toNat - 1 → (∀ x, x < i → x + 1 < (m 1).toNat * (m 4).toNat → (x % (m 1).toNat = u ∨ (x + 1) % (m 1).toNat = u) → cnt (sCo1 m x) 4096 = 0) → ∀ o3 : Option Value, pc2 o3 = false → pX 291 2 [some (.ref 169), some (iv (u : Nat)), some (iv (i : Nat)), o3] [] w Q := by
  have g1 := hM.ok.u
  have g4 := hM.ok.t
  have hut := UT_le hM.ok
  have hU : m 1 = (((m 1).toNat : Nat) : Int) := by omega
  intro k
  induction k with
  | zero =>
    intro i hi hinv o3 ho
    refine v291_2 hs (bdk (by omega)) (bdk (by omega)) ho ?_
    rw [hM.g (k := 1) rfl, hM.g (k := 4) rfl, hut.2]
    refine ⟨bdk (n := i + 1) (by omega), bdk (by omega), fun _ => h0 (sHas_f (by omega) (fun x hx hq => hinv x (by omega) hx hq)), fun q => by omega⟩
  | succ k ih =>
    intro i hi hinv o3 ho
    have e1 : (i : Int) + 1 = ((i + 1 : Nat) : Int) := rfl
    have em : ∀ z : Nat, ((z : Int)).tmod (m 1) = ((z % (m 1).toNat : Nat) : Int) := fun z => by rw [Int.tmod_eq_emod_of_nonneg (by omega), Int.natCast_emod, ← hU]
    have hm : ∀ z : Nat, z % (m 1).toNat < (m 1).toNat := fun z => Nat.mod_lt _ (by omega)
    have hm1 := hm i
    have hm2 := hm (i + 1)
    have hn : ((i % (m 1).toNat = u ∨ (i + 1) % (m 1).toNat = u) → cnt (sCo1 m i) 4096 = 0) → ∀ x, x < i + 1 → x + 1 < (m 1).toNat * (m 4).toNat → (x % (m 1).toNat = u ∨ (x + 1) % (m 1).toNat = u) → cnt (sCo1 m x) 4096 = 0 := fun hz x hx hx2 hx3 => by
      by_cases q : x = i
      · rw [q] at hx3 ⊢; exact hz hx3
      · exact hinv x (by omega) hx2 hx3
    refine v291_2 hs (bdk (by omega)) (bdk (by omega)) ho ?_
    rw [hM.g (k := 1) rfl, hM.g (k := 4) rfl, hut.2, em, e1, em]
    refine ⟨bdk (by omega), bdk (by omega), fun q => by omega, fun q => ⟨⟨by omega, by omega⟩, bdk (by omega), fun q2 => ?_, fun q2 => ⟨bdk (by omega), ⟨by omega, by omega⟩, bdk (by omega), fun q3 => ?_, fun q3 => ?_⟩⟩⟩
    · exact c290 hs hM (by omega) (fun z => kI_iv bd0 ⟨hs, fun _ => ih (i + 1) (by omega) (hn (fun _ => z)) (some (iv 1)) rfl, fun z2 => absurd rfl z2⟩) (fun z => kI_iv (by decide) ⟨hs, fun z2 => absurd z2 (by decide), fun _ => h (sHas_t (by omega) (by omega) z (Or.inl (by omega)))⟩)
    · exact ih (i + 1) (by omega) (hn (fun z => by omega)) (some (iv 0)) rfl
    · exact c290 hs hM (by omega) (fun z => kI_iv bd0 ⟨hs, fun _ => ih (i + 1) (by omega) (hn (fun _ => z)) (some (iv 1)) rfl, fun z2 => absurd rfl z2⟩) (fun z => kI_iv (by decide) ⟨hs, fun z2 => absurd z2 (by decide), fun _ => h (sHas_t (by omega) (by omega) z (Or.inr (by omega)))⟩)
section MQ4
variable {w : PW} {Q : PO → PW → Prop} {m : Row} {x1 x2 : Int} {u : Nat}
theorem c291 (hs : Sh w) (hM : MR w m) (hu : (u : Int) < m 1) (h0 : ¬ sHas m u → Q (.inl (some (iv 0))) w) (h1 : sHas m u → Q (.inl (some (iv 1))) w) : pC 291 [.ref 169, iv (u : Nat)] w Q := by
  have g1 := hM.ok.u
  exact e291 hs (bdk (by omega)) (l291_2 hs hM hu h0 h1 _ 0 (Nat.zero_add _) (fun x hx => absurd hx (Nat.not_lt_zero _)) none rfl)
theorem c292 (hs : Sh w) (hM : MR w m) (hx1 : bd x1) (h : ∀ w2, MqF w w2 → gI w2 169 0 = moE (sp113 m x1) → Q (moV (sp113 m x1)) w2) : pC 292 [.ref 169, iv x1] w Q := by
  have h1 := hM.ok.u
  have h5 := hM.ok.n
  refine e292 hs hx1 ?_
  rw [hM.g (k := 1) rfl]
  refine ⟨⟨by omega, by omega⟩, fun q w2 e2 => ?_, (moG hs (by decide) h).2⟩
  obtain ⟨F2, g2, h2⟩ := (moG hs (by decide) h).1 q w2 e2
  have hM2 := F2.mr hM
  have h3 := moI h2 g2
  obtain ⟨u, rfl⟩ := nat_of q.1
  have e := sMiss_eq m (u : Nat)
  have a1 : sNotes m (u : Nat) ≤ (m 5).toNat := cnt_le _ _
  have a2 : sMiss m (u : Nat) ≤ (m 5).toNat := cnt_le _ _
  have hp := sPins_bd hM.ok u
  have hb := sCf_768 hM.ok u
  rw [Int.toNat_natCast] at h3
  have hno : ∀ w3, MF w2 w3 → ¬ (sNotes m (u : Nat) = sPlayed m (u : Nat) ∧ sPins m u = (sPlayed m (u : Nat) : Nat) ∧ sCf m u = 0 ∧ ¬ (0 < cnt (sHasT m u) (m 4).toNat)) → Q (.inl (some (iv 0))) w3 := fun w3 F3 z => by
    have := h3 w3 F3
    rw [if_neg z] at this
    exact this
  refine c285 F2.1 hM2 hx1 (kI_iv (bdk (by omega)) ⟨F2.1, fun q1 => hno w2 (MF.rf F2.1) (fun z => by omega), fun q1 => c288 F2.1 hM2 q.2 (kI_iv ⟨by omega, by omega⟩ ⟨F2.1, fun q2 => hno w2 (MF.rf F2.1) (fun z => by omega), fun q2 => c281 F2.1 hM2 q.2 (fun w3 F3 => kI_iv (bdk (by omega)) ⟨F3.1, fun q3 => hno w3 F3 (fun z => by omega), fun q3 => c291 F3.1 (F3.mr hM2) q.2 (fun q4 => kI_iv bd0 ⟨F3.1, fun z => absurd rfl z, fun _ => ?_⟩) (fun q4 => kI_iv (by decide) ⟨F3.1, fun _ => hno w3 F3 (fun z => z.2.2.2 q4), fun z => absurd z (by decide)⟩)⟩)⟩)⟩)
  have := h3 w3 F3
  rw [if_pos ⟨by omega, by omega, by omega, q4⟩] at this
  exact this
theorem c278 (hs : Sh w) (hM : MR w m) (hx1 : bd x1) (h : ∀ w2, MqF w w2 → gI w2 169 0 = moE (sp88 m x1) → Q (moV (sp88 m x1)) w2) : pC 278 [.ref 169, iv x1] w Q := by
  have h1 := hM.ok.u
  refine e278 hs hx1 ?_
  rw [hM.g (k := 1) rfl]
  refine ⟨⟨by omega, by omega⟩, fun q w2 e2 => ?_, (moG hs (by decide) h).2⟩
  obtain ⟨F2, g2, h2⟩ := (moG hs (by decide) h).1 q w2 e2
  have h3 := moI h2 g2 w2 (MF.rf F2.1)
  obtain ⟨u, rfl⟩ := nat_of q.1
  rw [Int.toNat_natCast] at h3
  exact l278_17 F2.1 (F2.mr hM) q.2 h3 (m 0).toNat 0 (Nat.zero_add _) none rfl
theorem c284 (hs : Sh w) (hM : MR w m) (hx1 : bd x1) (hx2 : bd x2) (h : ∀ w2, MqF w w2 → gI w2 169 0 = moE (sp104 m x1 x2) → Q (moV (sp104 m x1 x2)) w2) : pC 284 [.ref 169, iv x1, iv x2] w Q := by
  have h1 := hM.ok.u
  refine e284 hs hx1 hx2 ?_
  rw [i2L_toInt hx2, show (0 : Int64).toInt = 0 from by decide, show (5 : Int64).toInt = 5 from by decide]
  refine ⟨fun q w2 e2 => ?_, (moG hs (by decide) h).2⟩
  obtain ⟨F2, g2, h2⟩ := (moG hs (by decide) h).1 q w2 e2
  have hM2 := F2.mr hM
  have h3 := moI h2 g2
  have hb := sCo_bd m
  have hno : ∀ w3, MF w2 w3 → (x1 < 0 ∨ (sCo m : Int) ≤ x1) → Q (.inl (some (iv (-1)))) w3 := fun w3 F3 z => by
    have := h3 w3 F3
    rw [if_pos (sel_no z)] at this
    exact this
  refine ⟨fun q4 => hno w2 (MF.rf F2.1) (Or.inl q4), fun q4 => c255 F2.1 hM2 hx1 (fun c hc hp hx w5 F5 g21 g22 g23 => kI_iv ⟨by have := cnt_le (sCoP m) c; omega, by have := cnt_le (sCoP m) c; omega⟩ ⟨F5.1, fun _ => ?_, fun z => by omega⟩) (fun z w5 F5 => kI_iv (bdk (by omega)) ⟨F5.1, fun q5 => by omega, fun _ => hno w5 F5 z⟩)⟩
  have hr := h3 w5 F5
  rw [sel_at (i := c) hc hp hx, if_neg (by omega), Int.toNat_natCast] at hr
  have hM5 := F5.mr hM2
  have hU : m 1 = (((m 1).toNat : Nat) : Int) := by omega
  have e5 : ∀ z : Nat, ((z : Int)).tmod (m 1) = ((z % (m 1).toNat : Nat) : Int) := fun z => by rw [Int.tmod_eq_emod_of_nonneg (by omega), Int.natCast_emod, ← hU]
  have e6 : ∀ z : Nat, ((z : Int)).tdiv (m 1) = ((z / (m 1).toNat : Nat) : Int) := fun z => by rw [Int.tdiv_eq_ediv_of_nonneg (by omega), Int.natCast_ediv, ← hU]
  have a1 : ((c / 4096 : Nat) : Int) + 1 = ((c / 4096 + 1 : Nat) : Int) := by omega
  have e7 : x2.tmod 3 = x2 % 3 := Int.tmod_eq_emod_of_nonneg q.1
  unfold sCoA at hr
  rw [hM5.g (k := 1) rfl, g21, g22, g23, a1, e5, e6, e5, e6, e7]
  refine ⟨fun q6 => ⟨⟨by omega, by omega⟩, fun q7 => ⟨bdk (by omega), ⟨by omega, by omega⟩, ?_⟩, fun q7 => ⟨bdk (by omega), ⟨by omega, by omega⟩, ?_⟩, fun q7 => ⟨fun _ => ?_, fun z => by omega⟩⟩, fun q6 => ⟨⟨by omega, by omega⟩, fun q7 => ⟨⟨by omega, by omega⟩, ?_⟩, fun q7 => ⟨⟨by omega, by omega⟩, ?_⟩, fun q7 => ⟨fun z => by omega, fun _ => ?_⟩⟩⟩
  · rw [if_neg (by omega), if_neg (by omega), if_neg (by omega), if_pos (by omega)] at hr
    exact hr
  · rw [if_neg (by omega), if_neg (by omega), if_neg (by omega), if_neg (by omega), if_pos (by omega)] at hr
    exact hr
  · rw [if_neg (by omega), if_neg (by omega), if_neg (by omega), if_neg (by omega), if_neg (by omega)] at hr
    exact hr
  · rw [if_pos (by omega)] at hr
    exact hr
  · rw [if_neg (by omega), if_pos (by omega)] at hr
    exact hr
  · rw [if_neg (by omega), if_neg (by omega), if_pos (by omega)] at hr
    rw [show c % 4096 / 64 = c / 64 % 64 from by omega]
    exact hr
end MQ4
