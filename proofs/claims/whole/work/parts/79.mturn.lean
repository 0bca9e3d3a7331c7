/-! THE MODEL: pins that move on around; bestTurn -/
/-! 307: PinBarrelModel.movesPins(II)V -/
theorem b307 : mB 307 = cX9_movesPins := rfl
theorem r307 : mR 307 = none := rfl
theorem p307 (a b : Nat) : phi 307 a ≤ phi 307 b := Nat.le_refl 0
theorem d307_0 : decode cX9_movesPins 0 = .ok (.iconst 0, 1) := by decide +kernel
theorem d307_1 : decode cX9_movesPins 1 = .ok (.istore_n 3, 1) := by decide +kernel
theorem d307_2 : decode cX9_movesPins 2 = .ok (.iload_n 3, 1) := by decide +kernel
theorem d307_3 : decode cX9_movesPins 3 = .ok (.aload_n 0, 1) := by decide +kernel
theorem d307_4 : decode cX9_movesPins 4 = .ok (.getfield 9, 3) := by decide +kernel
theorem d307_7 : decode cX9_movesPins 7 = .ok (.iconst 0, 1) := by decide +kernel
theorem d307_8 : decode cX9_movesPins 8 = .ok (.iaload, 1) := by decide +kernel
theorem d307_9 : decode cX9_movesPins 9 = .ok (.if_icmp .ge 34, 3) := by decide +kernel
theorem d307_12 : decode cX9_movesPins 12 = .ok (.aload_n 0, 1) := by decide +kernel
theorem d307_13 : decode cX9_movesPins 13 = .ok (.getfield 40, 3) := by decide +kernel
theorem d307_16 : decode cX9_movesPins 16 = .ok (.iload_n 3, 1) := by decide +kernel
theorem d307_17 : decode cX9_movesPins 17 = .ok (.iload_n 2, 1) := by decide +kernel
theorem d307_18 : decode cX9_movesPins 18 = .ok (.iadd, 1) := by decide +kernel
theorem d307_19 : decode cX9_movesPins 19 = .ok (.aload_n 0, 1) := by decide +kernel
theorem d307_20 : decode cX9_movesPins 20 = .ok (.getfield 9, 3) := by decide +kernel
theorem d307_23 : decode cX9_movesPins 23 = .ok (.iconst 0, 1) := by decide +kernel
theorem d307_24 : decode cX9_movesPins 24 = .ok (.iaload, 1) := by decide +kernel
theorem d307_25 : decode cX9_movesPins 25 = .ok (.irem, 1) := by decide +kernel
theorem d307_26 : decode cX9_movesPins 26 = .ok (.aload_n 0, 1) := by decide +kernel
theorem d307_27 : decode cX9_movesPins 27 = .ok (.getfield 9, 3) := by decide +kernel
theorem d307_30 : decode cX9_movesPins 30 = .ok (.iload_n 1, 1) := by decide +kernel
theorem d307_31 : decode cX9_movesPins 31 = .ok (.iload_n 3, 1) := by decide +kernel
theorem d307_32 : decode cX9_movesPins 32 = .ok (.invokestatic 213, 3) := by decide +kernel
theorem d307_35 : decode cX9_movesPins 35 = .ok (.iaload, 1) := by decide +kernel
theorem d307_36 : decode cX9_movesPins 36 = .ok (.iastore, 1) := by decide +kernel
theorem d307_37 : decode cX9_movesPins 37 = .ok (.iinc 3 1, 3) := by decide +kernel
theorem d307_40 : decode cX9_movesPins 40 = .ok (.goto (-38), 3) := by decide +kernel
theorem d307_43 : decode cX9_movesPins 43 = .ok (.iconst 0, 1) := by decide +kernel
theorem d307_44 : decode cX9_movesPins 44 = .ok (.istore_n 3, 1) := by decide +kernel
theorem d307_45 : decode cX9_movesPins 45 = .ok (.iload_n 3, 1) := by decide +kernel
theorem d307_46 : decode cX9_movesPins 46 = .ok (.aload_n 0, 1) := by decide +kernel
theorem d307_47 : decode cX9_movesPins 47 = .ok (.getfield 9, 3) := by decide +kernel
theorem d307_50 : decode cX9_movesPins 50 = .ok (.iconst 0, 1) := by decide +kernel
theorem d307_51 : decode cX9_movesPins 51 = .ok (.iaload, 1) := by decide +kernel
theorem d307_52 : decode cX9_movesPins 52 = .ok (.if_icmp .ge 25, 3) := by decide +kernel
theorem d307_55 : decode cX9_movesPins 55 = .ok (.aload_n 0, 1) := by decide +kernel
theorem d307_56 : decode cX9_movesPins 56 = .ok (.getfield 9, 3) := by decide +kernel
theorem d307_59 : decode cX9_movesPins 59 = .ok (.iload_n 1, 1) := by decide +kernel
theorem d307_60 : decode cX9_movesPins 60 = .ok (.iload_n 3, 1) := by decide +kernel
theorem d307_61 : decode cX9_movesPins 61 = .ok (.invokestatic 213, 3) := by decide +kernel
theorem d307_64 : decode cX9_movesPins 64 = .ok (.aload_n 0, 1) := by decide +kernel
theorem d307_65 : decode cX9_movesPins 65 = .ok (.getfield 40, 3) := by decide +kernel
theorem d307_68 : decode cX9_movesPins 68 = .ok (.iload_n 3, 1) := by decide +kernel
theorem d307_69 : decode cX9_movesPins 69 = .ok (.iaload, 1) := by decide +kernel
theorem d307_70 : decode cX9_movesPins 70 = .ok (.iastore, 1) := by decide +kernel
theorem d307_71 : decode cX9_movesPins 71 = .ok (.iinc 3 1, 3) := by decide +kernel
theorem d307_74 : decode cX9_movesPins 74 = .ok (.goto (-29), 3) := by decide +kernel
theorem d307_77 : decode cX9_movesPins 77 = .ok (.return_, 1) := by decide +kernel
theorem v307_0 {w : PW} {Q : PO → PW → Prop} {x1 : Int} {x2 : Int} (hs : Sh w) (hx1 : bd x1) (hx2 : bd x2) (h : pX 307 2 [some (.ref 169), some (iv x1), some (iv x2), some (iv 0)] [] w Q) : pX 307 0 [some (.ref 169), some (iv x1), some (iv x2), none] [] w Q :=
  w_f b307 d307_0 rfl rfl rfl <| w_f b307 d307_1 rfl rfl rfl <| h
theorem e307 {w : PW} {Q : PO → PW → Prop} {x1 : Int} {x2 : Int} (hs : Sh w) (hx1 : bd x1) (hx2 : bd x2) (h : pX 307 2 [some (.ref 169), some (iv x1), some (iv x2), some (iv 0)] [] w Q) : pC 307 [.ref 169, iv x1, iv x2] w Q :=
  (pC_in (Nat.le_of_ble_eq_true rfl) rfl Q).mpr (v307_0 hs hx1 hx2 h)
theorem v307_2 {w : PW} {Q : PO → PW → Prop} {x1 : Int} {x2 : Int} {x3 : Int} (hs : Sh w) (hx1 : bd x1) (hx2 : bd x2) (hx3 : bd x3) (h : ((gI w 170 0) ≤ x3 → pX 307 45 [some (.ref 169), some (iv x1), some (iv x2), some (iv 0)] [] w Q) ∧ (x3 < (gI w 170 0) → (bd (x3 + x2)) ∧ (0 < (gI w 170 0) ∧ (gI w 170 0) < 2147483648) ∧ (0 ≤ ((251 + 64 * x1) + x3) ∧ ((251 + 64 * x1) + x3) < 843) ∧ (0 ≤ ((x3 + x2).tmod (gI w 170 0)) ∧ ((x3 + x2).tmod (gI w 170 0)) < 64) ∧ ∀ w2 : PW, w2 = sI w 178 ((x3 + x2).tmod (gI w 170 0)).toNat (gI w 170 ((251 + 64 * x1) + x3).toNat) → pX 307 2 [some (.ref 169), some (iv x1), some (iv x2), some (iv (x3 + 1))] [] w2 Q)) : pX 307 2 [some (.ref 169), some (iv x1), some (iv x2), some (iv x3)] [] w Q :=
  w_f b307 d307_2 rfl rfl rfl <| w_f b307 d307_3 rfl rfl rfl <| w_gr b307 d307_4 rfl rfl hs (tlt 169 rfl) tbC_169 rfl (by decide) <| w_f b307 d307_7 rfl rfl rfl <| w_ial b307 d307_8 rfl hs (tlt 170 rfl) tbC_170 (bdix (n := 843) ⟨by decide, by decide⟩ rfl) ⟨by decide, by decide⟩ <| w_icge b307 d307_9 rfl rfl (p307 _ _) hx3 (bd_gI _ _ _) (fun c1 => w_f b307 d307_43 rfl rfl rfl <| w_f b307 d307_44 rfl rfl rfl <| (h.1 c1)) (fun c1 => w_f b307 d307_12 rfl rfl rfl <| w_gr b307 d307_13 rfl rfl hs (tlt 169 rfl) tbC_169 rfl (by decide) <| w_f b307 d307_16 rfl rfl rfl <| w_f b307 d307_17 rfl rfl rfl <| w_f b307 d307_18 rfl (pf_iadd x3 x2) rfl <| w_f b307 d307_19 rfl rfl rfl <| w_gr b307 d307_20 rfl rfl hs (tlt 169 rfl) tbC_169 rfl (by decide) <| w_f b307 d307_23 rfl rfl rfl <| w_ial b307 d307_24 rfl hs (tlt 170 rfl) tbC_170 (bdix (n := 843) ⟨by decide, by decide⟩ rfl) ⟨by decide, by decide⟩ <| w_f b307 d307_25 rfl (pf_irem (h.2 c1).1 (h.2 c1).2.1) rfl <| w_f b307 d307_26 rfl rfl rfl <| w_gr b307 d307_27 rfl rfl hs (tlt 169 rfl) tbC_169 rfl (by decide) <| w_f b307 d307_30 rfl rfl rfl <| w_f b307 d307_31 rfl rfl rfl <| w_cc b307 d307_32 rfl (pcl_s1 (n := 2) rfl rfl rfl (by decide +kernel) rfl rfl) rfl <| c236 hs hx1 hx3 <| w_ial b307 d307_35 rfl hs (tlt 170 rfl) tbC_170 (bdix (n := 843) (h.2 c1).2.2.1 rfl) (h.2 c1).2.2.1 <| w_ias b307 d307_36 rfl hs (tlt 178 rfl) tbC_178 (bdix (n := 64) (h.2 c1).2.2.2.1 rfl) (h.2 c1).2.2.2.1 <| w_f b307 d307_37 rfl (pf_iinc rfl rfl) rfl <| w_j b307 d307_40 rfl (p307 _ _) <| ((h.2 c1).2.2.2.2 _ rfl))
theorem v307_45 {w : PW} {Q : PO → PW → Prop} {x1 : Int} {x2 : Int} {x3 : Int} (hs : Sh w) (hx1 : bd x1) (hx2 : bd x2) (hx3 : bd x3) (h : ((gI w 170 0) ≤ x3 → Q (.inl none) w) ∧ (x3 < (gI w 170 0) → (0 ≤ x3 ∧ x3 < 64) ∧ (0 ≤ ((251 + 64 * x1) + x3) ∧ ((251 + 64 * x1) + x3) < 843) ∧ ∀ w2 : PW, w2 = sI w 170 ((251 + 64 * x1) + x3).toNat (gI w 178 x3.toNat) → pX 307 45 [some (.ref 169), some (iv x1), some (iv x2), some (iv (x3 + 1))] [] w2 Q)) : pX 307 45 [some (.ref 169), some (iv x1), some (iv x2), some (iv x3)] [] w Q :=
  w_f b307 d307_45 rfl rfl rfl <| w_f b307 d307_46 rfl rfl rfl <| w_gr b307 d307_47 rfl rfl hs (tlt 169 rfl) tbC_169 rfl (by decide) <| w_f b307 d307_50 rfl rfl rfl <| w_ial b307 d307_51 rfl hs (tlt 170 rfl) tbC_170 (bdix (n := 843) ⟨by decide, by decide⟩ rfl) ⟨by decide, by decide⟩ <| w_icge b307 d307_52 rfl rfl (p307 _ _) hx3 (bd_gI _ _ _) (fun c1 => w_rv b307 d307_77 r307 (h.1 c1)) (fun c1 => w_f b307 d307_55 rfl rfl rfl <| w_gr b307 d307_56 rfl rfl hs (tlt 169 rfl) tbC_169 rfl (by decide) <| w_f b307 d307_59 rfl rfl rfl <| w_f b307 d307_60 rfl rfl rfl <| w_cc b307 d307_61 rfl (pcl_s1 (n := 2) rfl rfl rfl (by decide +kernel) rfl rfl) rfl <| c236 hs hx1 hx3 <| w_f b307 d307_64 rfl rfl rfl <| w_gr b307 d307_65 rfl rfl hs (tlt 169 rfl) tbC_169 rfl (by decide) <| w_f b307 d307_68 rfl rfl rfl <| w_ial b307 d307_69 rfl hs (tlt 178 rfl) tbC_178 (bdix (n := 64) (h.2 c1).1 rfl) (h.2 c1).1 <| w_ias b307 d307_70 rfl hs (tlt 170 rfl) tbC_170 (bdix (n := 843) (h.2 c1).2.1 rfl) (h.2 c1).2.1 <| w_f b307 d307_71 rfl (pf_iinc rfl rfl) rfl <| w_j b307 d307_74 rfl (p307 _ _) <| ((h.2 c1).2.2 _ rfl))
/-! 308: PinBarrelModel.bestTurn(I)I -/
theorem b308 : mB 308 = cX9_bestTurn := rfl
theorem r308 : mR 308 = (some .int) := rfl
theorem p308 (a b : Nat) : phi 308 a ≤ phi 308 b := Nat.le_refl 0
theorem d308_0 : decode cX9_bestTurn 0 = .ok (.aload_n 0, 1) := by decide +kernel
theorem d308_1 : decode cX9_bestTurn 1 = .ok (.iload_n 1, 1) := by decide +kernel
theorem d308_2 : decode cX9_bestTurn 2 = .ok (.invokevirtual 377, 3) := by decide +kernel
theorem d308_5 : decode cX9_bestTurn 5 = .ok (.ifCond .eq 5, 3) := by decide +kernel
theorem d308_8 : decode cX9_bestTurn 8 = .ok (.iconst 0, 1) := by decide +kernel
theorem d308_9 : decode cX9_bestTurn 9 = .ok (.ireturn, 1) := by decide +kernel
theorem d308_10 : decode cX9_bestTurn 10 = .ok (.aload_n 0, 1) := by decide +kernel
theorem d308_11 : decode cX9_bestTurn 11 = .ok (.invokevirtual 196, 3) := by decide +kernel
theorem d308_14 : decode cX9_bestTurn 14 = .ok (.iconst 0, 1) := by decide +kernel
theorem d308_15 : decode cX9_bestTurn 15 = .ok (.istore_n 2, 1) := by decide +kernel
theorem d308_16 : decode cX9_bestTurn 16 = .ok (.aload_n 0, 1) := by decide +kernel
theorem d308_17 : decode cX9_bestTurn 17 = .ok (.invokevirtual 335, 3) := by decide +kernel
theorem d308_20 : decode cX9_bestTurn 20 = .ok (.istore_n 3, 1) := by decide +kernel
theorem d308_21 : decode cX9_bestTurn 21 = .ok (.iconst 1, 1) := by decide +kernel
theorem d308_22 : decode cX9_bestTurn 22 = .ok (.istore 4, 2) := by decide +kernel
theorem d308_24 : decode cX9_bestTurn 24 = .ok (.iload 4, 2) := by decide +kernel
theorem d308_26 : decode cX9_bestTurn 26 = .ok (.aload_n 0, 1) := by decide +kernel
theorem d308_27 : decode cX9_bestTurn 27 = .ok (.getfield 9, 3) := by decide +kernel
theorem d308_30 : decode cX9_bestTurn 30 = .ok (.iconst 0, 1) := by decide +kernel
theorem d308_31 : decode cX9_bestTurn 31 = .ok (.iaload, 1) := by decide +kernel
theorem d308_32 : decode cX9_bestTurn 32 = .ok (.if_icmp .ge 36, 3) := by decide +kernel
theorem d308_35 : decode cX9_bestTurn 35 = .ok (.aload_n 0, 1) := by decide +kernel
theorem d308_36 : decode cX9_bestTurn 36 = .ok (.iload_n 1, 1) := by decide +kernel
theorem d308_37 : decode cX9_bestTurn 37 = .ok (.iconst 1, 1) := by decide +kernel
theorem d308_38 : decode cX9_bestTurn 38 = .ok (.invokevirtual 393, 3) := by decide +kernel
theorem d308_41 : decode cX9_bestTurn 41 = .ok (.aload_n 0, 1) := by decide +kernel
theorem d308_42 : decode cX9_bestTurn 42 = .ok (.invokevirtual 335, 3) := by decide +kernel
theorem d308_45 : decode cX9_bestTurn 45 = .ok (.istore 5, 2) := by decide +kernel
theorem d308_47 : decode cX9_bestTurn 47 = .ok (.iload 5, 2) := by decide +kernel
theorem d308_49 : decode cX9_bestTurn 49 = .ok (.iload_n 3, 1) := by decide +kernel
theorem d308_50 : decode cX9_bestTurn 50 = .ok (.if_icmp .lt 6, 3) := by decide +kernel
theorem d308_53 : decode cX9_bestTurn 53 = .ok (.goto 9, 3) := by decide +kernel
theorem d308_56 : decode cX9_bestTurn 56 = .ok (.iload 4, 2) := by decide +kernel
theorem d308_58 : decode cX9_bestTurn 58 = .ok (.istore_n 2, 1) := by decide +kernel
theorem d308_59 : decode cX9_bestTurn 59 = .ok (.iload 5, 2) := by decide +kernel
theorem d308_61 : decode cX9_bestTurn 61 = .ok (.istore_n 3, 1) := by decide +kernel
theorem d308_62 : decode cX9_bestTurn 62 = .ok (.iinc 4 1, 3) := by decide +kernel
theorem d308_65 : decode cX9_bestTurn 65 = .ok (.goto (-41), 3) := by decide +kernel
theorem d308_68 : decode cX9_bestTurn 68 = .ok (.aload_n 0, 1) := by decide +kernel
theorem d308_69 : decode cX9_bestTurn 69 = .ok (.iload_n 2, 1) := by decide +kernel
theorem d308_70 : decode cX9_bestTurn 70 = .ok (.invokevirtual 202, 3) := by decide +kernel
theorem d308_73 : decode cX9_bestTurn 73 = .ok (.ireturn, 1) := by decide +kernel
theorem v308_0 {w : PW} {Q : PO → PW → Prop} {x1 : Int} (hs : Sh w) (hx1 : bd x1) (h : (bd ((gI w 170 1) - 1)) ∧ ((0 ≤ x1 ∧ x1 < gI w 170 1) → ∀ w2 : PW, w2 = sI w 169 0 0 → pC 219 [.ref 169] w2 (kV fun w3 => Sh w3 ∧ pC 256 [.ref 169] w3 (kI fun u6 w5 => Sh w5 ∧ pX 308 24 [some (.ref 169), some (iv x1), some (iv 0), some (iv u6), some (iv 1), none] [] w5 Q))) ∧ ((¬ (0 ≤ x1 ∧ x1 < gI w 170 1)) → ∀ w8 : PW, w8 = sI w 169 0 1 → Q (.inl (some (iv 0))) w8)) : pX 308 0 [some (.ref 169), some (iv x1), none, none, none, none] [] w Q :=
  w_f b308 d308_0 rfl rfl rfl <| w_f b308 d308_1 rfl rfl rfl <| w_cc b308 d308_2 rfl (pcl_v (n := 1) rfl rfl rfl (by decide +kernel) (sh_isOb hs (tlt 169 rfl) tbC_169) rfl rfl) rfl <| c275 hs hx1 h.1 (fun c1 => w_ifeq b308 d308_5 rfl rfl (p308 _ _) ⟨by decide, by decide⟩ (fun _ => w_f b308 d308_10 rfl rfl rfl <| w_c b308 d308_11 rfl (pcl_v (n := 0) rfl rfl rfl (by decide +kernel) (sh_isOb (Sh_sI hs (slt_o tbC_169 rfl)) (tlt 169 rfl) tbC_169) rfl rfl) rfl _ (hK_V fun w3 hkw3 => w_f b308 d308_14 rfl rfl rfl <| w_f b308 d308_15 rfl rfl rfl <| w_f b308 d308_16 rfl rfl rfl <| w_c b308 d308_17 rfl (pcl_v (n := 0) rfl rfl rfl (by decide +kernel) (sh_isOb hkw3.1 (tlt 169 rfl) tbC_169) rfl rfl) rfl _ (hK_I fun u6 w5 hbu6 hkw5 => w_f b308 d308_20 rfl rfl rfl <| w_f b308 d308_21 rfl rfl rfl <| w_f b308 d308_22 rfl rfl rfl <| hkw5.2) hkw3.2) (h.2.1 c1 _ rfl)) (fun c => absurd c (by decide))) (fun c7 => w_ifeq b308 d308_5 rfl rfl (p308 _ _) ⟨by decide, by decide⟩ (fun c => absurd c (by decide)) (fun _ => w_f b308 d308_8 rfl rfl rfl <| w_ri b308 d308_9 r308 (h.2.2 c7 _ rfl)))
theorem e308 {w : PW} {Q : PO → PW → Prop} {x1 : Int} (hs : Sh w) (hx1 : bd x1) (h : (bd ((gI w 170 1) - 1)) ∧ ((0 ≤ x1 ∧ x1 < gI w 170 1) → ∀ w2 : PW, w2 = sI w 169 0 0 → pC 219 [.ref 169] w2 (kV fun w3 => Sh w3 ∧ pC 256 [.ref 169] w3 (kI fun u6 w5 => Sh w5 ∧ pX 308 24 [some (.ref 169), some (iv x1), some (iv 0), some (iv u6), some (iv 1), none] [] w5 Q))) ∧ ((¬ (0 ≤ x1 ∧ x1 < gI w 170 1)) → ∀ w8 : PW, w8 = sI w 169 0 1 → Q (.inl (some (iv 0))) w8)) : pC 308 [.ref 169, iv x1] w Q :=
  (pC_in (Nat.le_of_ble_eq_true rfl) rfl Q).mpr (v308_0 hs hx1 h)
theorem v308_24 {w : PW} {Q : PO → PW → Prop} {x1 : Int} {x2 : Int} {x3 : Int} {x4 : Int} {o5 : Option Value} (hs : Sh w) (hx1 : bd x1) (hx2 : bd x2) (hx3 : bd x3) (hx4 : bd x4) (ho5 : pc2 o5 = false) (h : ((gI w 170 0) ≤ x4 → pC 241 [.ref 169, iv x2] w (kI fun u3 w2 => Sh w2 ∧ Q (.inl (some (iv u3))) w2)) ∧ (x4 < (gI w 170 0) → pC 307 [.ref 169, iv x1, iv 1] w (kV fun w4 => Sh w4 ∧ pC 256 [.ref 169] w4 (kI fun u7 w6 => Sh w6 ∧ (u7 < x3 → pX 308 24 [some (.ref 169), some (iv x1), some (iv x4), some (iv u7), some (iv (x4 + 1)), some (iv u7)] [] w6 Q) ∧ (x3 ≤ u7 → pX 308 24 [some (.ref 169), some (iv x1), some (iv x2), some (iv x3), some (iv (x4 + 1)), some (iv u7)] [] w6 Q))))) : pX 308 24 [some (.ref 169), some (iv x1), some (iv x2), some (iv x3), some (iv x4), o5] [] w Q :=
  w_f b308 d308_24 rfl rfl rfl <| w_f b308 d308_26 rfl rfl rfl <| w_gr b308 d308_27 rfl rfl hs (tlt 169 rfl) tbC_169 rfl (by decide) <| w_f b308 d308_30 rfl rfl rfl <| w_ial b308 d308_31 rfl hs (tlt 170 rfl) tbC_170 (bdix (n := 843) ⟨by decide, by decide⟩ rfl) ⟨by decide, by decide⟩ <| w_icge b308 d308_32 rfl rfl (p308 _ _) hx4 (bd_gI _ _ _) (fun c1 => w_f b308 d308_68 rfl rfl rfl <| w_f b308 d308_69 rfl rfl rfl <| w_c b308 d308_70 rfl (pcl_v (n := 1) rfl rfl rfl (by decide +kernel) (sh_isOb hs (tlt 169 rfl) tbC_169) rfl rfl) rfl _ (hK_I fun u3 w2 hbu3 hkw2 => w_ri b308 d308_73 r308 hkw2.2) (h.1 c1)) (fun c1 => w_f b308 d308_35 rfl rfl rfl <| w_f b308 d308_36 rfl rfl rfl <| w_f b308 d308_37 rfl rfl rfl <| w_c b308 d308_38 rfl (pcl_v (n := 2) rfl rfl rfl (by decide +kernel) (sh_isOb hs (tlt 169 rfl) tbC_169) rfl rfl) rfl _ (hK_V fun w4 hkw4 => w_f b308 d308_41 rfl rfl rfl <| w_c b308 d308_42 rfl (pcl_v (n := 0) rfl rfl rfl (by decide +kernel) (sh_isOb hkw4.1 (tlt 169 rfl) tbC_169) rfl rfl) rfl _ (hK_I fun u7 w6 hbu7 hkw6 => w_f b308 d308_45 rfl rfl rfl <| w_f b308 d308_47 rfl rfl rfl <| w_f b308 d308_49 rfl rfl rfl <| w_iclt b308 d308_50 rfl rfl (p308 _ _) hbu7 hx3 (fun c8 => w_f b308 d308_56 rfl rfl rfl <| w_f b308 d308_58 rfl rfl rfl <| w_f b308 d308_59 rfl rfl rfl <| w_f b308 d308_61 rfl rfl rfl <| w_f b308 d308_62 rfl (pf_iinc rfl rfl) rfl <| w_j b308 d308_65 rfl (p308 _ _) <| (hkw6.2.1 c8)) (fun c8 => w_j b308 d308_53 rfl (p308 _ _) <| w_f b308 d308_62 rfl (pf_iinc rfl rfl) rfl <| w_j b308 d308_65 rfl (p308 _ _) <| (hkw6.2.2 c8))) hkw4.2) (h.2 c1))
theorem rMoveP_ok {m : Row} {u k : Nat} (h : RowOK m) (hu : (u : Int) < m 1) (hk : (k : Int) < m 0) : RowOK (rMoveP m u k) := by
  have h0 := h.s
  refine rSetP_ok h (fun s hs => ?_)
  have hw : ((wS (m 0).toNat s k : Nat) : Int) < m 0 := by unfold wS; split <;> omega
  exact h.P hu hw
theorem rMirP_ok {m : Row} {u : Nat} (h : RowOK m) (hu : (u : Int) < m 1) : RowOK (rMirP m u) := by
  have h0 := h.s
  refine rSetP_ok h (fun s hs => ?_)
  exact h.P hu (s := (m 0).toNat - 1 - s) (by omega)
theorem rClrP_ok {m : Row} {u : Nat} (h : RowOK m) : RowOK (rClrP m u) :=
  rSetP_ok h (fun s hs => ⟨bd0, fun t _ q => by rw [tI_0] at q; cases q⟩)
theorem tmod_wN {S a b : Nat} (ha : a < S) (hb : b < S) : (((a : Nat) : Int) + ((b : Nat) : Int)).tmod ((S : Nat) : Int) = ((wN S a b : Nat) : Int) := by
  rw [Int.tmod_eq_emod_of_nonneg (by omega)]
  unfold wN
  by_cases q : a + b < S
  · rw [if_pos q, Int.emod_eq_of_lt (by omega) (by omega)]
    omega
  · rw [if_neg q, show ((a : Int) + (b : Int)) = ((a + b - S : Nat) : Int) + (S : Int) from by omega, Int.add_emod_right, Int.emod_eq_of_lt (by omega) (by omega)]
/-- some of a tune's sets stand, the others not yet -/
def PS (w : PW) (m : Row) (u : Nat) (g : Nat → Int) (i : Nat) : Prop := ∀ j, j < 843 → gI w 170 j = if 251 + 64 * u ≤ j ∧ j < 251 + 64 * u + i then g (j - (251 + 64 * u)) else m j
section MTU
variable {w w1 w2 : PW} {Q : PO → PW → Prop} {m : Row} {u : Nat} {x1 : Int} {g : Nat → Int}
theorem PS.zero (hM : MR w m) : PS w m u g 0 := fun j hj => by rw [if_neg (by omega)]; exact hM.2 j hj
theorem PS.step {i : Nat} {z : Int} (hs : Sh w) (h : PS w m u g i) (e : w2 = sI w 170 (251 + 64 * u + i) z) (hz : bd z) (hg : g i = z) : MG w w2 ∧ PS w2 m u g (i + 1) := by
  obtain ⟨G, g2⟩ := MG.put hs e hz
  refine ⟨G, fun j hj => ?_⟩
  rw [g2]
  by_cases q : j = 251 + 64 * u + i
  · rw [if_pos q, if_pos (by omega), show j - (251 + 64 * u) = i from by omega, hg]
  · rw [if_neg q, h j hj]
    by_cases q2 : 251 + 64 * u ≤ j ∧ j < 251 + 64 * u + i
    · rw [if_pos q2, if_pos (by omega)]
    · rw [if_neg q2, if_neg (by omega)]
theorem PS.done {i : Nat} (h : PS w m u g i) (hi : (i : Int) = m 0) (hok : RowOK (rSetP m u g)) : MR w (rSetP m u g) := by
  refine ⟨hok, fun j hj => ?_⟩
  rw [h j hj]
  unfold rSetP
  by_cases q : 251 + 64 * u ≤ j ∧ j < 251 + 64 * u + i
  · rw [if_pos q, if_pos (by omega)]
  · rw [if_neg q, if_neg (by omega)]
theorem PS.lo {i j : Nat} (h : PS w m u g i) (hj : j < 251) : gI w 170 j = m j := by rw [h j (by omega), if_neg (by omega)]
theorem l307_2 {w : PW} {Q : PO → PW → Prop} {u b : Nat} {m : Row} (hs : Sh w) (hM : MR w m) (hu : (u : Int) < m 1) (hb : (b : Int) < m 0) (h : ∀ w2, MF w w2 → (∀ s : Nat, (s : Int) < m 0 → gI w2 178 s = m (251 + 64 * u + wS (m 0).toNat s b)) → pX 307 45 [some (.ref 169), some (iv (u : Nat)), some (iv (b : Nat)), some (iv 0)] [] w2 Q) : ∀ k i : Nat, i + k = (m 0).toNat → ∀ w1, MF w w1 → (∀ s : Nat, s < (m 0).toNat → wS (m 0).toNat s b < i → gI w1 178 s = m (251 + 64 * u + wS (m 0).toNat s b)) → pX 307 2 [some (.ref 169), some (iv (u : Nat)), some (iv (b : Nat)), some (iv (i : Nat))] [] w1 Q := by
  have h0 := hM.ok.s
  have h1 := hM.ok.u
  have hS : m 0 = (((m 0).toNat : Nat) : Int) := by omega
  intro k
  induction k with
  | zero =>
    intro i hi w1 F1 hI
    refine v307_2 F1.1 (bdk (by omega)) (bdk (by omega)) (bdk (by omega)) ?_
    rw [(F1.mr hM).g (k := 0) rfl]
    exact ⟨fun _ => h w1 F1 (fun s hs => hI s (by omega) (by unfold wS; split <;> omega)), fun q => by omega⟩
  | succ k ih =>
    intro i hi w1 F1 hI
    have hM1 := F1.mr hM
    have hw := wN_lt (S := (m 0).toNat) (s := i) (i := b) (by omega) (by omega)
    refine v307_2 F1.1 (bdk (by omega)) (bdk (by omega)) (bdk (by omega)) ?_
    rw [hM1.g (k := 0) rfl, hM1.pin (by omega) (by omega), show (((i : Nat) : Int) + ((b : Nat) : Int)).tmod (m 0) = ((wN (m 0).toNat i b : Nat) : Int) from by rw [← tmod_wN (by omega) (by omega), ← hS]]
    refine ⟨fun q => by omega, fun _ => ⟨bdk (n := i + b) (by omega), ⟨by omega, by omega⟩, ⟨by omega, by omega⟩, ⟨by omega, by omega⟩, fun w2 e2 => ?_⟩⟩
    rw [Int.toNat_natCast] at e2
    obtain ⟨F2, k2, g2⟩ := MF.oth F1.1 e2 (slt_a tbC_178) (hM.ok.P hu (s := i) (by omega)).1 (by omega)
    refine ih (i + 1) (by omega) w2 (F1.tr F2) (fun s hs hq => ?_)
    rw [g2]
    by_cases q : s = wN (m 0).toNat i b
    · rw [if_pos ⟨rfl, q⟩, show wS (m 0).toNat s b = i from by rw [q]; unfold wS wN; split <;> split <;> omega]
    · rw [if_neg (fun z => q z.2)]
      refine hI s hs ?_
      have : wS (m 0).toNat s b ≠ i := fun z => q (by rw [← z]; unfold wS wN; split <;> split <;> omega)
      omega
theorem l307_45 {w : PW} {Q : PO → PW → Prop} {u : Nat} {m : Row} {g : Nat → Int} {x2 : Int} (hs : Sh w) (hx2 : bd x2) (hR : RowOK m) (hu : (u : Int) < m 1) (hg : ∀ s : Nat, (s : Int) < m 0 → gI w 178 s = g s) (hok : RowOK (rSetP m u g)) (h : ∀ w2, MG w w2 → MR w2 (rSetP m u g) → Q (.inl none) w2) : ∀ k i : Nat, i + k = (m 0).toNat → ∀ w1, MG w w1 → PS w1 m u g i → (∀ s : Nat, s < 64 → gI w1 178 s = gI w 178 s) → pX 307 45 [some (.ref 169), some (iv (u : Nat)), some (iv x2), some (iv (i : Nat))] [] w1 Q := by
  have h0 := hR.s
  have h1 := hR.u
  intro k
  induction k with
  | zero =>
    intro i hi w1 G1 hP hc
    refine v307_45 G1.1 (bdk (by omega)) hx2 (bdk (by omega)) ?_
    rw [hP.lo (j := 0) (by decide)]
    exact ⟨fun _ => h w1 G1 (hP.done (by omega) hok), fun q => by omega⟩
  | succ k ih =>
    intro i hi w1 G1 hP hc
    refine v307_45 G1.1 (bdk (by omega)) hx2 (bdk (by omega)) ?_
    rw [hP.lo (j := 0) (by decide)]
    refine ⟨fun q => by omega, fun _ => ⟨⟨by omega, by omega⟩, ⟨by omega, by omega⟩, fun w2 e2 => ?_⟩⟩
    rw [Int.toNat_natCast, show ((251 + 64 * (u : Int)) + (i : Int)).toNat = 251 + 64 * u + i from by omega] at e2
    obtain ⟨G2, P2⟩ := hP.step G1.1 e2 (bd_gI _ _ _) ((hg i (by omega)).symm.trans (hc i (by omega)).symm)
    exact ih (i + 1) (by omega) w2 (G1.tr G2) P2 (fun s hs => by rw [← hc s hs, e2, gI_sI_ne (Or.inl (by decide))])
theorem c307 {b : Nat} (hs : Sh w) (hM : MR w m) (hu : (u : Int) < m 1) (hb : (b : Int) < m 0) (h : ∀ w2, MG w w2 → MR w2 (rMoveP m u b) → Q (.inl none) w2) : pC 307 [.ref 169, iv (u : Nat), iv (b : Nat)] w Q := by
  have h0 := hM.ok.s
  have h1 := hM.ok.u
  refine e307 hs (bdk (by omega)) (bdk (by omega)) (l307_2 hs hM hu hb (fun w2 F2 hI => ?_) _ 0 (Nat.zero_add _) w (MF.rf hs) (fun s _ hq => absurd hq (Nat.not_lt_zero _)))
  exact l307_45 F2.1 (bdk (by omega)) hM.ok hu hI (rMoveP_ok hM.ok hu hb) (fun w3 G3 M3 => h w3 (F2.mg.tr G3) M3) _ 0 (Nat.zero_add _) w2 (MG.rf F2.1) (PS.zero (F2.mr hM)) (fun _ _ => rfl)
theorem l308_24 {w : PW} {Q : PO → PW → Prop} {u : Nat} {m : Row} (hs : Sh w) (hok : RowOK m) (hu : (u : Int) < m 1) (h : ∀ w2, MG w w2 → MR w2 m → Q (.inl (some (iv (sTurnA m u ((m 0).toNat - 1)).1))) w2) : ∀ k i : Nat, i + k = (m 0).toNat - 1 → ∀ w1, MG w w1 → MR w1 (rMv m u i) → AS w1 m → ∀ o5 : Option Value, pc2 o5 = false → pX 308 24 [some (.ref 169), some (iv (u : Nat)), some (iv (sTurnA m u i).1), some (iv (sTurnA m u i).2), some (iv ((i : Int) + 1)), o5] [] w1 Q := by
  have h0 := hok.s
  have h1 := hok.u
  intro k
  induction k with
  | zero =>
    intro i hi w1 G1 M1 hA o5 ho
    have hb := sTurnA_bd m u i
    obtain ⟨r0, r1⟩ := rMv_01 m u i
    refine v308_24 G1.1 (bdk (by omega)) ⟨by omega, by omega⟩ (bdk (by omega)) (bdk (n := i + 1) (by omega)) ho ?_
    rw [M1.g (k := 0) rfl, r0]
    refine ⟨fun _ => c241 G1.1 ⟨by omega, by omega⟩ hA hok (fun w2 G2 M2 => kI_iv ⟨by omega, by omega⟩ ⟨G2.1, ?_⟩), fun q => by omega⟩
    have := h w2 (G1.tr G2) M2
    rw [show (m 0).toNat - 1 = i from by omega] at this
    exact this
  | succ k ih =>
    intro i hi w1 G1 M1 hA o5 ho
    have hb := sTurnA_bd m u i
    obtain ⟨r0, r1⟩ := rMv_01 m u i
    refine v308_24 G1.1 (bdk (by omega)) ⟨by omega, by omega⟩ (bdk (by omega)) (bdk (n := i + 1) (by omega)) ho ?_
    rw [M1.g (k := 0) rfl, r0]
    refine ⟨fun q => by omega, fun _ => c307 (b := 1) G1.1 M1 (by rw [r1]; exact hu) (by rw [r0]; omega) (fun w4 G4 M4 => ⟨G4.1, ?_⟩)⟩
    have hcb := sCo_bd (rMv m u (i + 1))
    refine c256 G4.1 M4 (fun w6 F6 => kI_iv (bdk (by have : sCo (rMoveP (rMv m u i) u 1) ≤ 147456 := hcb; omega)) ⟨F6.1, fun q => ?_, fun q => ?_⟩)
    · have e : sTurnA m u (i + 1) = (((i + 1 : Nat) : Int), sCo (rMv m u (i + 1))) := if_pos (by show sCo (rMoveP (rMv m u i) u 1) < _; omega)
      have := ih (i + 1) (by omega) w6 (G1.tr (G4.tr F6.mg)) (F6.mr M4) ((hA.mg G4).mg F6.mg) (some (iv (sCo (rMoveP (rMv m u i) u 1) : Nat))) rfl
      rw [e] at this
      exact this
    · have e : sTurnA m u (i + 1) = sTurnA m u i := if_neg (by show ¬ sCo (rMoveP (rMv m u i) u 1) < _; omega)
      have := ih (i + 1) (by omega) w6 (G1.tr (G4.tr F6.mg)) (F6.mr M4) ((hA.mg G4).mg F6.mg) (some (iv (sCo (rMoveP (rMv m u i) u 1) : Nat))) rfl
      rw [e] at this
      exact this
theorem c308 (hs : Sh w) (hM : MR w m) (hx1 : bd x1) (h : ∀ w2, MqF w w2 → gI w2 169 0 = moE (sp144 m x1) → Q (moV (sp144 m x1)) w2) : pC 308 [.ref 169, iv x1] w Q := by
  have h1 := hM.ok.u
  refine e308 hs hx1 ?_
  rw [hM.g (k := 1) rfl]
  refine ⟨⟨by omega, by omega⟩, fun q w2 e2 => ?_, (moG hs (by decide) h).2⟩
  obtain ⟨F2, g2, h2⟩ := (moG hs (by decide) h).1 q w2 e2
  have hM2 := F2.mr hM
  have h3 := moJ h2 g2
  obtain ⟨u, rfl⟩ := nat_of q.1
  rw [Int.toNat_natCast] at h3
  have hcb := sCo_bd m
  refine c219 F2.1 hM2 (fun w3 F3 t3 hA => ⟨F3.1, c256 F3.1 (F3.mr hM2) (fun w5 F5 => kI_iv (bdk (by omega)) ⟨F5.1, ?_⟩)⟩)
  exact l308_24 F5.1 hM.ok q.2 (fun w9 G9 M9 => by
    have F9 := (F5.mg.tr G9).fin (F3.mr hM2) M9
    exact h3 w9 (F3.tr F9.2.1) (F9.2.2.1.trans t3)) _ 0 (Nat.zero_add _) w5 (MG.rf F5.1) (F5.mr (F3.mr hM2)) (hA.mg F5.mg) none rfl
end MTU
