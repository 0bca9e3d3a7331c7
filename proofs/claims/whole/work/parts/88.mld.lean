/-! THE MODEL's READER: statements, all of a text; append, load -/
/-! 215: PinBarrelModel.begins(III)V -/
theorem b215 : mB 215 = cX9_begins := rfl
theorem r215 : mR 215 = none := rfl
theorem p215 (a b : Nat) : phi 215 a ≤ phi 215 b := Nat.le_refl 0
theorem d215_0 : decode cX9_begins 0 = .ok (.iconst 0, 1) := by decide +kernel
theorem d215_1 : decode cX9_begins 1 = .ok (.istore 4, 2) := by decide +kernel
theorem d215_3 : decode cX9_begins 3 = .ok (.iload 4, 2) := by decide +kernel
theorem d215_5 : decode cX9_begins 5 = .ok (.sipush 843, 3) := by decide +kernel
theorem d215_8 : decode cX9_begins 8 = .ok (.if_icmp .ge 17, 3) := by decide +kernel
theorem d215_11 : decode cX9_begins 11 = .ok (.aload_n 0, 1) := by decide +kernel
theorem d215_12 : decode cX9_begins 12 = .ok (.getfield 9, 3) := by decide +kernel
theorem d215_15 : decode cX9_begins 15 = .ok (.iload 4, 2) := by decide +kernel
theorem d215_17 : decode cX9_begins 17 = .ok (.iconst 0, 1) := by decide +kernel
theorem d215_18 : decode cX9_begins 18 = .ok (.iastore, 1) := by decide +kernel
theorem d215_19 : decode cX9_begins 19 = .ok (.iinc 4 1, 3) := by decide +kernel
theorem d215_22 : decode cX9_begins 22 = .ok (.goto (-19), 3) := by decide +kernel
theorem d215_25 : decode cX9_begins 25 = .ok (.aload_n 0, 1) := by decide +kernel
theorem d215_26 : decode cX9_begins 26 = .ok (.getfield 9, 3) := by decide +kernel
theorem d215_29 : decode cX9_begins 29 = .ok (.iconst 0, 1) := by decide +kernel
theorem d215_30 : decode cX9_begins 30 = .ok (.iload_n 1, 1) := by decide +kernel
theorem d215_31 : decode cX9_begins 31 = .ok (.iastore, 1) := by decide +kernel
theorem d215_32 : decode cX9_begins 32 = .ok (.aload_n 0, 1) := by decide +kernel
theorem d215_33 : decode cX9_begins 33 = .ok (.getfield 9, 3) := by decide +kernel
theorem d215_36 : decode cX9_begins 36 = .ok (.iconst 1, 1) := by decide +kernel
theorem d215_37 : decode cX9_begins 37 = .ok (.iload_n 2, 1) := by decide +kernel
theorem d215_38 : decode cX9_begins 38 = .ok (.iastore, 1) := by decide +kernel
theorem d215_39 : decode cX9_begins 39 = .ok (.aload_n 0, 1) := by decide +kernel
theorem d215_40 : decode cX9_begins 40 = .ok (.getfield 9, 3) := by decide +kernel
theorem d215_43 : decode cX9_begins 43 = .ok (.iconst 2, 1) := by decide +kernel
theorem d215_44 : decode cX9_begins 44 = .ok (.iload_n 3, 1) := by decide +kernel
theorem d215_45 : decode cX9_begins 45 = .ok (.iastore, 1) := by decide +kernel
theorem d215_46 : decode cX9_begins 46 = .ok (.aload_n 0, 1) := by decide +kernel
theorem d215_47 : decode cX9_begins 47 = .ok (.getfield 9, 3) := by decide +kernel
theorem d215_50 : decode cX9_begins 50 = .ok (.iconst 3, 1) := by decide +kernel
theorem d215_51 : decode cX9_begins 51 = .ok (.iconst 1, 1) := by decide +kernel
theorem d215_52 : decode cX9_begins 52 = .ok (.iastore, 1) := by decide +kernel
theorem d215_53 : decode cX9_begins 53 = .ok (.return_, 1) := by decide +kernel
theorem v215_0 {w : PW} {Q : PO → PW → Prop} {x1 : Int} {x2 : Int} {x3 : Int} (hs : Sh w) (hx1 : bd x1) (hx2 : bd x2) (hx3 : bd x3) (h : pX 215 3 [some (.ref 169), some (iv x1), some (iv x2), some (iv x3), some (iv 0)] [] w Q) : pX 215 0 [some (.ref 169), some (iv x1), some (iv x2), some (iv x3), none] [] w Q :=
  w_f b215 d215_0 rfl rfl rfl <| w_f b215 d215_1 rfl rfl rfl <| h
theorem e215 {w : PW} {Q : PO → PW → Prop} {x1 : Int} {x2 : Int} {x3 : Int} (hs : Sh w) (hx1 : bd x1) (hx2 : bd x2) (hx3 : bd x3) (h : pX 215 3 [some (.ref 169), some (iv x1), some (iv x2), some (iv x3), some (iv 0)] [] w Q) : pC 215 [.ref 169, iv x1, iv x2, iv x3] w Q :=
  (pC_in (Nat.le_of_ble_eq_true rfl) rfl Q).mpr (v215_0 hs hx1 hx2 hx3 h)
theorem v215_3 {w : PW} {Q : PO → PW → Prop} {x1 : Int} {x2 : Int} {x3 : Int} {x4 : Int} (hs : Sh w) (hx1 : bd x1) (hx2 : bd x2) (hx3 : bd x3) (hx4 : bd x4) (h : (843 ≤ x4 → ∀ w2 : PW, w2 = sI w 170 0 x1 → ∀ w3 : PW, w3 = sI w2 170 1 x2 → ∀ w4 : PW, w4 = sI w3 170 2 x3 → ∀ w5 : PW, w5 = sI w4 170 3 1 → Q (.inl none) w5) ∧ (x4 < 843 → (0 ≤ x4 ∧ x4 < 843) ∧ ∀ w6 : PW, w6 = sI w 170 x4.toNat 0 → pX 215 3 [some (.ref 169), some (iv x1), some (iv x2), some (iv x3), some (iv (x4 + 1))] [] w6 Q)) : pX 215 3 [some (.ref 169), some (iv x1), some (iv x2), some (iv x3), some (iv x4)] [] w Q :=
  w_f b215 d215_3 rfl rfl rfl <| w_f b215 d215_5 rfl rfl rfl <| w_icge b215 d215_8 rfl rfl (p215 _ _) hx4 ⟨by decide, by decide⟩ (fun c1 => w_f b215 d215_25 rfl rfl rfl <| w_gr b215 d215_26 rfl rfl hs (tlt 169 rfl) tbC_169 rfl (by decide) <| w_f b215 d215_29 rfl rfl rfl <| w_f b215 d215_30 rfl rfl rfl <| w_ias b215 d215_31 rfl hs (tlt 170 rfl) tbC_170 (bdix (n := 843) ⟨by decide, by decide⟩ rfl) ⟨by decide, by decide⟩ <| w_f b215 d215_32 rfl rfl rfl <| w_gr b215 d215_33 rfl rfl (Sh_sI hs (slt_a tbC_170)) (tlt 169 rfl) tbC_169 rfl (by decide) <| w_f b215 d215_36 rfl rfl rfl <| w_f b215 d215_37 rfl rfl rfl <| w_ias b215 d215_38 rfl (Sh_sI hs (slt_a tbC_170)) (tlt 170 rfl) tbC_170 (bdix (n := 843) ⟨by decide, by decide⟩ rfl) ⟨by decide, by decide⟩ <| w_f b215 d215_39 rfl rfl rfl <| w_gr b215 d215_40 rfl rfl (Sh_sI (Sh_sI hs (slt_a tbC_170)) (slt_a tbC_170)) (tlt 169 rfl) tbC_169 rfl (by decide) <| w_f b215 d215_43 rfl rfl rfl <| w_f b215 d215_44 rfl rfl rfl <| w_ias b215 d215_45 rfl (Sh_sI (Sh_sI hs (slt_a tbC_170)) (slt_a tbC_170)) (tlt 170 rfl) tbC_170 (bdix (n := 843) ⟨by decide, by decide⟩ rfl) ⟨by decide, by decide⟩ <| w_f b215 d215_46 rfl rfl rfl <| w_gr b215 d215_47 rfl rfl (Sh_sI (Sh_sI (Sh_sI hs (slt_a tbC_170)) (slt_a tbC_170)) (slt_a tbC_170)) (tlt 169 rfl) tbC_169 rfl (by decide) <| w_f b215 d215_50 rfl rfl rfl <| w_f b215 d215_51 rfl rfl rfl <| w_ias b215 d215_52 rfl (Sh_sI (Sh_sI (Sh_sI hs (slt_a tbC_170)) (slt_a tbC_170)) (slt_a tbC_170)) (tlt 170 rfl) tbC_170 (bdix (n := 843) ⟨by decide, by decide⟩ rfl) ⟨by decide, by decide⟩ <| w_rv b215 d215_53 r215 (((((h.1 c1) _ rfl) _ rfl) _ rfl) _ rfl)) (fun c1 => w_f b215 d215_11 rfl rfl rfl <| w_gr b215 d215_12 rfl rfl hs (tlt 169 rfl) tbC_169 rfl (by decide) <| w_f b215 d215_15 rfl rfl rfl <| w_f b215 d215_17 rfl rfl rfl <| w_ias b215 d215_18 rfl hs (tlt 170 rfl) tbC_170 (bdix (n := 843) (h.2 c1).1 rfl) (h.2 c1).1 <| w_f b215 d215_19 rfl (pf_iinc rfl rfl) rfl <| w_j b215 d215_22 rfl (p215 _ _) <| ((h.2 c1).2 _ rfl))
/-! 226: PinBarrelModel.readBarrel()Z -/
theorem b226 : mB 226 = cX9_readBarrel := rfl
theorem r226 : mR 226 = (some .boolean) := rfl
theorem p226 (a b : Nat) : phi 226 a ≤ phi 226 b := Nat.le_refl 0
theorem d226_0 : decode cX9_readBarrel 0 = .ok (.aload_n 0, 1) := by decide +kernel
theorem d226_1 : decode cX9_readBarrel 1 = .ok (.bipush 8, 2) := by decide +kernel
theorem d226_3 : decode cX9_readBarrel 3 = .ok (.bipush 64, 2) := by decide +kernel
theorem d226_5 : decode cX9_readBarrel 5 = .ok (.invokevirtual 144, 3) := by decide +kernel
theorem d226_8 : decode cX9_readBarrel 8 = .ok (.ifCond .ne 5, 3) := by decide +kernel
theorem d226_11 : decode cX9_readBarrel 11 = .ok (.iconst 0, 1) := by decide +kernel
theorem d226_12 : decode cX9_readBarrel 12 = .ok (.ireturn, 1) := by decide +kernel
theorem d226_13 : decode cX9_readBarrel 13 = .ok (.aload_n 0, 1) := by decide +kernel
theorem d226_14 : decode cX9_readBarrel 14 = .ok (.getfield 97, 3) := by decide +kernel
theorem d226_17 : decode cX9_readBarrel 17 = .ok (.istore_n 1, 1) := by decide +kernel
theorem d226_18 : decode cX9_readBarrel 18 = .ok (.aload_n 0, 1) := by decide +kernel
theorem d226_19 : decode cX9_readBarrel 19 = .ok (.iconst 1, 1) := by decide +kernel
theorem d226_20 : decode cX9_readBarrel 20 = .ok (.iconst 3, 1) := by decide +kernel
theorem d226_21 : decode cX9_readBarrel 21 = .ok (.invokevirtual 144, 3) := by decide +kernel
theorem d226_24 : decode cX9_readBarrel 24 = .ok (.ifCond .ne 5, 3) := by decide +kernel
theorem d226_27 : decode cX9_readBarrel 27 = .ok (.iconst 0, 1) := by decide +kernel
theorem d226_28 : decode cX9_readBarrel 28 = .ok (.ireturn, 1) := by decide +kernel
theorem d226_29 : decode cX9_readBarrel 29 = .ok (.aload_n 0, 1) := by decide +kernel
theorem d226_30 : decode cX9_readBarrel 30 = .ok (.getfield 97, 3) := by decide +kernel
theorem d226_33 : decode cX9_readBarrel 33 = .ok (.istore_n 2, 1) := by decide +kernel
theorem d226_34 : decode cX9_readBarrel 34 = .ok (.aload_n 0, 1) := by decide +kernel
theorem d226_35 : decode cX9_readBarrel 35 = .ok (.iconst 0, 1) := by decide +kernel
theorem d226_36 : decode cX9_readBarrel 36 = .ok (.iconst 3, 1) := by decide +kernel
theorem d226_37 : decode cX9_readBarrel 37 = .ok (.invokevirtual 144, 3) := by decide +kernel
theorem d226_40 : decode cX9_readBarrel 40 = .ok (.ifCond .ne 5, 3) := by decide +kernel
theorem d226_43 : decode cX9_readBarrel 43 = .ok (.iconst 0, 1) := by decide +kernel
theorem d226_44 : decode cX9_readBarrel 44 = .ok (.ireturn, 1) := by decide +kernel
theorem d226_45 : decode cX9_readBarrel 45 = .ok (.aload_n 0, 1) := by decide +kernel
theorem d226_46 : decode cX9_readBarrel 46 = .ok (.iload_n 1, 1) := by decide +kernel
theorem d226_47 : decode cX9_readBarrel 47 = .ok (.iload_n 2, 1) := by decide +kernel
theorem d226_48 : decode cX9_readBarrel 48 = .ok (.aload_n 0, 1) := by decide +kernel
theorem d226_49 : decode cX9_readBarrel 49 = .ok (.getfield 97, 3) := by decide +kernel
theorem d226_52 : decode cX9_readBarrel 52 = .ok (.invokevirtual 46, 3) := by decide +kernel
theorem d226_55 : decode cX9_readBarrel 55 = .ok (.iconst 1, 1) := by decide +kernel
theorem d226_56 : decode cX9_readBarrel 56 = .ok (.ireturn, 1) := by decide +kernel
theorem v226_0 {w : PW} {Q : PO → PW → Prop}  (hs : Sh w)  (h : pC 225 [.ref 169, iv 8, iv 64] w (kI fun u2 w1 => Sh w1 ∧ (u2 ≠ 0 → pC 225 [.ref 169, iv 1, iv 3] w1 (kI fun u5 w4 => Sh w4 ∧ (u5 ≠ 0 → pC 225 [.ref 169, iv 0, iv 3] w4 (kI fun u8 w7 => Sh w7 ∧ (u8 ≠ 0 → pC 215 [.ref 169, iv (gI w1 169 11), iv (gI w4 169 11), iv (gI w7 169 11)] w7 (kV fun w10 => Sh w10 ∧ Q (.inl (some (iv 1))) w10)) ∧ (u8 = 0 → Q (.inl (some (iv 0))) w7))) ∧ (u5 = 0 → Q (.inl (some (iv 0))) w4))) ∧ (u2 = 0 → Q (.inl (some (iv 0))) w1))) : pX 226 0 [some (.ref 169), none, none] [] w Q :=
  w_f b226 d226_0 rfl rfl rfl <| w_f b226 d226_1 rfl rfl rfl <| w_f b226 d226_3 rfl rfl rfl <| w_c b226 d226_5 rfl (pcl_v (n := 2) rfl rfl rfl (by decide +kernel) (sh_isOb hs (tlt 169 rfl) tbC_169) rfl rfl) rfl _ (hK_I fun u2 w1 hbu2 hkw1 => w_ifne b226 d226_8 rfl rfl (p226 _ _) hbu2 (fun c3 => w_f b226 d226_13 rfl rfl rfl <| w_gi b226 d226_14 rfl rfl hkw1.1 (tlt 169 rfl) tbC_169 rfl <| w_f b226 d226_17 rfl rfl rfl <| w_f b226 d226_18 rfl rfl rfl <| w_f b226 d226_19 rfl rfl rfl <| w_f b226 d226_20 rfl rfl rfl <| w_c b226 d226_21 rfl (pcl_v (n := 2) rfl rfl rfl (by decide +kernel) (sh_isOb hkw1.1 (tlt 169 rfl) tbC_169) rfl rfl) rfl _ (hK_I fun u5 w4 hbu5 hkw4 => w_ifne b226 d226_24 rfl rfl (p226 _ _) hbu5 (fun c6 => w_f b226 d226_29 rfl rfl rfl <| w_gi b226 d226_30 rfl rfl hkw4.1 (tlt 169 rfl) tbC_169 rfl <| w_f b226 d226_33 rfl rfl rfl <| w_f b226 d226_34 rfl rfl rfl <| w_f b226 d226_35 rfl rfl rfl <| w_f b226 d226_36 rfl rfl rfl <| w_c b226 d226_37 rfl (pcl_v (n := 2) rfl rfl rfl (by decide +kernel) (sh_isOb hkw4.1 (tlt 169 rfl) tbC_169) rfl rfl) rfl _ (hK_I fun u8 w7 hbu8 hkw7 => w_ifne b226 d226_40 rfl rfl (p226 _ _) hbu8 (fun c9 => w_f b226 d226_45 rfl rfl rfl <| w_f b226 d226_46 rfl rfl rfl <| w_f b226 d226_47 rfl rfl rfl <| w_f b226 d226_48 rfl rfl rfl <| w_gi b226 d226_49 rfl rfl hkw7.1 (tlt 169 rfl) tbC_169 rfl <| w_c b226 d226_52 rfl (pcl_v (n := 3) rfl rfl rfl (by decide +kernel) (sh_isOb hkw7.1 (tlt 169 rfl) tbC_169) rfl rfl) rfl _ (hK_V fun w10 hkw10 => w_f b226 d226_55 rfl rfl rfl <| w_rz b226 d226_56 r226 (by decide) hkw10.2) (hkw7.2.1 c9)) (fun c9 => w_f b226 d226_43 rfl rfl rfl <| w_rz b226 d226_44 r226 (by decide) (hkw7.2.2 c9))) (hkw4.2.1 c6)) (fun c6 => w_f b226 d226_27 rfl rfl rfl <| w_rz b226 d226_28 r226 (by decide) (hkw4.2.2 c6))) (hkw1.2.1 c3)) (fun c3 => w_f b226 d226_11 rfl rfl rfl <| w_rz b226 d226_12 r226 (by decide) (hkw1.2.2 c3))) h
theorem e226 {w : PW} {Q : PO → PW → Prop}  (hs : Sh w)  (h : pC 225 [.ref 169, iv 8, iv 64] w (kI fun u2 w1 => Sh w1 ∧ (u2 ≠ 0 → pC 225 [.ref 169, iv 1, iv 3] w1 (kI fun u5 w4 => Sh w4 ∧ (u5 ≠ 0 → pC 225 [.ref 169, iv 0, iv 3] w4 (kI fun u8 w7 => Sh w7 ∧ (u8 ≠ 0 → pC 215 [.ref 169, iv (gI w1 169 11), iv (gI w4 169 11), iv (gI w7 169 11)] w7 (kV fun w10 => Sh w10 ∧ Q (.inl (some (iv 1))) w10)) ∧ (u8 = 0 → Q (.inl (some (iv 0))) w7))) ∧ (u5 = 0 → Q (.inl (some (iv 0))) w4))) ∧ (u2 = 0 → Q (.inl (some (iv 0))) w1))) : pC 226 [.ref 169] w Q :=
  (pC_in (Nat.le_of_ble_eq_true rfl) rfl Q).mpr (v226_0 hs  h)
/-! 227: PinBarrelModel.readSpeed()Z -/
theorem b227 : mB 227 = cX9_readSpeed := rfl
theorem r227 : mR 227 = (some .boolean) := rfl
theorem p227 (a b : Nat) : phi 227 a ≤ phi 227 b := Nat.le_refl 0
theorem d227_0 : decode cX9_readSpeed 0 = .ok (.aload_n 0, 1) := by decide +kernel
theorem d227_1 : decode cX9_readSpeed 1 = .ok (.iconst 1, 1) := by decide +kernel
theorem d227_2 : decode cX9_readSpeed 2 = .ok (.iconst 4, 1) := by decide +kernel
theorem d227_3 : decode cX9_readSpeed 3 = .ok (.invokevirtual 144, 3) := by decide +kernel
theorem d227_6 : decode cX9_readSpeed 6 = .ok (.ifCond .ne 5, 3) := by decide +kernel
theorem d227_9 : decode cX9_readSpeed 9 = .ok (.iconst 0, 1) := by decide +kernel
theorem d227_10 : decode cX9_readSpeed 10 = .ok (.ireturn, 1) := by decide +kernel
theorem d227_11 : decode cX9_readSpeed 11 = .ok (.aload_n 0, 1) := by decide +kernel
theorem d227_12 : decode cX9_readSpeed 12 = .ok (.getfield 9, 3) := by decide +kernel
theorem d227_15 : decode cX9_readSpeed 15 = .ok (.iconst 3, 1) := by decide +kernel
theorem d227_16 : decode cX9_readSpeed 16 = .ok (.aload_n 0, 1) := by decide +kernel
theorem d227_17 : decode cX9_readSpeed 17 = .ok (.getfield 97, 3) := by decide +kernel
theorem d227_20 : decode cX9_readSpeed 20 = .ok (.iastore, 1) := by decide +kernel
theorem d227_21 : decode cX9_readSpeed 21 = .ok (.iconst 1, 1) := by decide +kernel
theorem d227_22 : decode cX9_readSpeed 22 = .ok (.ireturn, 1) := by decide +kernel
theorem v227_0 {w : PW} {Q : PO → PW → Prop}  (hs : Sh w)  (h : pC 225 [.ref 169, iv 1, iv 4] w (kI fun u2 w1 => Sh w1 ∧ (u2 ≠ 0 → ∀ w4 : PW, w4 = sI w1 170 3 (gI w1 169 11) → Q (.inl (some (iv 1))) w4) ∧ (u2 = 0 → Q (.inl (some (iv 0))) w1))) : pX 227 0 [some (.ref 169)] [] w Q :=
  w_f b227 d227_0 rfl rfl rfl <| w_f b227 d227_1 rfl rfl rfl <| w_f b227 d227_2 rfl rfl rfl <| w_c b227 d227_3 rfl (pcl_v (n := 2) rfl rfl rfl (by decide +kernel) (sh_isOb hs (tlt 169 rfl) tbC_169) rfl rfl) rfl _ (hK_I fun u2 w1 hbu2 hkw1 => w_ifne b227 d227_6 rfl rfl (p227 _ _) hbu2 (fun c3 => w_f b227 d227_11 rfl rfl rfl <| w_gr b227 d227_12 rfl rfl hkw1.1 (tlt 169 rfl) tbC_169 rfl (by decide) <| w_f b227 d227_15 rfl rfl rfl <| w_f b227 d227_16 rfl rfl rfl <| w_gi b227 d227_17 rfl rfl hkw1.1 (tlt 169 rfl) tbC_169 rfl <| w_ias b227 d227_20 rfl hkw1.1 (tlt 170 rfl) tbC_170 (bdix (n := 843) ⟨by decide, by decide⟩ rfl) ⟨by decide, by decide⟩ <| w_f b227 d227_21 rfl rfl rfl <| w_rz b227 d227_22 r227 (by decide) ((hkw1.2.1 c3) _ rfl)) (fun c3 => w_f b227 d227_9 rfl rfl rfl <| w_rz b227 d227_10 r227 (by decide) (hkw1.2.2 c3))) h
theorem e227 {w : PW} {Q : PO → PW → Prop}  (hs : Sh w)  (h : pC 225 [.ref 169, iv 1, iv 4] w (kI fun u2 w1 => Sh w1 ∧ (u2 ≠ 0 → ∀ w4 : PW, w4 = sI w1 170 3 (gI w1 169 11) → Q (.inl (some (iv 1))) w4) ∧ (u2 = 0 → Q (.inl (some (iv 0))) w1))) : pC 227 [.ref 169] w Q :=
  (pC_in (Nat.le_of_ble_eq_true rfl) rfl Q).mpr (v227_0 hs  h)
/-! 232: PinBarrelModel.readTooth(I)Z -/
theorem b232 : mB 232 = cX9_readTooth := rfl
theorem r232 : mR 232 = (some .boolean) := rfl
theorem p232 (a b : Nat) : phi 232 a ≤ phi 232 b := Nat.le_refl 0
theorem d232_0 : decode cX9_readTooth 0 = .ok (.aload_n 0, 1) := by decide +kernel
theorem d232_1 : decode cX9_readTooth 1 = .ok (.getfield 9, 3) := by decide +kernel
theorem d232_4 : decode cX9_readTooth 4 = .ok (.iconst 4, 1) := by decide +kernel
theorem d232_5 : decode cX9_readTooth 5 = .ok (.iaload, 1) := by decide +kernel
theorem d232_6 : decode cX9_readTooth 6 = .ok (.bipush 12, 2) := by decide +kernel
theorem d232_8 : decode cX9_readTooth 8 = .ok (.if_icmp .ne 10, 3) := by decide +kernel
theorem d232_11 : decode cX9_readTooth 11 = .ok (.aload_n 0, 1) := by decide +kernel
theorem d232_12 : decode cX9_readTooth 12 = .ok (.iconst 3, 1) := by decide +kernel
theorem d232_13 : decode cX9_readTooth 13 = .ok (.iload_n 1, 1) := by decide +kernel
theorem d232_14 : decode cX9_readTooth 14 = .ok (.invokevirtual 85, 3) := by decide +kernel
theorem d232_17 : decode cX9_readTooth 17 = .ok (.ireturn, 1) := by decide +kernel
theorem d232_18 : decode cX9_readTooth 18 = .ok (.aload_n 0, 1) := by decide +kernel
theorem d232_19 : decode cX9_readTooth 19 = .ok (.invokevirtual 150, 3) := by decide +kernel
theorem d232_22 : decode cX9_readTooth 22 = .ok (.ifCond .eq 13, 3) := by decide +kernel
theorem d232_25 : decode cX9_readTooth 25 = .ok (.aload_n 0, 1) := by decide +kernel
theorem d232_26 : decode cX9_readTooth 26 = .ok (.iconst 1, 1) := by decide +kernel
theorem d232_27 : decode cX9_readTooth 27 = .ok (.bipush 12, 2) := by decide +kernel
theorem d232_29 : decode cX9_readTooth 29 = .ok (.invokevirtual 144, 3) := by decide +kernel
theorem d232_32 : decode cX9_readTooth 32 = .ok (.ifCond .ne 5, 3) := by decide +kernel
theorem d232_35 : decode cX9_readTooth 35 = .ok (.iconst 0, 1) := by decide +kernel
theorem d232_36 : decode cX9_readTooth 36 = .ok (.ireturn, 1) := by decide +kernel
theorem d232_37 : decode cX9_readTooth 37 = .ok (.aload_n 0, 1) := by decide +kernel
theorem d232_38 : decode cX9_readTooth 38 = .ok (.aload_n 0, 1) := by decide +kernel
theorem d232_39 : decode cX9_readTooth 39 = .ok (.getfield 147, 3) := by decide +kernel
theorem d232_42 : decode cX9_readTooth 42 = .ok (.aload_n 0, 1) := by decide +kernel
theorem d232_43 : decode cX9_readTooth 43 = .ok (.getfield 97, 3) := by decide +kernel
theorem d232_46 : decode cX9_readTooth 46 = .ok (.invokevirtual 153, 3) := by decide +kernel
theorem d232_49 : decode cX9_readTooth 49 = .ok (.iconst 1, 1) := by decide +kernel
theorem d232_50 : decode cX9_readTooth 50 = .ok (.ireturn, 1) := by decide +kernel
theorem v232_0 {w : PW} {Q : PO → PW → Prop} {x1 : Int} (hs : Sh w) (hx1 : bd x1) (h : ((gI w 170 4) ≠ 12 → pC 229 [.ref 169] w (kI fun u3 w2 => Sh w2 ∧ (u3 = 0 → Q (.inl (some (iv 0))) w2) ∧ (u3 ≠ 0 → pC 225 [.ref 169, iv 1, iv 12] w2 (kI fun u6 w5 => Sh w5 ∧ (u6 ≠ 0 → pC 231 [.ref 169, iv (gI w5 169 16), iv (gI w5 169 11)] w5 (kV fun w8 => Sh w8 ∧ Q (.inl (some (iv 1))) w8)) ∧ (u6 = 0 → Q (.inl (some (iv 0))) w5))))) ∧ ((gI w 170 4) = 12 → ∀ w10 : PW, w10 = sI (sI w 169 12 3) 169 13 x1 → Q (.inl (some (iv 0))) w10)) : pX 232 0 [some (.ref 169), some (iv x1)] [] w Q :=
  w_f b232 d232_0 rfl rfl rfl <| w_gr b232 d232_1 rfl rfl hs (tlt 169 rfl) tbC_169 rfl (by decide) <| w_f b232 d232_4 rfl rfl rfl <| w_ial b232 d232_5 rfl hs (tlt 170 rfl) tbC_170 (bdix (n := 843) ⟨by decide, by decide⟩ rfl) ⟨by decide, by decide⟩ <| w_f b232 d232_6 rfl rfl rfl <| w_icne b232 d232_8 rfl rfl (p232 _ _) (bd_gI _ _ _) ⟨by decide, by decide⟩ (fun c1 => w_f b232 d232_18 rfl rfl rfl <| w_c b232 d232_19 rfl (pcl_v (n := 0) rfl rfl rfl (by decide +kernel) (sh_isOb hs (tlt 169 rfl) tbC_169) rfl rfl) rfl _ (hK_I fun u3 w2 hbu3 hkw2 => w_ifeq b232 d232_22 rfl rfl (p232 _ _) hbu3 (fun c4 => w_f b232 d232_35 rfl rfl rfl <| w_rz b232 d232_36 r232 (by decide) (hkw2.2.1 c4)) (fun c4 => w_f b232 d232_25 rfl rfl rfl <| w_f b232 d232_26 rfl rfl rfl <| w_f b232 d232_27 rfl rfl rfl <| w_c b232 d232_29 rfl (pcl_v (n := 2) rfl rfl rfl (by decide +kernel) (sh_isOb hkw2.1 (tlt 169 rfl) tbC_169) rfl rfl) rfl _ (hK_I fun u6 w5 hbu6 hkw5 => w_ifne b232 d232_32 rfl rfl (p232 _ _) hbu6 (fun c7 => w_f b232 d232_37 rfl rfl rfl <| w_f b232 d232_38 rfl rfl rfl <| w_gi b232 d232_39 rfl rfl hkw5.1 (tlt 169 rfl) tbC_169 rfl <| w_f b232 d232_42 rfl rfl rfl <| w_gi b232 d232_43 rfl rfl hkw5.1 (tlt 169 rfl) tbC_169 rfl <| w_c b232 d232_46 rfl (pcl_v (n := 2) rfl rfl rfl (by decide +kernel) (sh_isOb hkw5.1 (tlt 169 rfl) tbC_169) rfl rfl) rfl _ (hK_V fun w8 hkw8 => w_f b232 d232_49 rfl rfl rfl <| w_rz b232 d232_50 r232 (by decide) hkw8.2) (hkw5.2.1 c7)) (fun c7 => w_f b232 d232_35 rfl rfl rfl <| w_rz b232 d232_36 r232 (by decide) (hkw5.2.2 c7))) (hkw2.2.2 c4))) (h.1 c1)) (fun c1 => w_f b232 d232_11 rfl rfl rfl <| w_f b232 d232_12 rfl rfl rfl <| w_f b232 d232_13 rfl rfl rfl <| w_cc b232 d232_14 rfl (pcl_v (n := 2) rfl rfl rfl (by decide +kernel) (sh_isOb hs (tlt 169 rfl) tbC_169) rfl rfl) rfl <| c224 hs ⟨by decide, by decide⟩ hx1 <| w_rz b232 d232_17 r232 (by decide) ((h.2 c1) _ rfl))
theorem e232 {w : PW} {Q : PO → PW → Prop} {x1 : Int} (hs : Sh w) (hx1 : bd x1) (h : ((gI w 170 4) ≠ 12 → pC 229 [.ref 169] w (kI fun u3 w2 => Sh w2 ∧ (u3 = 0 → Q (.inl (some (iv 0))) w2) ∧ (u3 ≠ 0 → pC 225 [.ref 169, iv 1, iv 12] w2 (kI fun u6 w5 => Sh w5 ∧ (u6 ≠ 0 → pC 231 [.ref 169, iv (gI w5 169 16), iv (gI w5 169 11)] w5 (kV fun w8 => Sh w8 ∧ Q (.inl (some (iv 1))) w8)) ∧ (u6 = 0 → Q (.inl (some (iv 0))) w5))))) ∧ ((gI w 170 4) = 12 → ∀ w10 : PW, w10 = sI (sI w 169 12 3) 169 13 x1 → Q (.inl (some (iv 0))) w10)) : pC 232 [.ref 169, iv x1] w Q :=
  (pC_in (Nat.le_of_ble_eq_true rfl) rfl Q).mpr (v232_0 hs hx1 h)
/-! 235: PinBarrelModel.readNote(I)Z -/
theorem b235 : mB 235 = cX9_readNote := rfl
theorem r235 : mR 235 = (some .boolean) := rfl
theorem p235 (a b : Nat) : phi 235 a ≤ phi 235 b := Nat.le_refl 0
theorem d235_0 : decode cX9_readNote 0 = .ok (.aload_n 0, 1) := by decide +kernel
theorem d235_1 : decode cX9_readNote 1 = .ok (.getfield 9, 3) := by decide +kernel
theorem d235_4 : decode cX9_readNote 4 = .ok (.iconst 5, 1) := by decide +kernel
theorem d235_5 : decode cX9_readNote 5 = .ok (.iaload, 1) := by decide +kernel
theorem d235_6 : decode cX9_readNote 6 = .ok (.bipush 60, 2) := by decide +kernel
theorem d235_8 : decode cX9_readNote 8 = .ok (.if_icmp .ne 10, 3) := by decide +kernel
theorem d235_11 : decode cX9_readNote 11 = .ok (.aload_n 0, 1) := by decide +kernel
theorem d235_12 : decode cX9_readNote 12 = .ok (.iconst 3, 1) := by decide +kernel
theorem d235_13 : decode cX9_readNote 13 = .ok (.iload_n 1, 1) := by decide +kernel
theorem d235_14 : decode cX9_readNote 14 = .ok (.invokevirtual 85, 3) := by decide +kernel
theorem d235_17 : decode cX9_readNote 17 = .ok (.ireturn, 1) := by decide +kernel
theorem d235_18 : decode cX9_readNote 18 = .ok (.aload_n 0, 1) := by decide +kernel
theorem d235_19 : decode cX9_readNote 19 = .ok (.iconst 0, 1) := by decide +kernel
theorem d235_20 : decode cX9_readNote 20 = .ok (.aload_n 0, 1) := by decide +kernel
theorem d235_21 : decode cX9_readNote 21 = .ok (.getfield 9, 3) := by decide +kernel
theorem d235_24 : decode cX9_readNote 24 = .ok (.iconst 1, 1) := by decide +kernel
theorem d235_25 : decode cX9_readNote 25 = .ok (.iaload, 1) := by decide +kernel
theorem d235_26 : decode cX9_readNote 26 = .ok (.iconst 1, 1) := by decide +kernel
theorem d235_27 : decode cX9_readNote 27 = .ok (.isub, 1) := by decide +kernel
theorem d235_28 : decode cX9_readNote 28 = .ok (.invokevirtual 144, 3) := by decide +kernel
theorem d235_31 : decode cX9_readNote 31 = .ok (.ifCond .ne 5, 3) := by decide +kernel
theorem d235_34 : decode cX9_readNote 34 = .ok (.iconst 0, 1) := by decide +kernel
theorem d235_35 : decode cX9_readNote 35 = .ok (.ireturn, 1) := by decide +kernel
theorem d235_36 : decode cX9_readNote 36 = .ok (.aload_n 0, 1) := by decide +kernel
theorem d235_37 : decode cX9_readNote 37 = .ok (.getfield 97, 3) := by decide +kernel
theorem d235_40 : decode cX9_readNote 40 = .ok (.istore_n 2, 1) := by decide +kernel
theorem d235_41 : decode cX9_readNote 41 = .ok (.aload_n 0, 1) := by decide +kernel
theorem d235_42 : decode cX9_readNote 42 = .ok (.iconst 0, 1) := by decide +kernel
theorem d235_43 : decode cX9_readNote 43 = .ok (.aload_n 0, 1) := by decide +kernel
theorem d235_44 : decode cX9_readNote 44 = .ok (.getfield 9, 3) := by decide +kernel
theorem d235_47 : decode cX9_readNote 47 = .ok (.iconst 0, 1) := by decide +kernel
theorem d235_48 : decode cX9_readNote 48 = .ok (.iaload, 1) := by decide +kernel
theorem d235_49 : decode cX9_readNote 49 = .ok (.iconst 1, 1) := by decide +kernel
theorem d235_50 : decode cX9_readNote 50 = .ok (.isub, 1) := by decide +kernel
theorem d235_51 : decode cX9_readNote 51 = .ok (.invokevirtual 144, 3) := by decide +kernel
theorem d235_54 : decode cX9_readNote 54 = .ok (.ifCond .ne 5, 3) := by decide +kernel
theorem d235_57 : decode cX9_readNote 57 = .ok (.iconst 0, 1) := by decide +kernel
theorem d235_58 : decode cX9_readNote 58 = .ok (.ireturn, 1) := by decide +kernel
theorem d235_59 : decode cX9_readNote 59 = .ok (.aload_n 0, 1) := by decide +kernel
theorem d235_60 : decode cX9_readNote 60 = .ok (.getfield 97, 3) := by decide +kernel
theorem d235_63 : decode cX9_readNote 63 = .ok (.istore_n 3, 1) := by decide +kernel
theorem d235_64 : decode cX9_readNote 64 = .ok (.aload_n 0, 1) := by decide +kernel
theorem d235_65 : decode cX9_readNote 65 = .ok (.invokevirtual 150, 3) := by decide +kernel
theorem d235_68 : decode cX9_readNote 68 = .ok (.ifCond .ne 5, 3) := by decide +kernel
theorem d235_71 : decode cX9_readNote 71 = .ok (.iconst 0, 1) := by decide +kernel
theorem d235_72 : decode cX9_readNote 72 = .ok (.ireturn, 1) := by decide +kernel
theorem d235_73 : decode cX9_readNote 73 = .ok (.aload_n 0, 1) := by decide +kernel
theorem d235_74 : decode cX9_readNote 74 = .ok (.iload_n 2, 1) := by decide +kernel
theorem d235_75 : decode cX9_readNote 75 = .ok (.iload_n 3, 1) := by decide +kernel
theorem d235_76 : decode cX9_readNote 76 = .ok (.aload_n 0, 1) := by decide +kernel
theorem d235_77 : decode cX9_readNote 77 = .ok (.getfield 147, 3) := by decide +kernel
theorem d235_80 : decode cX9_readNote 80 = .ok (.invokevirtual 157, 3) := by decide +kernel
theorem d235_83 : decode cX9_readNote 83 = .ok (.iconst 1, 1) := by decide +kernel
theorem d235_84 : decode cX9_readNote 84 = .ok (.ireturn, 1) := by decide +kernel
theorem v235_0 {w : PW} {Q : PO → PW → Prop} {x1 : Int} (hs : Sh w) (hx1 : bd x1) (h : ((gI w 170 5) ≠ 60 → pC 225 [.ref 169, iv 0, iv ((gI w 170 1) - 1)] w (kI fun u3 w2 => Sh w2 ∧ (u3 ≠ 0 → pC 225 [.ref 169, iv 0, iv ((gI w2 170 0) - 1)] w2 (kI fun u6 w5 => Sh w5 ∧ (u6 ≠ 0 → pC 229 [.ref 169] w5 (kI fun u9 w8 => Sh w8 ∧ (u9 ≠ 0 → pC 234 [.ref 169, iv (gI w2 169 11), iv (gI w5 169 11), iv (gI w8 169 16)] w8 (kV fun w11 => Sh w11 ∧ Q (.inl (some (iv 1))) w11)) ∧ (u9 = 0 → Q (.inl (some (iv 0))) w8))) ∧ (u6 = 0 → Q (.inl (some (iv 0))) w5))) ∧ (u3 = 0 → Q (.inl (some (iv 0))) w2))) ∧ ((gI w 170 5) = 60 → ∀ w13 : PW, w13 = sI (sI w 169 12 3) 169 13 x1 → Q (.inl (some (iv 0))) w13)) : pX 235 0 [some (.ref 169), some (iv x1), none, none] [] w Q :=
  w_f b235 d235_0 rfl rfl rfl <| w_gr b235 d235_1 rfl rfl hs (tlt 169 rfl) tbC_169 rfl (by decide) <| w_f b235 d235_4 rfl rfl rfl <| w_ial b235 d235_5 rfl hs (tlt 170 rfl) tbC_170 (bdix (n := 843) ⟨by decide, by decide⟩ rfl) ⟨by decide, by decide⟩ <| w_f b235 d235_6 rfl rfl rfl <| w_icne b235 d235_8 rfl rfl (p235 _ _) (bd_gI _ _ _) ⟨by decide, by decide⟩ (fun c1 => w_f b235 d235_18 rfl rfl rfl <| w_f b235 d235_19 rfl rfl rfl <| w_f b235 d235_20 rfl rfl rfl <| w_gr b235 d235_21 rfl rfl hs (tlt 169 rfl) tbC_169 rfl (by decide) <| w_f b235 d235_24 rfl rfl rfl <| w_ial b235 d235_25 rfl hs (tlt 170 rfl) tbC_170 (bdix (n := 843) ⟨by decide, by decide⟩ rfl) ⟨by decide, by decide⟩ <| w_f b235 d235_26 rfl rfl rfl <| w_f b235 d235_27 rfl (pf_isub (gI w 170 1) 1) rfl <| w_c b235 d235_28 rfl (pcl_v (n := 2) rfl rfl rfl (by decide +kernel) (sh_isOb hs (tlt 169 rfl) tbC_169) rfl rfl) rfl _ (hK_I fun u3 w2 hbu3 hkw2 => w_ifne b235 d235_31 rfl rfl (p235 _ _) hbu3 (fun c4 => w_f b235 d235_36 rfl rfl rfl <| w_gi b235 d235_37 rfl rfl hkw2.1 (tlt 169 rfl) tbC_169 rfl <| w_f b235 d235_40 rfl rfl rfl <| w_f b235 d235_41 rfl rfl rfl <| w_f b235 d235_42 rfl rfl rfl <| w_f b235 d235_43 rfl rfl rfl <| w_gr b235 d235_44 rfl rfl hkw2.1 (tlt 169 rfl) tbC_169 rfl (by decide) <| w_f b235 d235_47 rfl rfl rfl <| w_ial b235 d235_48 rfl hkw2.1 (tlt 170 rfl) tbC_170 (bdix (n := 843) ⟨by decide, by decide⟩ rfl) ⟨by decide, by decide⟩ <| w_f b235 d235_49 rfl rfl rfl <| w_f b235 d235_50 rfl (pf_isub _ 1) rfl <| w_c b235 d235_51 rfl (pcl_v (n := 2) rfl rfl rfl (by decide +kernel) (sh_isOb hkw2.1 (tlt 169 rfl) tbC_169) rfl rfl) rfl _ (hK_I fun u6 w5 hbu6 hkw5 => w_ifne b235 d235_54 rfl rfl (p235 _ _) hbu6 (fun c7 => w_f b235 d235_59 rfl rfl rfl <| w_gi b235 d235_60 rfl rfl hkw5.1 (tlt 169 rfl) tbC_169 rfl <| w_f b235 d235_63 rfl rfl rfl <| w_f b235 d235_64 rfl rfl rfl <| w_c b235 d235_65 rfl (pcl_v (n := 0) rfl rfl rfl (by decide +kernel) (sh_isOb hkw5.1 (tlt 169 rfl) tbC_169) rfl rfl) rfl _ (hK_I fun u9 w8 hbu9 hkw8 => w_ifne b235 d235_68 rfl rfl (p235 _ _) hbu9 (fun c10 => w_f b235 d235_73 rfl rfl rfl <| w_f b235 d235_74 rfl rfl rfl <| w_f b235 d235_75 rfl rfl rfl <| w_f b235 d235_76 rfl rfl rfl <| w_gi b235 d235_77 rfl rfl hkw8.1 (tlt 169 rfl) tbC_169 rfl <| w_c b235 d235_80 rfl (pcl_v (n := 3) rfl rfl rfl (by decide +kernel) (sh_isOb hkw8.1 (tlt 169 rfl) tbC_169) rfl rfl) rfl _ (hK_V fun w11 hkw11 => w_f b235 d235_83 rfl rfl rfl <| w_rz b235 d235_84 r235 (by decide) hkw11.2) (hkw8.2.1 c10)) (fun c10 => w_f b235 d235_71 rfl rfl rfl <| w_rz b235 d235_72 r235 (by decide) (hkw8.2.2 c10))) (hkw5.2.1 c7)) (fun c7 => w_f b235 d235_57 rfl rfl rfl <| w_rz b235 d235_58 r235 (by decide) (hkw5.2.2 c7))) (hkw2.2.1 c4)) (fun c4 => w_f b235 d235_34 rfl rfl rfl <| w_rz b235 d235_35 r235 (by decide) (hkw2.2.2 c4))) (h.1 c1)) (fun c1 => w_f b235 d235_11 rfl rfl rfl <| w_f b235 d235_12 rfl rfl rfl <| w_f b235 d235_13 rfl rfl rfl <| w_cc b235 d235_14 rfl (pcl_v (n := 2) rfl rfl rfl (by decide +kernel) (sh_isOb hs (tlt 169 rfl) tbC_169) rfl rfl) rfl <| c224 hs ⟨by decide, by decide⟩ hx1 <| w_rz b235 d235_17 r235 (by decide) ((h.2 c1) _ rfl))
theorem e235 {w : PW} {Q : PO → PW → Prop} {x1 : Int} (hs : Sh w) (hx1 : bd x1) (h : ((gI w 170 5) ≠ 60 → pC 225 [.ref 169, iv 0, iv ((gI w 170 1) - 1)] w (kI fun u3 w2 => Sh w2 ∧ (u3 ≠ 0 → pC 225 [.ref 169, iv 0, iv ((gI w2 170 0) - 1)] w2 (kI fun u6 w5 => Sh w5 ∧ (u6 ≠ 0 → pC 229 [.ref 169] w5 (kI fun u9 w8 => Sh w8 ∧ (u9 ≠ 0 → pC 234 [.ref 169, iv (gI w2 169 11), iv (gI w5 169 11), iv (gI w8 169 16)] w8 (kV fun w11 => Sh w11 ∧ Q (.inl (some (iv 1))) w11)) ∧ (u9 = 0 → Q (.inl (some (iv 0))) w8))) ∧ (u6 = 0 → Q (.inl (some (iv 0))) w5))) ∧ (u3 = 0 → Q (.inl (some (iv 0))) w2))) ∧ ((gI w 170 5) = 60 → ∀ w13 : PW, w13 = sI (sI w 169 12 3) 169 13 x1 → Q (.inl (some (iv 0))) w13)) : pC 235 [.ref 169, iv x1] w Q :=
  (pC_in (Nat.le_of_ble_eq_true rfl) rfl Q).mpr (v235_0 hs hx1 h)
/-! 238: PinBarrelModel.readPin()Z -/
theorem b238 : mB 238 = cX9_readPin := rfl
theorem r238 : mR 238 = (some .boolean) := rfl
theorem p238 (a b : Nat) : phi 238 a ≤ phi 238 b := Nat.le_refl 0
theorem d238_0 : decode cX9_readPin 0 = .ok (.aload_n 0, 1) := by decide +kernel
theorem d238_1 : decode cX9_readPin 1 = .ok (.iconst 0, 1) := by decide +kernel
theorem d238_2 : decode cX9_readPin 2 = .ok (.aload_n 0, 1) := by decide +kernel
theorem d238_3 : decode cX9_readPin 3 = .ok (.getfield 9, 3) := by decide +kernel
theorem d238_6 : decode cX9_readPin 6 = .ok (.iconst 1, 1) := by decide +kernel
theorem d238_7 : decode cX9_readPin 7 = .ok (.iaload, 1) := by decide +kernel
theorem d238_8 : decode cX9_readPin 8 = .ok (.iconst 1, 1) := by decide +kernel
theorem d238_9 : decode cX9_readPin 9 = .ok (.isub, 1) := by decide +kernel
theorem d238_10 : decode cX9_readPin 10 = .ok (.invokevirtual 144, 3) := by decide +kernel
theorem d238_13 : decode cX9_readPin 13 = .ok (.ifCond .ne 5, 3) := by decide +kernel
theorem d238_16 : decode cX9_readPin 16 = .ok (.iconst 0, 1) := by decide +kernel
theorem d238_17 : decode cX9_readPin 17 = .ok (.ireturn, 1) := by decide +kernel
theorem d238_18 : decode cX9_readPin 18 = .ok (.aload_n 0, 1) := by decide +kernel
theorem d238_19 : decode cX9_readPin 19 = .ok (.getfield 97, 3) := by decide +kernel
theorem d238_22 : decode cX9_readPin 22 = .ok (.istore_n 1, 1) := by decide +kernel
theorem d238_23 : decode cX9_readPin 23 = .ok (.aload_n 0, 1) := by decide +kernel
theorem d238_24 : decode cX9_readPin 24 = .ok (.iconst 0, 1) := by decide +kernel
theorem d238_25 : decode cX9_readPin 25 = .ok (.aload_n 0, 1) := by decide +kernel
theorem d238_26 : decode cX9_readPin 26 = .ok (.getfield 9, 3) := by decide +kernel
theorem d238_29 : decode cX9_readPin 29 = .ok (.iconst 0, 1) := by decide +kernel
theorem d238_30 : decode cX9_readPin 30 = .ok (.iaload, 1) := by decide +kernel
theorem d238_31 : decode cX9_readPin 31 = .ok (.iconst 1, 1) := by decide +kernel
theorem d238_32 : decode cX9_readPin 32 = .ok (.isub, 1) := by decide +kernel
theorem d238_33 : decode cX9_readPin 33 = .ok (.invokevirtual 144, 3) := by decide +kernel
theorem d238_36 : decode cX9_readPin 36 = .ok (.ifCond .ne 5, 3) := by decide +kernel
theorem d238_39 : decode cX9_readPin 39 = .ok (.iconst 0, 1) := by decide +kernel
theorem d238_40 : decode cX9_readPin 40 = .ok (.ireturn, 1) := by decide +kernel
theorem d238_41 : decode cX9_readPin 41 = .ok (.aload_n 0, 1) := by decide +kernel
theorem d238_42 : decode cX9_readPin 42 = .ok (.getfield 97, 3) := by decide +kernel
theorem d238_45 : decode cX9_readPin 45 = .ok (.istore_n 2, 1) := by decide +kernel
theorem d238_46 : decode cX9_readPin 46 = .ok (.aload_n 0, 1) := by decide +kernel
theorem d238_47 : decode cX9_readPin 47 = .ok (.iconst 0, 1) := by decide +kernel
theorem d238_48 : decode cX9_readPin 48 = .ok (.aload_n 0, 1) := by decide +kernel
theorem d238_49 : decode cX9_readPin 49 = .ok (.getfield 9, 3) := by decide +kernel
theorem d238_52 : decode cX9_readPin 52 = .ok (.iconst 4, 1) := by decide +kernel
theorem d238_53 : decode cX9_readPin 53 = .ok (.iaload, 1) := by decide +kernel
theorem d238_54 : decode cX9_readPin 54 = .ok (.iconst 1, 1) := by decide +kernel
theorem d238_55 : decode cX9_readPin 55 = .ok (.isub, 1) := by decide +kernel
theorem d238_56 : decode cX9_readPin 56 = .ok (.invokevirtual 144, 3) := by decide +kernel
theorem d238_59 : decode cX9_readPin 59 = .ok (.ifCond .ne 5, 3) := by decide +kernel
theorem d238_62 : decode cX9_readPin 62 = .ok (.iconst 0, 1) := by decide +kernel
theorem d238_63 : decode cX9_readPin 63 = .ok (.ireturn, 1) := by decide +kernel
theorem d238_64 : decode cX9_readPin 64 = .ok (.aload_n 0, 1) := by decide +kernel
theorem d238_65 : decode cX9_readPin 65 = .ok (.iload_n 1, 1) := by decide +kernel
theorem d238_66 : decode cX9_readPin 66 = .ok (.iload_n 2, 1) := by decide +kernel
theorem d238_67 : decode cX9_readPin 67 = .ok (.aload_n 0, 1) := by decide +kernel
theorem d238_68 : decode cX9_readPin 68 = .ok (.getfield 97, 3) := by decide +kernel
theorem d238_71 : decode cX9_readPin 71 = .ok (.iconst 1, 1) := by decide +kernel
theorem d238_72 : decode cX9_readPin 72 = .ok (.invokevirtual 160, 3) := by decide +kernel
theorem d238_75 : decode cX9_readPin 75 = .ok (.iconst 1, 1) := by decide +kernel
theorem d238_76 : decode cX9_readPin 76 = .ok (.ireturn, 1) := by decide +kernel
theorem v238_0 {w : PW} {Q : PO → PW → Prop}  (hs : Sh w)  (h : pC 225 [.ref 169, iv 0, iv ((gI w 170 1) - 1)] w (kI fun u2 w1 => Sh w1 ∧ (u2 ≠ 0 → pC 225 [.ref 169, iv 0, iv ((gI w1 170 0) - 1)] w1 (kI fun u5 w4 => Sh w4 ∧ (u5 ≠ 0 → pC 225 [.ref 169, iv 0, iv ((gI w4 170 4) - 1)] w4 (kI fun u8 w7 => Sh w7 ∧ (u8 ≠ 0 → pC 237 [.ref 169, iv (gI w1 169 11), iv (gI w4 169 11), iv (gI w7 169 11), iv 1] w7 (kV fun w10 => Sh w10 ∧ Q (.inl (some (iv 1))) w10)) ∧ (u8 = 0 → Q (.inl (some (iv 0))) w7))) ∧ (u5 = 0 → Q (.inl (some (iv 0))) w4))) ∧ (u2 = 0 → Q (.inl (some (iv 0))) w1))) : pX 238 0 [some (.ref 169), none, none] [] w Q :=
  w_f b238 d238_0 rfl rfl rfl <| w_f b238 d238_1 rfl rfl rfl <| w_f b238 d238_2 rfl rfl rfl <| w_gr b238 d238_3 rfl rfl hs (tlt 169 rfl) tbC_169 rfl (by decide) <| w_f b238 d238_6 rfl rfl rfl <| w_ial b238 d238_7 rfl hs (tlt 170 rfl) tbC_170 (bdix (n := 843) ⟨by decide, by decide⟩ rfl) ⟨by decide, by decide⟩ <| w_f b238 d238_8 rfl rfl rfl <| w_f b238 d238_9 rfl (pf_isub (gI w 170 1) 1) rfl <| w_c b238 d238_10 rfl (pcl_v (n := 2) rfl rfl rfl (by decide +kernel) (sh_isOb hs (tlt 169 rfl) tbC_169) rfl rfl) rfl _ (hK_I fun u2 w1 hbu2 hkw1 => w_ifne b238 d238_13 rfl rfl (p238 _ _) hbu2 (fun c3 => w_f b238 d238_18 rfl rfl rfl <| w_gi b238 d238_19 rfl rfl hkw1.1 (tlt 169 rfl) tbC_169 rfl <| w_f b238 d238_22 rfl rfl rfl <| w_f b238 d238_23 rfl rfl rfl <| w_f b238 d238_24 rfl rfl rfl <| w_f b238 d238_25 rfl rfl rfl <| w_gr b238 d238_26 rfl rfl hkw1.1 (tlt 169 rfl) tbC_169 rfl (by decide) <| w_f b238 d238_29 rfl rfl rfl <| w_ial b238 d238_30 rfl hkw1.1 (tlt 170 rfl) tbC_170 (bdix (n := 843) ⟨by decide, by decide⟩ rfl) ⟨by decide, by decide⟩ <| w_f b238 d238_31 rfl rfl rfl <| w_f b238 d238_32 rfl (pf_isub _ 1) rfl <| w_c b238 d238_33 rfl (pcl_v (n := 2) rfl rfl rfl (by decide +kernel) (sh_isOb hkw1.1 (tlt 169 rfl) tbC_169) rfl rfl) rfl _ (hK_I fun u5 w4 hbu5 hkw4 => w_ifne b238 d238_36 rfl rfl (p238 _ _) hbu5 (fun c6 => w_f b238 d238_41 rfl rfl rfl <| w_gi b238 d238_42 rfl rfl hkw4.1 (tlt 169 rfl) tbC_169 rfl <| w_f b238 d238_45 rfl rfl rfl <| w_f b238 d238_46 rfl rfl rfl <| w_f b238 d238_47 rfl rfl rfl <| w_f b238 d238_48 rfl rfl rfl <| w_gr b238 d238_49 rfl rfl hkw4.1 (tlt 169 rfl) tbC_169 rfl (by decide) <| w_f b238 d238_52 rfl rfl rfl <| w_ial b238 d238_53 rfl hkw4.1 (tlt 170 rfl) tbC_170 (bdix (n := 843) ⟨by decide, by decide⟩ rfl) ⟨by decide, by decide⟩ <| w_f b238 d238_54 rfl rfl rfl <| w_f b238 d238_55 rfl (pf_isub _ 1) rfl <| w_c b238 d238_56 rfl (pcl_v (n := 2) rfl rfl rfl (by decide +kernel) (sh_isOb hkw4.1 (tlt 169 rfl) tbC_169) rfl rfl) rfl _ (hK_I fun u8 w7 hbu8 hkw7 => w_ifne b238 d238_59 rfl rfl (p238 _ _) hbu8 (fun c9 => w_f b238 d238_64 rfl rfl rfl <| w_f b238 d238_65 rfl rfl rfl <| w_f b238 d238_66 rfl rfl rfl <| w_f b238 d238_67 rfl rfl rfl <| w_gi b238 d238_68 rfl rfl hkw7.1 (tlt 169 rfl) tbC_169 rfl <| w_f b238 d238_71 rfl rfl rfl <| w_c b238 d238_72 rfl (pcl_v (n := 4) rfl rfl rfl (by decide +kernel) (sh_isOb hkw7.1 (tlt 169 rfl) tbC_169) rfl rfl) rfl _ (hK_V fun w10 hkw10 => w_f b238 d238_75 rfl rfl rfl <| w_rz b238 d238_76 r238 (by decide) hkw10.2) (hkw7.2.1 c9)) (fun c9 => w_f b238 d238_62 rfl rfl rfl <| w_rz b238 d238_63 r238 (by decide) (hkw7.2.2 c9))) (hkw4.2.1 c6)) (fun c6 => w_f b238 d238_39 rfl rfl rfl <| w_rz b238 d238_40 r238 (by decide) (hkw4.2.2 c6))) (hkw1.2.1 c3)) (fun c3 => w_f b238 d238_16 rfl rfl rfl <| w_rz b238 d238_17 r238 (by decide) (hkw1.2.2 c3))) h
theorem e238 {w : PW} {Q : PO → PW → Prop}  (hs : Sh w)  (h : pC 225 [.ref 169, iv 0, iv ((gI w 170 1) - 1)] w (kI fun u2 w1 => Sh w1 ∧ (u2 ≠ 0 → pC 225 [.ref 169, iv 0, iv ((gI w1 170 0) - 1)] w1 (kI fun u5 w4 => Sh w4 ∧ (u5 ≠ 0 → pC 225 [.ref 169, iv 0, iv ((gI w4 170 4) - 1)] w4 (kI fun u8 w7 => Sh w7 ∧ (u8 ≠ 0 → pC 237 [.ref 169, iv (gI w1 169 11), iv (gI w4 169 11), iv (gI w7 169 11), iv 1] w7 (kV fun w10 => Sh w10 ∧ Q (.inl (some (iv 1))) w10)) ∧ (u8 = 0 → Q (.inl (some (iv 0))) w7))) ∧ (u5 = 0 → Q (.inl (some (iv 0))) w4))) ∧ (u2 = 0 → Q (.inl (some (iv 0))) w1))) : pC 238 [.ref 169] w Q :=
  (pC_in (Nat.le_of_ble_eq_true rfl) rfl Q).mpr (v238_0 hs  h)
/-! 239: PinBarrelModel.readStatement()Z -/
theorem b239 : mB 239 = cX9_readStatement := rfl
theorem r239 : mR 239 = (some .boolean) := rfl
theorem p239 (a b : Nat) : phi 239 a ≤ phi 239 b := Nat.le_refl 0
theorem d239_0 : decode cX9_readStatement 0 = .ok (.aload_n 0, 1) := by decide +kernel
theorem d239_1 : decode cX9_readStatement 1 = .ok (.getfield 164, 3) := by decide +kernel
theorem d239_4 : decode cX9_readStatement 4 = .ok (.ifCond .ne 29, 3) := by decide +kernel
theorem d239_7 : decode cX9_readStatement 7 = .ok (.aload_n 0, 1) := by decide +kernel
theorem d239_8 : decode cX9_readStatement 8 = .ok (.ldc 167, 2) := by decide +kernel
theorem d239_10 : decode cX9_readStatement 10 = .ok (.invokevirtual 140, 3) := by decide +kernel
theorem d239_13 : decode cX9_readStatement 13 = .ok (.ifCond .eq 10, 3) := by decide +kernel
theorem d239_16 : decode cX9_readStatement 16 = .ok (.aload_n 0, 1) := by decide +kernel
theorem d239_17 : decode cX9_readStatement 17 = .ok (.invokevirtual 169, 3) := by decide +kernel
theorem d239_20 : decode cX9_readStatement 20 = .ok (.goto 12, 3) := by decide +kernel
theorem d239_23 : decode cX9_readStatement 23 = .ok (.aload_n 0, 1) := by decide +kernel
theorem d239_24 : decode cX9_readStatement 24 = .ok (.iconst 1, 1) := by decide +kernel
theorem d239_25 : decode cX9_readStatement 25 = .ok (.aload_n 0, 1) := by decide +kernel
theorem d239_26 : decode cX9_readStatement 26 = .ok (.getfield 70, 3) := by decide +kernel
theorem d239_29 : decode cX9_readStatement 29 = .ok (.invokevirtual 85, 3) := by decide +kernel
theorem d239_32 : decode cX9_readStatement 32 = .ok (.ireturn, 1) := by decide +kernel
theorem d239_33 : decode cX9_readStatement 33 = .ok (.aload_n 0, 1) := by decide +kernel
theorem d239_34 : decode cX9_readStatement 34 = .ok (.ldc 172, 2) := by decide +kernel
theorem d239_36 : decode cX9_readStatement 36 = .ok (.invokevirtual 140, 3) := by decide +kernel
theorem d239_39 : decode cX9_readStatement 39 = .ok (.ifCond .eq 8, 3) := by decide +kernel
theorem d239_42 : decode cX9_readStatement 42 = .ok (.aload_n 0, 1) := by decide +kernel
theorem d239_43 : decode cX9_readStatement 43 = .ok (.invokevirtual 174, 3) := by decide +kernel
theorem d239_46 : decode cX9_readStatement 46 = .ok (.ireturn, 1) := by decide +kernel
theorem d239_47 : decode cX9_readStatement 47 = .ok (.aload_n 0, 1) := by decide +kernel
theorem d239_48 : decode cX9_readStatement 48 = .ok (.ldc 177, 2) := by decide +kernel
theorem d239_50 : decode cX9_readStatement 50 = .ok (.invokevirtual 140, 3) := by decide +kernel
theorem d239_53 : decode cX9_readStatement 53 = .ok (.ifCond .eq 12, 3) := by decide +kernel
theorem d239_56 : decode cX9_readStatement 56 = .ok (.aload_n 0, 1) := by decide +kernel
theorem d239_57 : decode cX9_readStatement 57 = .ok (.aload_n 0, 1) := by decide +kernel
theorem d239_58 : decode cX9_readStatement 58 = .ok (.getfield 70, 3) := by decide +kernel
theorem d239_61 : decode cX9_readStatement 61 = .ok (.invokevirtual 179, 3) := by decide +kernel
theorem d239_64 : decode cX9_readStatement 64 = .ok (.ireturn, 1) := by decide +kernel
theorem d239_65 : decode cX9_readStatement 65 = .ok (.aload_n 0, 1) := by decide +kernel
theorem d239_66 : decode cX9_readStatement 66 = .ok (.ldc 183, 2) := by decide +kernel
theorem d239_68 : decode cX9_readStatement 68 = .ok (.invokevirtual 140, 3) := by decide +kernel
theorem d239_71 : decode cX9_readStatement 71 = .ok (.ifCond .eq 12, 3) := by decide +kernel
theorem d239_74 : decode cX9_readStatement 74 = .ok (.aload_n 0, 1) := by decide +kernel
theorem d239_75 : decode cX9_readStatement 75 = .ok (.aload_n 0, 1) := by decide +kernel
theorem d239_76 : decode cX9_readStatement 76 = .ok (.getfield 70, 3) := by decide +kernel
theorem d239_79 : decode cX9_readStatement 79 = .ok (.invokevirtual 185, 3) := by decide +kernel
theorem d239_82 : decode cX9_readStatement 82 = .ok (.ireturn, 1) := by decide +kernel
theorem d239_83 : decode cX9_readStatement 83 = .ok (.aload_n 0, 1) := by decide +kernel
theorem d239_84 : decode cX9_readStatement 84 = .ok (.ldc 188, 2) := by decide +kernel
theorem d239_86 : decode cX9_readStatement 86 = .ok (.invokevirtual 140, 3) := by decide +kernel
theorem d239_89 : decode cX9_readStatement 89 = .ok (.ifCond .eq 10, 3) := by decide +kernel
theorem d239_92 : decode cX9_readStatement 92 = .ok (.aload_n 0, 1) := by decide +kernel
theorem d239_93 : decode cX9_readStatement 93 = .ok (.invokevirtual 190, 3) := by decide +kernel
theorem d239_96 : decode cX9_readStatement 96 = .ok (.goto 12, 3) := by decide +kernel
theorem d239_99 : decode cX9_readStatement 99 = .ok (.aload_n 0, 1) := by decide +kernel
theorem d239_100 : decode cX9_readStatement 100 = .ok (.iconst 1, 1) := by decide +kernel
theorem d239_101 : decode cX9_readStatement 101 = .ok (.aload_n 0, 1) := by decide +kernel
theorem d239_102 : decode cX9_readStatement 102 = .ok (.getfield 70, 3) := by decide +kernel
theorem d239_105 : decode cX9_readStatement 105 = .ok (.invokevirtual 85, 3) := by decide +kernel
theorem d239_108 : decode cX9_readStatement 108 = .ok (.ireturn, 1) := by decide +kernel
theorem v239_0 {w : PW} {Q : PO → PW → Prop}  (hs : Sh w)  (h : ((gI w 169 14) ≠ 0 → pC 223 [.ref 169, .ref (pSB + 34)] w (kI fun u3 w2 => Sh w2 ∧ (u3 = 0 → pC 223 [.ref 169, .ref (pSB + 35)] w2 (kI fun u6 w5 => Sh w5 ∧ (u6 = 0 → pC 223 [.ref 169, .ref (pSB + 36)] w5 (kI fun u9 w8 => Sh w8 ∧ (u9 = 0 → pC 223 [.ref 169, .ref (pSB + 37)] w8 (kI fun u12 w11 => Sh w11 ∧ (u12 = 0 → ∀ w14 : PW, w14 = sI (sI w11 169 12 1) 169 13 (gI w11 169 10) → Q (.inl (some (iv 0))) w14) ∧ (u12 ≠ 0 → pC 238 [.ref 169] w11 (kI fun u16 w15 => Sh w15 ∧ (u16 = 0 ∨ u16 = 1) ∧ Q (.inl (some (iv u16))) w15)))) ∧ (u9 ≠ 0 → pC 235 [.ref 169, iv (gI w8 169 10)] w8 (kI fun u18 w17 => Sh w17 ∧ (u18 = 0 ∨ u18 = 1) ∧ Q (.inl (some (iv u18))) w17)))) ∧ (u6 ≠ 0 → pC 232 [.ref 169, iv (gI w5 169 10)] w5 (kI fun u20 w19 => Sh w19 ∧ (u20 = 0 ∨ u20 = 1) ∧ Q (.inl (some (iv u20))) w19)))) ∧ (u3 ≠ 0 → pC 227 [.ref 169] w2 (kI fun u22 w21 => Sh w21 ∧ (u22 = 0 ∨ u22 = 1) ∧ Q (.inl (some (iv u22))) w21)))) ∧ ((gI w 169 14) = 0 → pC 223 [.ref 169, .ref (pSB + 33)] w (kI fun u24 w23 => Sh w23 ∧ (u24 = 0 → ∀ w26 : PW, w26 = sI (sI w23 169 12 1) 169 13 (gI w23 169 10) → Q (.inl (some (iv 0))) w26) ∧ (u24 ≠ 0 → pC 226 [.ref 169] w23 (kI fun u28 w27 => Sh w27 ∧ (u28 = 0 ∨ u28 = 1) ∧ Q (.inl (some (iv u28))) w27))))) : pX 239 0 [some (.ref 169)] [] w Q :=
  w_f b239 d239_0 rfl rfl rfl <| w_gi b239 d239_1 rfl rfl hs (tlt 169 rfl) tbC_169 rfl <| w_ifne b239 d239_4 rfl rfl (p239 _ _) (bd_gI _ _ _) (fun c1 => w_f b239 d239_33 rfl rfl rfl <| w_ldcS b239 d239_34 rfl rfl <| w_c b239 d239_36 rfl (pcl_v (n := 1) rfl rfl rfl (by decide +kernel) (sh_isOb hs (tlt 169 rfl) tbC_169) rfl rfl) rfl _ (hK_I fun u3 w2 hbu3 hkw2 => w_ifeq b239 d239_39 rfl rfl (p239 _ _) hbu3 (fun c4 => w_f b239 d239_47 rfl rfl rfl <| w_ldcS b239 d239_48 rfl rfl <| w_c b239 d239_50 rfl (pcl_v (n := 1) rfl rfl rfl (by decide +kernel) (sh_isOb hkw2.1 (tlt 169 rfl) tbC_169) rfl rfl) rfl _ (hK_I fun u6 w5 hbu6 hkw5 => w_ifeq b239 d239_53 rfl rfl (p239 _ _) hbu6 (fun c7 => w_f b239 d239_65 rfl rfl rfl <| w_ldcS b239 d239_66 rfl rfl <| w_c b239 d239_68 rfl (pcl_v (n := 1) rfl rfl rfl (by decide +kernel) (sh_isOb hkw5.1 (tlt 169 rfl) tbC_169) rfl rfl) rfl _ (hK_I fun u9 w8 hbu9 hkw8 => w_ifeq b239 d239_71 rfl rfl (p239 _ _) hbu9 (fun c10 => w_f b239 d239_83 rfl rfl rfl <| w_ldcS b239 d239_84 rfl rfl <| w_c b239 d239_86 rfl (pcl_v (n := 1) rfl rfl rfl (by decide +kernel) (sh_isOb hkw8.1 (tlt 169 rfl) tbC_169) rfl rfl) rfl _ (hK_I fun u12 w11 hbu12 hkw11 => w_ifeq b239 d239_89 rfl rfl (p239 _ _) hbu12 (fun c13 => w_f b239 d239_99 rfl rfl rfl <| w_f b239 d239_100 rfl rfl rfl <| w_f b239 d239_101 rfl rfl rfl <| w_gi b239 d239_102 rfl rfl hkw11.1 (tlt 169 rfl) tbC_169 rfl <| w_cc b239 d239_105 rfl (pcl_v (n := 2) rfl rfl rfl (by decide +kernel) (sh_isOb hkw11.1 (tlt 169 rfl) tbC_169) rfl rfl) rfl <| c224 hkw11.1 ⟨by decide, by decide⟩ (bd_gI _ _ _) <| w_rz b239 d239_108 r239 (by decide) ((hkw11.2.1 c13) _ rfl)) (fun c13 => w_f b239 d239_92 rfl rfl rfl <| w_c b239 d239_93 rfl (pcl_v (n := 0) rfl rfl rfl (by decide +kernel) (sh_isOb hkw11.1 (tlt 169 rfl) tbC_169) rfl rfl) rfl _ (hK_I fun u16 w15 hbu16 hkw15 => w_j b239 d239_96 rfl (p239 _ _) <| w_rz b239 d239_108 r239 hkw15.2.1 hkw15.2.2) (hkw11.2.2 c13))) (hkw8.2.1 c10)) (fun c10 => w_f b239 d239_74 rfl rfl rfl <| w_f b239 d239_75 rfl rfl rfl <| w_gi b239 d239_76 rfl rfl hkw8.1 (tlt 169 rfl) tbC_169 rfl <| w_c b239 d239_79 rfl (pcl_v (n := 1) rfl rfl rfl (by decide +kernel) (sh_isOb hkw8.1 (tlt 169 rfl) tbC_169) rfl rfl) rfl _ (hK_I fun u18 w17 hbu18 hkw17 => w_rz b239 d239_82 r239 hkw17.2.1 hkw17.2.2) (hkw8.2.2 c10))) (hkw5.2.1 c7)) (fun c7 => w_f b239 d239_56 rfl rfl rfl <| w_f b239 d239_57 rfl rfl rfl <| w_gi b239 d239_58 rfl rfl hkw5.1 (tlt 169 rfl) tbC_169 rfl <| w_c b239 d239_61 rfl (pcl_v (n := 1) rfl rfl rfl (by decide +kernel) (sh_isOb hkw5.1 (tlt 169 rfl) tbC_169) rfl rfl) rfl _ (hK_I fun u20 w19 hbu20 hkw19 => w_rz b239 d239_64 r239 hkw19.2.1 hkw19.2.2) (hkw5.2.2 c7))) (hkw2.2.1 c4)) (fun c4 => w_f b239 d239_42 rfl rfl rfl <| w_c b239 d239_43 rfl (pcl_v (n := 0) rfl rfl rfl (by decide +kernel) (sh_isOb hkw2.1 (tlt 169 rfl) tbC_169) rfl rfl) rfl _ (hK_I fun u22 w21 hbu22 hkw21 => w_rz b239 d239_46 r239 hkw21.2.1 hkw21.2.2) (hkw2.2.2 c4))) (h.1 c1)) (fun c1 => w_f b239 d239_7 rfl rfl rfl <| w_ldcS b239 d239_8 rfl rfl <| w_c b239 d239_10 rfl (pcl_v (n := 1) rfl rfl rfl (by decide +kernel) (sh_isOb hs (tlt 169 rfl) tbC_169) rfl rfl) rfl _ (hK_I fun u24 w23 hbu24 hkw23 => w_ifeq b239 d239_13 rfl rfl (p239 _ _) hbu24 (fun c25 => w_f b239 d239_23 rfl rfl rfl <| w_f b239 d239_24 rfl rfl rfl <| w_f b239 d239_25 rfl rfl rfl <| w_gi b239 d239_26 rfl rfl hkw23.1 (tlt 169 rfl) tbC_169 rfl <| w_cc b239 d239_29 rfl (pcl_v (n := 2) rfl rfl rfl (by decide +kernel) (sh_isOb hkw23.1 (tlt 169 rfl) tbC_169) rfl rfl) rfl <| c224 hkw23.1 ⟨by decide, by decide⟩ (bd_gI _ _ _) <| w_rz b239 d239_32 r239 (by decide) ((hkw23.2.1 c25) _ rfl)) (fun c25 => w_f b239 d239_16 rfl rfl rfl <| w_c b239 d239_17 rfl (pcl_v (n := 0) rfl rfl rfl (by decide +kernel) (sh_isOb hkw23.1 (tlt 169 rfl) tbC_169) rfl rfl) rfl _ (hK_I fun u28 w27 hbu28 hkw27 => w_j b239 d239_20 rfl (p239 _ _) <| w_rz b239 d239_32 r239 hkw27.2.1 hkw27.2.2) (hkw23.2.2 c25))) (h.2 c1))
theorem e239 {w : PW} {Q : PO → PW → Prop}  (hs : Sh w)  (h : ((gI w 169 14) ≠ 0 → pC 223 [.ref 169, .ref (pSB + 34)] w (kI fun u3 w2 => Sh w2 ∧ (u3 = 0 → pC 223 [.ref 169, .ref (pSB + 35)] w2 (kI fun u6 w5 => Sh w5 ∧ (u6 = 0 → pC 223 [.ref 169, .ref (pSB + 36)] w5 (kI fun u9 w8 => Sh w8 ∧ (u9 = 0 → pC 223 [.ref 169, .ref (pSB + 37)] w8 (kI fun u12 w11 => Sh w11 ∧ (u12 = 0 → ∀ w14 : PW, w14 = sI (sI w11 169 12 1) 169 13 (gI w11 169 10) → Q (.inl (some (iv 0))) w14) ∧ (u12 ≠ 0 → pC 238 [.ref 169] w11 (kI fun u16 w15 => Sh w15 ∧ (u16 = 0 ∨ u16 = 1) ∧ Q (.inl (some (iv u16))) w15)))) ∧ (u9 ≠ 0 → pC 235 [.ref 169, iv (gI w8 169 10)] w8 (kI fun u18 w17 => Sh w17 ∧ (u18 = 0 ∨ u18 = 1) ∧ Q (.inl (some (iv u18))) w17)))) ∧ (u6 ≠ 0 → pC 232 [.ref 169, iv (gI w5 169 10)] w5 (kI fun u20 w19 => Sh w19 ∧ (u20 = 0 ∨ u20 = 1) ∧ Q (.inl (some (iv u20))) w19)))) ∧ (u3 ≠ 0 → pC 227 [.ref 169] w2 (kI fun u22 w21 => Sh w21 ∧ (u22 = 0 ∨ u22 = 1) ∧ Q (.inl (some (iv u22))) w21)))) ∧ ((gI w 169 14) = 0 → pC 223 [.ref 169, .ref (pSB + 33)] w (kI fun u24 w23 => Sh w23 ∧ (u24 = 0 → ∀ w26 : PW, w26 = sI (sI w23 169 12 1) 169 13 (gI w23 169 10) → Q (.inl (some (iv 0))) w26) ∧ (u24 ≠ 0 → pC 226 [.ref 169] w23 (kI fun u28 w27 => Sh w27 ∧ (u28 = 0 ∨ u28 = 1) ∧ Q (.inl (some (iv u28))) w27))))) : pC 239 [.ref 169] w Q :=
  (pC_in (Nat.le_of_ble_eq_true rfl) rfl Q).mpr (v239_0 hs  h)
/-! 240: PinBarrelModel.readAll()Z -/
theorem b240 : mB 240 = cX9_readAll := rfl
theorem r240 : mR 240 = (some .boolean) := rfl
theorem p240 (a b : Nat) : phi 240 a ≤ phi 240 b := Nat.le_refl 0
theorem d240_0 : decode cX9_readAll 0 = .ok (.aload_n 0, 1) := by decide +kernel
theorem d240_1 : decode cX9_readAll 1 = .ok (.iconst 0, 1) := by decide +kernel
theorem d240_2 : decode cX9_readAll 2 = .ok (.putfield 67, 3) := by decide +kernel
theorem d240_5 : decode cX9_readAll 5 = .ok (.aload_n 0, 1) := by decide +kernel
theorem d240_6 : decode cX9_readAll 6 = .ok (.iconst 0, 1) := by decide +kernel
theorem d240_7 : decode cX9_readAll 7 = .ok (.putfield 164, 3) := by decide +kernel
theorem d240_10 : decode cX9_readAll 10 = .ok (.aload_n 0, 1) := by decide +kernel
theorem d240_11 : decode cX9_readAll 11 = .ok (.invokevirtual 193, 3) := by decide +kernel
theorem d240_14 : decode cX9_readAll 14 = .ok (.ifCond .ne 5, 3) := by decide +kernel
theorem d240_17 : decode cX9_readAll 17 = .ok (.iconst 0, 1) := by decide +kernel
theorem d240_18 : decode cX9_readAll 18 = .ok (.ireturn, 1) := by decide +kernel
theorem d240_19 : decode cX9_readAll 19 = .ok (.aload_n 0, 1) := by decide +kernel
theorem d240_20 : decode cX9_readAll 20 = .ok (.invokevirtual 73, 3) := by decide +kernel
theorem d240_23 : decode cX9_readAll 23 = .ok (.istore_n 1, 1) := by decide +kernel
theorem d240_24 : decode cX9_readAll 24 = .ok (.iload_n 1, 1) := by decide +kernel
theorem d240_25 : decode cX9_readAll 25 = .ok (.iconst (-1), 1) := by decide +kernel
theorem d240_26 : decode cX9_readAll 26 = .ok (.if_icmp .ne 5, 3) := by decide +kernel
theorem d240_29 : decode cX9_readAll 29 = .ok (.iconst 1, 1) := by decide +kernel
theorem d240_30 : decode cX9_readAll 30 = .ok (.ireturn, 1) := by decide +kernel
theorem d240_31 : decode cX9_readAll 31 = .ok (.iload_n 1, 1) := by decide +kernel
theorem d240_32 : decode cX9_readAll 32 = .ok (.bipush 59, 2) := by decide +kernel
theorem d240_34 : decode cX9_readAll 34 = .ok (.if_icmp .eq 13, 3) := by decide +kernel
theorem d240_37 : decode cX9_readAll 37 = .ok (.aload_n 0, 1) := by decide +kernel
theorem d240_38 : decode cX9_readAll 38 = .ok (.iconst 1, 1) := by decide +kernel
theorem d240_39 : decode cX9_readAll 39 = .ok (.aload_n 0, 1) := by decide +kernel
theorem d240_40 : decode cX9_readAll 40 = .ok (.getfield 70, 3) := by decide +kernel
theorem d240_43 : decode cX9_readAll 43 = .ok (.invokevirtual 85, 3) := by decide +kernel
theorem d240_46 : decode cX9_readAll 46 = .ok (.ireturn, 1) := by decide +kernel
theorem d240_47 : decode cX9_readAll 47 = .ok (.aload_n 0, 1) := by decide +kernel
theorem d240_48 : decode cX9_readAll 48 = .ok (.dup, 1) := by decide +kernel
theorem d240_49 : decode cX9_readAll 49 = .ok (.getfield 67, 3) := by decide +kernel
theorem d240_52 : decode cX9_readAll 52 = .ok (.iconst 1, 1) := by decide +kernel
theorem d240_53 : decode cX9_readAll 53 = .ok (.iadd, 1) := by decide +kernel
theorem d240_54 : decode cX9_readAll 54 = .ok (.putfield 67, 3) := by decide +kernel
theorem d240_57 : decode cX9_readAll 57 = .ok (.aload_n 0, 1) := by decide +kernel
theorem d240_58 : decode cX9_readAll 58 = .ok (.dup, 1) := by decide +kernel
theorem d240_59 : decode cX9_readAll 59 = .ok (.getfield 164, 3) := by decide +kernel
theorem d240_62 : decode cX9_readAll 62 = .ok (.iconst 1, 1) := by decide +kernel
theorem d240_63 : decode cX9_readAll 63 = .ok (.iadd, 1) := by decide +kernel
theorem d240_64 : decode cX9_readAll 64 = .ok (.putfield 164, 3) := by decide +kernel
theorem d240_67 : decode cX9_readAll 67 = .ok (.goto (-57), 3) := by decide +kernel
theorem v240_0 {w : PW} {Q : PO → PW → Prop}  (hs : Sh w)  (h : ∀ w1 : PW, w1 = sI w 169 9 0 → ∀ w2 : PW, w2 = sI w1 169 14 0 → pX 240 10 [some (.ref 169), none] [] w2 Q) : pX 240 0 [some (.ref 169), none] [] w Q :=
  w_f b240 d240_0 rfl rfl rfl <| w_f b240 d240_1 rfl rfl rfl <| w_pi b240 d240_2 rfl rfl hs (tlt 169 rfl) tbC_169 rfl rfl rfl <| w_f b240 d240_5 rfl rfl rfl <| w_f b240 d240_6 rfl rfl rfl <| w_pi b240 d240_7 rfl rfl (Sh_sI hs (slt_o tbC_169 rfl)) (tlt 169 rfl) tbC_169 rfl rfl rfl <| ((h _ rfl) _ rfl)
theorem e240 {w : PW} {Q : PO → PW → Prop}  (hs : Sh w)  (h : ∀ w1 : PW, w1 = sI w 169 9 0 → ∀ w2 : PW, w2 = sI w1 169 14 0 → pX 240 10 [some (.ref 169), none] [] w2 Q) : pC 240 [.ref 169] w Q :=
  (pC_in (Nat.le_of_ble_eq_true rfl) rfl Q).mpr (v240_0 hs  h)
theorem v240_10 {w : PW} {Q : PO → PW → Prop} {o1 : Option Value} (hs : Sh w) (ho1 : pc2 o1 = false) (h : pC 239 [.ref 169] w (kI fun u2 w1 => Sh w1 ∧ (u2 ≠ 0 → pC 220 [.ref 169] w1 (kI fun u5 w4 => Sh w4 ∧ (u5 ≠ ((-1)) → (u5 = 59 → ∀ w8 : PW, w8 = sI w4 169 9 ((gI w4 169 9) + 1) → ∀ w9 : PW, w9 = sI w8 169 14 ((gI w8 169 14) + 1) → pX 240 10 [some (.ref 169), some (iv u5)] [] w9 Q) ∧ (u5 ≠ 59 → ∀ w10 : PW, w10 = sI (sI w4 169 12 1) 169 13 (gI w4 169 10) → Q (.inl (some (iv 0))) w10)) ∧ (u5 = ((-1)) → Q (.inl (some (iv 1))) w4))) ∧ (u2 = 0 → Q (.inl (some (iv 0))) w1))) : pX 240 10 [some (.ref 169), o1] [] w Q :=
  w_f b240 d240_10 rfl rfl rfl <| w_c b240 d240_11 rfl (pcl_v (n := 0) rfl rfl rfl (by decide +kernel) (sh_isOb hs (tlt 169 rfl) tbC_169) rfl rfl) rfl _ (hK_I fun u2 w1 hbu2 hkw1 => w_ifne b240 d240_14 rfl rfl (p240 _ _) hbu2 (fun c3 => w_f b240 d240_19 rfl rfl rfl <| w_c b240 d240_20 rfl (pcl_v (n := 0) rfl rfl rfl (by decide +kernel) (sh_isOb hkw1.1 (tlt 169 rfl) tbC_169) rfl rfl) rfl _ (hK_I fun u5 w4 hbu5 hkw4 => w_f b240 d240_23 rfl rfl rfl <| w_f b240 d240_24 rfl rfl rfl <| w_f b240 d240_25 rfl rfl rfl <| w_icne b240 d240_26 rfl rfl (p240 _ _) hbu5 ⟨by decide, by decide⟩ (fun c6 => w_f b240 d240_31 rfl rfl rfl <| w_f b240 d240_32 rfl rfl rfl <| w_iceq b240 d240_34 rfl rfl (p240 _ _) hbu5 ⟨by decide, by decide⟩ (fun c7 => w_f b240 d240_47 rfl rfl rfl <| w_f b240 d240_48 rfl rfl rfl <| w_gi b240 d240_49 rfl rfl hkw4.1 (tlt 169 rfl) tbC_169 rfl <| w_f b240 d240_52 rfl rfl rfl <| w_f b240 d240_53 rfl (pf_iadd _ 1) rfl <| w_pi b240 d240_54 rfl rfl hkw4.1 (tlt 169 rfl) tbC_169 rfl rfl rfl <| w_f b240 d240_57 rfl rfl rfl <| w_f b240 d240_58 rfl rfl rfl <| w_gi b240 d240_59 rfl rfl (Sh_sI hkw4.1 (slt_o tbC_169 rfl)) (tlt 169 rfl) tbC_169 rfl <| w_f b240 d240_62 rfl rfl rfl <| w_f b240 d240_63 rfl (pf_iadd _ 1) rfl <| w_pi b240 d240_64 rfl rfl (Sh_sI hkw4.1 (slt_o tbC_169 rfl)) (tlt 169 rfl) tbC_169 rfl rfl rfl <| w_j b240 d240_67 rfl (p240 _ _) <| ((((hkw4.2.1 c6).1 c7) _ rfl) _ rfl)) (fun c7 => w_f b240 d240_37 rfl rfl rfl <| w_f b240 d240_38 rfl rfl rfl <| w_f b240 d240_39 rfl rfl rfl <| w_gi b240 d240_40 rfl rfl hkw4.1 (tlt 169 rfl) tbC_169 rfl <| w_cc b240 d240_43 rfl (pcl_v (n := 2) rfl rfl rfl (by decide +kernel) (sh_isOb hkw4.1 (tlt 169 rfl) tbC_169) rfl rfl) rfl <| c224 hkw4.1 ⟨by decide, by decide⟩ (bd_gI _ _ _) <| w_rz b240 d240_46 r240 (by decide) (((hkw4.2.1 c6).2 c7) _ rfl))) (fun c6 => w_f b240 d240_29 rfl rfl rfl <| w_rz b240 d240_30 r240 (by decide) (hkw4.2.2 c6))) (hkw1.2.1 c3)) (fun c3 => w_f b240 d240_17 rfl rfl rfl <| w_rz b240 d240_18 r240 (by decide) (hkw1.2.2 c3))) h
/-! 242: PinBarrelModel.load()I -/
theorem b242 : mB 242 = cX9_load := rfl
theorem r242 : mR 242 = (some .int) := rfl
theorem p242 (a b : Nat) : phi 242 a ≤ phi 242 b := Nat.le_refl 0
theorem d242_0 : decode cX9_load 0 = .ok (.aload_n 0, 1) := by decide +kernel
theorem d242_1 : decode cX9_load 1 = .ok (.iconst 0, 1) := by decide +kernel
theorem d242_2 : decode cX9_load 2 = .ok (.putfield 50, 3) := by decide +kernel
theorem d242_5 : decode cX9_load 5 = .ok (.aload_n 0, 1) := by decide +kernel
theorem d242_6 : decode cX9_load 6 = .ok (.iconst 0, 1) := by decide +kernel
theorem d242_7 : decode cX9_load 7 = .ok (.putfield 61, 3) := by decide +kernel
theorem d242_10 : decode cX9_load 10 = .ok (.aload_n 0, 1) := by decide +kernel
theorem d242_11 : decode cX9_load 11 = .ok (.iconst (-1), 1) := by decide +kernel
theorem d242_12 : decode cX9_load 12 = .ok (.putfield 30, 3) := by decide +kernel
theorem d242_15 : decode cX9_load 15 = .ok (.aload_n 0, 1) := by decide +kernel
theorem d242_16 : decode cX9_load 16 = .ok (.invokevirtual 196, 3) := by decide +kernel
theorem d242_19 : decode cX9_load 19 = .ok (.aload_n 0, 1) := by decide +kernel
theorem d242_20 : decode cX9_load 20 = .ok (.invokevirtual 199, 3) := by decide +kernel
theorem d242_23 : decode cX9_load 23 = .ok (.istore_n 1, 1) := by decide +kernel
theorem d242_24 : decode cX9_load 24 = .ok (.aload_n 0, 1) := by decide +kernel
theorem d242_25 : decode cX9_load 25 = .ok (.iconst 0, 1) := by decide +kernel
theorem d242_26 : decode cX9_load 26 = .ok (.putfield 58, 3) := by decide +kernel
theorem d242_29 : decode cX9_load 29 = .ok (.iload_n 1, 1) := by decide +kernel
theorem d242_30 : decode cX9_load 30 = .ok (.ifCond .ne 23, 3) := by decide +kernel
theorem d242_33 : decode cX9_load 33 = .ok (.aload_n 0, 1) := by decide +kernel
theorem d242_34 : decode cX9_load 34 = .ok (.aload_n 0, 1) := by decide +kernel
theorem d242_35 : decode cX9_load 35 = .ok (.getfield 164, 3) := by decide +kernel
theorem d242_38 : decode cX9_load 38 = .ok (.putfield 30, 3) := by decide +kernel
theorem d242_41 : decode cX9_load 41 = .ok (.aload_n 0, 1) := by decide +kernel
theorem d242_42 : decode cX9_load 42 = .ok (.bipush (-100), 2) := by decide +kernel
theorem d242_44 : decode cX9_load 44 = .ok (.aload_n 0, 1) := by decide +kernel
theorem d242_45 : decode cX9_load 45 = .ok (.getfield 64, 3) := by decide +kernel
theorem d242_48 : decode cX9_load 48 = .ok (.isub, 1) := by decide +kernel
theorem d242_49 : decode cX9_load 49 = .ok (.invokevirtual 202, 3) := by decide +kernel
theorem d242_52 : decode cX9_load 52 = .ok (.ireturn, 1) := by decide +kernel
theorem d242_53 : decode cX9_load 53 = .ok (.aload_n 0, 1) := by decide +kernel
theorem d242_54 : decode cX9_load 54 = .ok (.iconst 0, 1) := by decide +kernel
theorem d242_55 : decode cX9_load 55 = .ok (.putfield 53, 3) := by decide +kernel
theorem d242_58 : decode cX9_load 58 = .ok (.aload_n 0, 1) := by decide +kernel
theorem d242_59 : decode cX9_load 59 = .ok (.getfield 9, 3) := by decide +kernel
theorem d242_62 : decode cX9_load 62 = .ok (.iconst 5, 1) := by decide +kernel
theorem d242_63 : decode cX9_load 63 = .ok (.iaload, 1) := by decide +kernel
theorem d242_64 : decode cX9_load 64 = .ok (.ireturn, 1) := by decide +kernel
theorem v242_0 {w : PW} {Q : PO → PW → Prop}  (hs : Sh w)  (h : ∀ w1 : PW, w1 = sI w 169 0 0 → ∀ w2 : PW, w2 = sI w1 169 12 0 → ∀ w3 : PW, w3 = sI w2 169 15 ((-1)) → pC 219 [.ref 169] w3 (kV fun w4 => Sh w4 ∧ pC 240 [.ref 169] w4 (kI fun u7 w6 => Sh w6 ∧ ∀ w8 : PW, w8 = sI w6 169 8 0 → (u7 ≠ 0 → ∀ w10 : PW, w10 = sI w8 169 6 0 → Q (.inl (some (iv (gI w10 170 5)))) w10) ∧ (u7 = 0 → ∀ w11 : PW, w11 = sI w8 169 15 (gI w8 169 14) → pC 241 [.ref 169, iv (((-100)) - (gI w11 169 13))] w11 (kI fun u13 w12 => Sh w12 ∧ Q (.inl (some (iv u13))) w12))))) : pX 242 0 [some (.ref 169), none] [] w Q :=
  w_f b242 d242_0 rfl rfl rfl <| w_f b242 d242_1 rfl rfl rfl <| w_pi b242 d242_2 rfl rfl hs (tlt 169 rfl) tbC_169 rfl rfl rfl <| w_f b242 d242_5 rfl rfl rfl <| w_f b242 d242_6 rfl rfl rfl <| w_pi b242 d242_7 rfl rfl (Sh_sI hs (slt_o tbC_169 rfl)) (tlt 169 rfl) tbC_169 rfl rfl rfl <| w_f b242 d242_10 rfl rfl rfl <| w_f b242 d242_11 rfl rfl rfl <| w_pi b242 d242_12 rfl rfl (Sh_sI (Sh_sI hs (slt_o tbC_169 rfl)) (slt_o tbC_169 rfl)) (tlt 169 rfl) tbC_169 rfl rfl rfl <| w_f b242 d242_15 rfl rfl rfl <| w_c b242 d242_16 rfl (pcl_v (n := 0) rfl rfl rfl (by decide +kernel) (sh_isOb (Sh_sI (Sh_sI (Sh_sI hs (slt_o tbC_169 rfl)) (slt_o tbC_169 rfl)) (slt_o tbC_169 rfl)) (tlt 169 rfl) tbC_169) rfl rfl) rfl _ (hK_V fun w4 hkw4 => w_f b242 d242_19 rfl rfl rfl <| w_c b242 d242_20 rfl (pcl_v (n := 0) rfl rfl rfl (by decide +kernel) (sh_isOb hkw4.1 (tlt 169 rfl) tbC_169) rfl rfl) rfl _ (hK_I fun u7 w6 hbu7 hkw6 => w_f b242 d242_23 rfl rfl rfl <| w_f b242 d242_24 rfl rfl rfl <| w_f b242 d242_25 rfl rfl rfl <| w_pi b242 d242_26 rfl rfl hkw6.1 (tlt 169 rfl) tbC_169 rfl rfl rfl <| w_f b242 d242_29 rfl rfl rfl <| w_ifne b242 d242_30 rfl rfl (p242 _ _) hbu7 (fun c9 => w_f b242 d242_53 rfl rfl rfl <| w_f b242 d242_54 rfl rfl rfl <| w_pi b242 d242_55 rfl rfl (Sh_sI hkw6.1 (slt_o tbC_169 rfl)) (tlt 169 rfl) tbC_169 rfl rfl rfl <| w_f b242 d242_58 rfl rfl rfl <| w_gr b242 d242_59 rfl rfl (Sh_sI (Sh_sI hkw6.1 (slt_o tbC_169 rfl)) (slt_o tbC_169 rfl)) (tlt 169 rfl) tbC_169 rfl (by decide) <| w_f b242 d242_62 rfl rfl rfl <| w_ial b242 d242_63 rfl (Sh_sI (Sh_sI hkw6.1 (slt_o tbC_169 rfl)) (slt_o tbC_169 rfl)) (tlt 170 rfl) tbC_170 (bdix (n := 843) ⟨by decide, by decide⟩ rfl) ⟨by decide, by decide⟩ <| w_ri b242 d242_64 r242 (((hkw6.2 _ rfl).1 c9) _ rfl)) (fun c9 => w_f b242 d242_33 rfl rfl rfl <| w_f b242 d242_34 rfl rfl rfl <| w_gi b242 d242_35 rfl rfl (Sh_sI hkw6.1 (slt_o tbC_169 rfl)) (tlt 169 rfl) tbC_169 rfl <| w_pi b242 d242_38 rfl rfl (Sh_sI hkw6.1 (slt_o tbC_169 rfl)) (tlt 169 rfl) tbC_169 rfl rfl rfl <| w_f b242 d242_41 rfl rfl rfl <| w_f b242 d242_42 rfl (pf_bip (by decide +kernel)) rfl <| w_f b242 d242_44 rfl rfl rfl <| w_gi b242 d242_45 rfl rfl (Sh_sI (Sh_sI hkw6.1 (slt_o tbC_169 rfl)) (slt_o tbC_169 rfl)) (tlt 169 rfl) tbC_169 rfl <| w_f b242 d242_48 rfl (pf_isub ((-100)) _) rfl <| w_c b242 d242_49 rfl (pcl_v (n := 1) rfl rfl rfl (by decide +kernel) (sh_isOb (Sh_sI (Sh_sI hkw6.1 (slt_o tbC_169 rfl)) (slt_o tbC_169 rfl)) (tlt 169 rfl) tbC_169) rfl rfl) rfl _ (hK_I fun u13 w12 hbu13 hkw12 => w_ri b242 d242_52 r242 hkw12.2) (((hkw6.2 _ rfl).2 c9) _ rfl))) hkw4.2) (((h _ rfl) _ rfl) _ rfl)
theorem e242 {w : PW} {Q : PO → PW → Prop}  (hs : Sh w)  (h : ∀ w1 : PW, w1 = sI w 169 0 0 → ∀ w2 : PW, w2 = sI w1 169 12 0 → ∀ w3 : PW, w3 = sI w2 169 15 ((-1)) → pC 219 [.ref 169] w3 (kV fun w4 => Sh w4 ∧ pC 240 [.ref 169] w4 (kI fun u7 w6 => Sh w6 ∧ ∀ w8 : PW, w8 = sI w6 169 8 0 → (u7 ≠ 0 → ∀ w10 : PW, w10 = sI w8 169 6 0 → Q (.inl (some (iv (gI w10 170 5)))) w10) ∧ (u7 = 0 → ∀ w11 : PW, w11 = sI w8 169 15 (gI w8 169 14) → pC 241 [.ref 169, iv (((-100)) - (gI w11 169 13))] w11 (kI fun u13 w12 => Sh w12 ∧ Q (.inl (some (iv u13))) w12))))) : pC 242 [.ref 169] w Q :=
  (pC_in (Nat.le_of_ble_eq_true rfl) rfl Q).mpr (v242_0 hs  h)
section MLD
variable {w w1 w2 : PW} {Q : PO → PW → Prop} {m : Row} {l : List Nat} {p : Nat}
theorem MW.rd (h : MW w w2) : RdW false true w w2 := ⟨h.1, fun c _ b => h.2 c (b rfl), fun j _ _ _ _ _ => h.g (by decide) j⟩
theorem l215_3 {w : PW} {Q : PO → PW → Prop} {x1 x2 x3 : Int} (hs : Sh w) (hx1 : 8 ≤ x1 ∧ x1 ≤ 64) (hx2 : 1 ≤ x2 ∧ x2 ≤ 3) (hx3 : 0 ≤ x3 ∧ x3 ≤ 3) (h : ∀ w2, MW w w2 → MR w2 (rBegin x1 x2 x3) → Q (.inl none) w2) : ∀ k i : Nat, i + k = 843 → ∀ w1, MW w w1 → (∀ j, j < i → gI w1 170 j = 0) → pX 215 3 [some (.ref 169), some (iv x1), some (iv x2), some (iv x3), some (iv (i : Nat))] [] w1 Q := by
  intro k
  induction k with
  | zero =>
    intro i hi w1 G1 hR
    have e : i = 843 := by omega
    subst e
    refine v215_3 G1.1 ⟨by omega, by omega⟩ ⟨by omega, by omega⟩ ⟨by omega, by omega⟩ (bdk (by omega)) ⟨fun _ w2 e2 w3 e3 w4 e4 w5 e5 => ?_, fun q => by omega⟩
    obtain ⟨G2, g2⟩ := MW.put G1.1 e2 ⟨by omega, by omega⟩
    obtain ⟨G3, g3⟩ := MW.put G2.1 e3 ⟨by omega, by omega⟩
    obtain ⟨G4, g4⟩ := MW.put G3.1 e4 ⟨by omega, by omega⟩
    obtain ⟨G5, g5⟩ := MW.put G4.1 e5 (by decide)
    refine h w5 (G1.tr (G2.tr (G3.tr (G4.tr G5)))) ⟨rBegin_ok hx1 hx2 hx3, fun j hj => ?_⟩
    rw [g5, g4, g3, g2, hR j hj]
    unfold rBegin
    by_cases q0 : j = 0
    · rw [if_neg (by omega), if_neg (by omega), if_neg (by omega), if_pos q0, if_pos q0]
    · by_cases q1 : j = 1
      · rw [if_neg (by omega), if_neg (by omega), if_pos q1, if_neg q0, if_pos q1]
      · by_cases q2 : j = 2
        · rw [if_neg (by omega), if_pos q2, if_neg q0, if_neg q1, if_pos q2]
        · by_cases q3 : j = 3
          · rw [if_pos q3, if_neg q0, if_neg q1, if_neg q2, if_pos q3]
          · rw [if_neg q3, if_neg q2, if_neg q1, if_neg q0, if_neg q0, if_neg q1, if_neg q2, if_neg q3]
  | succ k ih =>
    intro i hi w1 G1 hR
    refine v215_3 G1.1 ⟨by omega, by omega⟩ ⟨by omega, by omega⟩ ⟨by omega, by omega⟩ (bdk (by omega)) ⟨fun q => by omega, fun _ => ⟨⟨by omega, by omega⟩, fun w2 e2 => ?_⟩⟩
    rw [Int.toNat_natCast] at e2
    obtain ⟨G2, g2⟩ := MW.put G1.1 e2 bd0
    refine ih (i + 1) (by omega) w2 (G1.tr G2) (fun j hj => ?_)
    rw [g2]
    by_cases q : j = i
    · rw [if_pos q]
    · rw [if_neg q]
      exact hR j (by omega)
theorem c215 {x1 x2 x3 : Int} (hs : Sh w) (hx1 : 8 ≤ x1 ∧ x1 ≤ 64) (hx2 : 1 ≤ x2 ∧ x2 ≤ 3) (hx3 : 0 ≤ x3 ∧ x3 ≤ 3) (h : ∀ w2, MW w w2 → MR w2 (rBegin x1 x2 x3) → Q (.inl none) w2) : pC 215 [.ref 169, iv x1, iv x2, iv x3] w Q :=
  e215 hs ⟨by omega, by omega⟩ ⟨by omega, by omega⟩ ⟨by omega, by omega⟩ (l215_3 hs hx1 hx2 hx3 h _ 0 (Nat.zero_add _) w (MW.rf hs) (fun j hj => absurd hj (Nat.not_lt_zero _)))
/-- a failure that comes out of a statement; a statement that is done -/
def StE (w : PW) (x : RSR) (Q : PO → PW → Prop) : Prop := ∀ kk aa, x = .inl (kk, aa) → ∀ w2, RdW true true w w2 → gI w2 169 12 = kk → gI w2 169 13 = (aa : Nat) → Q (.inl (some (iv 0))) w2
def StV (w : PW) (x : RSR) (Q : PO → PW → Prop) : Prop := ∀ q m2, x = .inr (q, m2) → ∀ w2, RdW false true w w2 → gI w2 169 9 = (q : Nat) → MR w2 m2 → Q (.inl (some (iv 1))) w2
theorem c226 (hs : Sh w) (hT : MTx w l) (hp : p ≤ l.length) (h9 : gI w 169 9 = (p : Nat)) (hE : StE w (rB (sRd l p 8 64) (fun q1 v1 => rB (sRd l q1 1 3) (fun q2 v2 => rB (sRd l q2 0 3) (fun q3 v3 => .inr (q3, rBegin v1 v2 v3))))) Q) (hV : StV w (rB (sRd l p 8 64) (fun q1 v1 => rB (sRd l q1 1 3) (fun q2 v2 => rB (sRd l q2 0 3) (fun q3 v3 => .inr (q3, rBegin v1 v2 v3))))) Q) : pC 226 [.ref 169] w Q := by
  refine e226 hs (c225 hs hT hp h9 (by decide) (by decide) (by decide) (fun kk aa er w2 F2 a2 b2 => kI_iv bd0 ⟨F2.1, fun z => absurd rfl z, fun _ => hE kk aa (rB_l er) w2 (F2.wk id (fun _ => rfl)) a2 b2⟩) (fun q1 v1 er1 w2 F2 a2 b2 => kI_iv (by decide) ⟨F2.1, fun _ => ?_, fun z => absurd z (by decide)⟩))
  rw [rB_r er1] at hE hV
  have hb1 := sRd_bd hp er1
  refine c225 F2.1 (F2.tx hT) hb1.2.1 a2 (by decide) (by decide) (by decide) (fun kk aa er w3 F3 a3 b3 => kI_iv bd0 ⟨F3.1, fun z => absurd rfl z, fun _ => hE kk aa (rB_l er) w3 ((F2.wk (fun _ => rfl) (fun _ => rfl)).tr (F3.wk id (fun _ => rfl))) a3 b3⟩) (fun q2 v2 er2 w3 F3 a3 b3 => kI_iv (by decide) ⟨F3.1, fun _ => ?_, fun z => absurd z (by decide)⟩)
  rw [rB_r er2] at hE hV
  have hb2 := sRd_bd hb1.2.1 er2
  refine c225 F3.1 (F3.tx (F2.tx hT)) hb2.2.1 a3 (by decide) (by decide) (by decide) (fun kk aa er w4 F4 a4 b4 => kI_iv bd0 ⟨F4.1, fun z => absurd rfl z, fun _ => hE kk aa (rB_l er) w4 (((F2.tr F3).wk (fun _ => rfl) (fun _ => rfl)).tr (F4.wk id (fun _ => rfl))) a4 b4⟩) (fun q3 v3 er3 w4 F4 a4 b4 => kI_iv (by decide) ⟨F4.1, fun _ => ?_, fun z => absurd z (by decide)⟩)
  rw [rB_r er3] at hV
  have hb3 := sRd_bd hb2.2.1 er3
  rw [b2, b3, b4]
  exact c215 F4.1 ⟨by omega, by omega⟩ ⟨by omega, by omega⟩ ⟨by omega, by omega⟩ (fun w5 G5 M5 => ⟨G5.1, hV _ _ rfl w5 (((F2.tr (F3.tr F4)).wk id (fun _ => rfl)).tr G5.rd) ((G5.g (by decide) 9).trans a4) M5⟩)
theorem c227 (hs : Sh w) (hT : MTx w l) (hM : MR w m) (hp : p ≤ l.length) (h9 : gI w 169 9 = (p : Nat)) (hE : StE w (sSpe l p m) Q) (hV : StV w (sSpe l p m) Q) : pC 227 [.ref 169] w Q := by
  unfold sSpe at hE hV
  refine e227 hs (c225 hs hT hp h9 (by decide) (by decide) (by decide) (fun kk aa er w2 F2 a2 b2 => kI_iv bd0 ⟨F2.1, fun z => absurd rfl z, fun _ => hE kk aa (rB_l er) w2 (F2.wk id (fun _ => rfl)) a2 b2⟩) (fun q1 v1 er1 w2 F2 a2 b2 => kI_iv (by decide) ⟨F2.1, fun _ w4 e4 => ?_, fun z => absurd z (by decide)⟩))
  rw [rB_r er1] at hV
  have hb1 := sRd_bd hp er1
  rw [b2] at e4
  obtain ⟨G4, M4⟩ := MW.sto F2.1 (F2.r0 hM) e4 ⟨by omega, by omega⟩ (mset_ok hM.ok (Or.inr (Or.inl ⟨rfl, by omega, by omega⟩)))
  exact hV _ _ rfl w4 ((F2.wk id (fun _ => rfl)).tr G4.rd) ((G4.g (by decide) 9).trans a2) M4
theorem c232 {a : Nat} (hs : Sh w) (hT : MTx w l) (hM : MR w m) (hp : p ≤ l.length) (h9 : gI w 169 9 = (p : Nat)) (ha : a ≤ l.length) (hE : StE w (if m 4 < 12 then sToo l p m else .inl (3, a)) Q) (hV : StV w (if m 4 < 12 then sToo l p m else .inl (3, a)) Q) : pC 232 [.ref 169, iv (a : Nat)] w Q := by
  have h7 := hT.2.1
  have h4 := hM.ok.t
  refine e232 hs (bdk (by omega)) ?_
  rw [hM.g (k := 4) rfl]
  refine ⟨fun q => ?_, fun q w10 e10 => ?_⟩
  · rw [if_pos (by omega)] at hE hV
    unfold sToo at hE hV
    refine c229 hs hT hp h9 (fun kk aa er w2 F2 a2 b2 => kI_iv bd0 ⟨F2.1, fun _ => hE kk aa (rB_l er) w2 (F2.wk id (fun _ => rfl)) a2 b2, fun z => absurd rfl z⟩) (fun q1 v1 er1 w2 F2 k2 a2 b2 => kI_iv (by decide) ⟨F2.1, fun z => absurd z (by decide), fun _ => ?_⟩)
    rw [rB_r er1] at hE hV
    have hb1 := sPt_bd hp er1
    refine c225 F2.1 (F2.tx hT) hb1.2.1 a2 (by decide) (by decide) (by decide) (fun kk aa er w3 F3 a3 b3 => kI_iv bd0 ⟨F3.1, fun z => absurd rfl z, fun _ => hE kk aa (rB_l er) w3 ((F2.wk (fun _ => rfl) id).tr (F3.wk id (fun _ => rfl))) a3 b3⟩) (fun q2 v2 er2 w3 F3 a3 b3 => kI_iv (by decide) ⟨F3.1, fun _ => ?_, fun z => absurd z (by decide)⟩)
    rw [rB_r er2] at hV
    have hb2 := sRd_bd hb1.2.1 er2
    rw [F3.2.2 16 (by decide) (by decide) (by decide) (fun z => by cases z) (fun z => by cases z), b2, b3]
    exact c231 F3.1 (F3.r0 (hM.cell k2)) (by omega) ⟨by omega, by omega⟩ ⟨by omega, by omega⟩ (fun w5 G5 M5 => ⟨G5.1, hV _ _ rfl w5 ((F2.tr (F3.wk id (fun _ => rfl))).tr G5.rd) ((G5.g (by decide) 9).trans a3) M5⟩)
  · rw [if_neg (by omega)] at hE
    obtain ⟨F2, a2, b2⟩ := RdW.fail hs (by decide) (bdk (by omega)) e10
    exact hE 3 a rfl w10 (F2.wk id (fun _ => rfl)) a2 b2
theorem c235 {a : Nat} (hs : Sh w) (hT : MTx w l) (hM : MR w m) (hp : p ≤ l.length) (h9 : gI w 169 9 = (p : Nat)) (ha : a ≤ l.length) (hE : StE w (if m 5 < 60 then sNot l p m else .inl (3, a)) Q) (hV : StV w (if m 5 < 60 then sNot l p m else .inl (3, a)) Q) : pC 235 [.ref 169, iv (a : Nat)] w Q := by
  have h7 := hT.2.1
  have h5 := hM.ok.n
  have h1 := hM.ok.u
  have h0 := hM.ok.s
  refine e235 hs (bdk (by omega)) ?_
  rw [hM.g (k := 5) rfl, hM.g (k := 1) rfl]
  refine ⟨fun q => ?_, fun q w10 e10 => ?_⟩
  · rw [if_pos (by omega)] at hE hV
    unfold sNot at hE hV
    refine c225 hs hT hp h9 (by decide) ⟨by omega, by omega⟩ (by omega) (fun kk aa er w2 F2 a2 b2 => kI_iv bd0 ⟨F2.1, fun z => absurd rfl z, fun _ => hE kk aa (rB_l er) w2 (F2.wk id (fun _ => rfl)) a2 b2⟩) (fun q1 v1 er1 w2 F2 a2 b2 => kI_iv (by decide) ⟨F2.1, fun _ => ?_, fun z => absurd z (by decide)⟩)
    rw [rB_r er1] at hE hV
    have hb1 := sRd_bd hp er1
    have hM2 := F2.r0 hM
    rw [hM2.g (k := 0) rfl]
    refine c225 F2.1 (F2.tx hT) hb1.2.1 a2 (by decide) ⟨by omega, by omega⟩ (by omega) (fun kk aa er w3 F3 a3 b3 => kI_iv bd0 ⟨F3.1, fun z => absurd rfl z, fun _ => hE kk aa (rB_l er) w3 ((F2.wk (fun _ => rfl) (fun _ => rfl)).tr (F3.wk id (fun _ => rfl))) a3 b3⟩) (fun q2 v2 er2 w3 F3 a3 b3 => kI_iv (by decide) ⟨F3.1, fun _ => ?_, fun z => absurd z (by decide)⟩)
    rw [rB_r er2] at hE hV
    have hb2 := sRd_bd hb1.2.1 er2
    refine c229 F3.1 (F3.tx (F2.tx hT)) hb2.2.1 a3 (fun kk aa er w4 F4 a4 b4 => kI_iv bd0 ⟨F4.1, fun z => absurd rfl z, fun _ => hE kk aa (rB_l er) w4 (((F2.tr F3).wk (fun _ => rfl) (fun _ => rfl)).tr (F4.wk id (fun _ => rfl))) a4 b4⟩) (fun q3 v3 er3 w4 F4 k4 a4 b4 => kI_iv (by decide) ⟨F4.1, fun _ => ?_, fun z => absurd z (by decide)⟩)
    rw [rB_r er3] at hV
    have hb3 := sPt_bd hb2.2.1 er3
    rw [b2, b3, b4]
    exact c234 F4.1 ((F3.r0 hM2).cell k4) (by omega) ⟨by omega, by omega⟩ ⟨by omega, by omega⟩ ⟨by omega, by omega⟩ (fun w5 G5 M5 => ⟨G5.1, hV _ _ rfl w5 ((((F2.tr F3).wk id (fun _ => rfl)).tr F4).tr G5.rd) ((G5.g (by decide) 9).trans a4) M5⟩)
  · rw [if_neg (by omega)] at hE
    obtain ⟨F2, a2, b2⟩ := RdW.fail hs (by decide) (bdk (by omega)) e10
    exact hE 3 a rfl w10 (F2.wk id (fun _ => rfl)) a2 b2
theorem c238 (hs : Sh w) (hT : MTx w l) (hM : MR w m) (hp : p ≤ l.length) (h9 : gI w 169 9 = (p : Nat)) (hE : StE w (sPin l p m) Q) (hV : StV w (sPin l p m) Q) : pC 238 [.ref 169] w Q := by
  have h1 := hM.ok.u
  have h0 := hM.ok.s
  have h4 := hM.ok.t
  unfold sPin at hE hV
  refine e238 hs ?_
  rw [hM.g (k := 1) rfl]
  refine c225 hs hT hp h9 (by decide) ⟨by omega, by omega⟩ (by omega) (fun kk aa er w2 F2 a2 b2 => kI_iv bd0 ⟨F2.1, fun z => absurd rfl z, fun _ => hE kk aa (rB_l er) w2 (F2.wk id (fun _ => rfl)) a2 b2⟩) (fun q1 v1 er1 w2 F2 a2 b2 => kI_iv (by decide) ⟨F2.1, fun _ => ?_, fun z => absurd z (by decide)⟩)
  rw [rB_r er1] at hE hV
  have hb1 := sRd_bd hp er1
  have hM2 := F2.r0 hM
  rw [hM2.g (k := 0) rfl]
  refine c225 F2.1 (F2.tx hT) hb1.2.1 a2 (by decide) ⟨by omega, by omega⟩ (by omega) (fun kk aa er w3 F3 a3 b3 => kI_iv bd0 ⟨F3.1, fun z => absurd rfl z, fun _ => hE kk aa (rB_l er) w3 ((F2.wk (fun _ => rfl) (fun _ => rfl)).tr (F3.wk id (fun _ => rfl))) a3 b3⟩) (fun q2 v2 er2 w3 F3 a3 b3 => kI_iv (by decide) ⟨F3.1, fun _ => ?_, fun z => absurd z (by decide)⟩)
  rw [rB_r er2] at hE hV
  have hb2 := sRd_bd hb1.2.1 er2
  have hM3 := F3.r0 hM2
  rw [hM3.g (k := 4) rfl]
  refine c225 F3.1 (F3.tx (F2.tx hT)) hb2.2.1 a3 (by decide) ⟨by omega, by omega⟩ (by omega) (fun kk aa er w4 F4 a4 b4 => kI_iv bd0 ⟨F4.1, fun z => absurd rfl z, fun _ => hE kk aa (rB_l er) w4 (((F2.tr F3).wk (fun _ => rfl) (fun _ => rfl)).tr (F4.wk id (fun _ => rfl))) a4 b4⟩) (fun q3 v3 er3 w4 F4 a4 b4 => kI_iv (by decide) ⟨F4.1, fun _ => ?_, fun z => absurd z (by decide)⟩)
  rw [rB_r er3] at hV
  have hb3 := sRd_bd hb2.2.1 er3
  rw [b2, b3, b4]
  obtain ⟨u, rfl⟩ := nat_of hb1.2.2.2.2
  obtain ⟨s, rfl⟩ := nat_of hb2.2.2.2.2
  obtain ⟨t, rfl⟩ := nat_of hb3.2.2.2.2
  rw [Int.toNat_natCast, Int.toNat_natCast, Int.toNat_natCast] at hV
  exact c237 F4.1 (F4.r0 hM3) (by omega) (by omega) (by omega) (by decide) (fun w5 G5 M5 => ⟨G5.1, hV _ _ rfl w5 (((F2.tr (F3.tr F4)).wk id (fun _ => rfl)).tr G5.rd) ((G5.g (by decide) 9).trans a4) M5⟩)
theorem wdm : sTx.getD 33 [] = wBar ∧ sTx.getD 34 [] = wSpe ∧ sTx.getD 35 [] = wToo ∧ sTx.getD 36 [] = wNot ∧ sTx.getD 37 [] = wPin := by decide +kernel
theorem wdm_lo : ∀ r, r < 38 → 33 ≤ r → 0 < (sTx.getD r []).length ∧ ∀ y, y < (sTx.getD r []).length → (sTx.getD r []).getD y 0 < 128 := by decide +kernel
/-- the first statement -/
theorem c239a (hs : Sh w) (hT : MTx w l) (hp : p ≤ l.length) (h9 : gI w 169 9 = (p : Nat)) (h14 : gI w 169 14 = 0) (hE : StE w (sBar l p) Q) (hV : StV w (sBar l p) Q) : pC 239 [.ref 169] w Q := by
  have hW : p ≤ sW0 l p ∧ sW0 l p ≤ l.length := sWh_bd (P := isSp) hp
  have hW1 : sW0 l p ≤ sW1 l p ∧ sW1 l p ≤ l.length := sWh_bd (P := isAz) hW.2
  have h7 := hT.2.1
  have lo := wdm_lo 33 (by decide) (by decide)
  unfold sBar at hE hV
  refine e239 hs ⟨fun q => absurd h14 q, fun _ => c223 hs hT hp h9 (by decide) lo.2 lo.1 (fun q w2 F2 g9 g10 => kI_iv bd0 ⟨F2.1, fun _ w26 e26 => ?_, fun z => absurd rfl z⟩) (fun q w2 F2 g9 g10 => kI_iv (by decide) ⟨F2.1, fun z => absurd z (by decide), fun _ => ?_⟩)⟩
  · rw [wdm.1] at q
    rw [if_neg (by rw [q]; exact Bool.false_ne_true)] at hE
    rw [g10] at e26
    obtain ⟨F3, a3, b3⟩ := RdW.fail F2.1 (by decide) (bdk (by omega)) e26
    exact hE 1 _ rfl w26 ((F2.wk (fun _ => rfl) (fun _ => rfl)).tr (F3.wk id (fun _ => rfl))) a3 b3
  · rw [wdm.1] at q
    rw [if_pos q] at hE hV
    exact c226 F2.1 (F2.tx hT) hW1.2 g9 (fun kk aa er w3 F3 a3 b3 => kI_iv bd0 ⟨F3.1, Or.inl rfl, hE kk aa er w3 ((F2.wk (fun _ => rfl) (fun _ => rfl)).tr F3) a3 b3⟩) (fun q1 m1 er w3 F3 a3 M3 => kI_iv (by decide) ⟨F3.1, Or.inr rfl, hV q1 m1 er w3 ((F2.wk id (fun _ => rfl)).tr F3) a3 M3⟩)
/-- the others -/
theorem c239b (hs : Sh w) (hT : MTx w l) (hM : MR w m) (hp : p ≤ l.length) (h9 : gI w 169 9 = (p : Nat)) (h14 : gI w 169 14 ≠ 0) (hE : StE w (sOth l p m) Q) (hV : StV w (sOth l p m) Q) : pC 239 [.ref 169] w Q := by
  have hW : p ≤ sW0 l p ∧ sW0 l p ≤ l.length := sWh_bd (P := isSp) hp
  have hW1 : sW0 l p ≤ sW1 l p ∧ sW1 l p ≤ l.length := sWh_bd (P := isAz) hW.2
  have h7 := hT.2.1
  have l4 := wdm_lo 34 (by decide) (by decide)
  have l5 := wdm_lo 35 (by decide) (by decide)
  have l6 := wdm_lo 36 (by decide) (by decide)
  have l8 := wdm_lo 37 (by decide) (by decide)
  have e0 := sW0_0 hp
  have e1 := sW1_0 hp
  have kE : ∀ {w3 : PW} {x : RSR}, RdW false false w w3 → StE w x Q → StE w3 x (kI fun u w2 => Sh w2 ∧ (u = 0 ∨ u = 1) ∧ Q (.inl (some (iv u))) w2) := fun F h kk aa er w4 F4 a4 b4 => kI_iv bd0 ⟨F4.1, Or.inl rfl, h kk aa er w4 ((F.wk (fun _ => rfl) (fun _ => rfl)).tr F4) a4 b4⟩
  have kY : ∀ {w3 : PW} {x : RSR}, RdW false false w w3 → StV w x Q → StV w3 x (kI fun u w2 => Sh w2 ∧ (u = 0 ∨ u = 1) ∧ Q (.inl (some (iv u))) w2) := fun F h q1 m1 er w4 F4 a4 M4 => kI_iv (by decide) ⟨F4.1, Or.inr rfl, h q1 m1 er w4 ((F.wk id (fun _ => rfl)).tr F4) a4 M4⟩
  unfold sOth at hE hV
  refine e239 hs ⟨fun _ => c223 hs hT hp h9 (by decide) l4.2 l4.1 (fun q w2 F2 g9 g10 => kI_iv bd0 ⟨F2.1, fun _ => ?_, fun z => absurd rfl z⟩) (fun q w2 F2 g9 g10 => kI_iv (by decide) ⟨F2.1, fun z => absurd z (by decide), fun _ => ?_⟩), fun q => absurd q h14⟩
  · rw [wdm.2.1] at q
    rw [if_neg (by rw [q]; exact Bool.false_ne_true)] at hE hV
    refine c223 F2.1 (F2.tx hT) hW.2 g9 (by decide) l5.2 l5.1 (fun q3 w3 F3 g9 g10 => kI_iv bd0 ⟨F3.1, fun _ => ?_, fun z => absurd rfl z⟩) (fun q3 w3 F3 g9 g10 => kI_iv (by decide) ⟨F3.1, fun z => absurd z (by decide), fun _ => ?_⟩)
    · rw [wdm.2.2.1, e0, e1] at q3
      rw [if_neg (by rw [q3]; exact Bool.false_ne_true)] at hE hV
      rw [e0] at g9 g10
      have F3' := F2.tr F3
      refine c223 F3.1 (F3'.tx hT) hW.2 g9 (by decide) l6.2 l6.1 (fun q4 w4 F4 g9 g10 => kI_iv bd0 ⟨F4.1, fun _ => ?_, fun z => absurd rfl z⟩) (fun q4 w4 F4 g9 g10 => kI_iv (by decide) ⟨F4.1, fun z => absurd z (by decide), fun _ => ?_⟩)
      · rw [wdm.2.2.2.1, e0, e1] at q4
        rw [if_neg (by rw [q4]; exact Bool.false_ne_true)] at hE hV
        rw [e0] at g9 g10
        have F4' := F3'.tr F4
        refine c223 F4.1 (F4'.tx hT) hW.2 g9 (by decide) l8.2 l8.1 (fun q5 w5 F5 g9 g10 => kI_iv bd0 ⟨F5.1, fun _ w14 e14 => ?_, fun z => absurd rfl z⟩) (fun q5 w5 F5 g9 g10 => kI_iv (by decide) ⟨F5.1, fun z => absurd z (by decide), fun _ => ?_⟩)
        · rw [wdm.2.2.2.2, e0, e1] at q5
          rw [if_neg (by rw [q5]; exact Bool.false_ne_true)] at hE
          rw [e0] at g10
          rw [g10] at e14
          obtain ⟨F6, a6, b6⟩ := RdW.fail F5.1 (by decide) (bdk (by omega)) e14
          exact hE 1 _ rfl w14 (((F4'.tr F5).wk (fun _ => rfl) (fun _ => rfl)).tr (F6.wk id (fun _ => rfl))) a6 b6
        · rw [wdm.2.2.2.2, e0, e1] at q5
          rw [if_pos q5] at hE hV
          rw [e1] at g9
          have F5' := F4'.tr F5
          exact c238 F5.1 (F5'.tx hT) (F5'.r0 hM) hW1.2 g9 (kE F5' hE) (kY F5' hV)
      · rw [wdm.2.2.2.1, e0, e1] at q4
        rw [if_pos q4] at hE hV
        rw [e1] at g9
        rw [e0] at g10
        have F4' := F3'.tr F4
        rw [g10]
        exact c235 F4.1 (F4'.tx hT) (F4'.r0 hM) hW1.2 g9 hW.2 (kE F4' hE) (kY F4' hV)
    · rw [wdm.2.2.1, e0, e1] at q3
      rw [if_pos q3] at hE hV
      rw [e1] at g9
      rw [e0] at g10
      have F3' := F2.tr F3
      rw [g10]
      exact c232 F3.1 (F3'.tx hT) (F3'.r0 hM) hW1.2 g9 hW.2 (kE F3' hE) (kY F3' hV)
  · rw [wdm.2.1] at q
    rw [if_pos q] at hE hV
    exact c227 F2.1 (F2.tx hT) (F2.r0 hM) hW1.2 g9 (kE F2 hE) (kY F2 hV)
end MLD
