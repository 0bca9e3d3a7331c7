/-! THE MODEL's FACE: texts, undo, snapshots -/
/-! 243: PinBarrelModel.loadError()I -/
theorem b243 : mB 243 = cX9_loadError := rfl
theorem r243 : mR 243 = (some .int) := rfl
theorem p243 (a b : Nat) : phi 243 a ≤ phi 243 b := Nat.le_refl 0
theorem d243_0 : decode cX9_loadError 0 = .ok (.aload_n 0, 1) := by decide +kernel
theorem d243_1 : decode cX9_loadError 1 = .ok (.iconst 0, 1) := by decide +kernel
theorem d243_2 : decode cX9_loadError 2 = .ok (.putfield 50, 3) := by decide +kernel
theorem d243_5 : decode cX9_loadError 5 = .ok (.aload_n 0, 1) := by decide +kernel
theorem d243_6 : decode cX9_loadError 6 = .ok (.getfield 61, 3) := by decide +kernel
theorem d243_9 : decode cX9_loadError 9 = .ok (.ireturn, 1) := by decide +kernel
theorem v243_0 {w : PW} {Q : PO → PW → Prop}  (hs : Sh w)  (h : ∀ w1 : PW, w1 = sI w 169 0 0 → Q (.inl (some (iv (gI w1 169 12)))) w1) : pX 243 0 [some (.ref 169)] [] w Q :=
  w_f b243 d243_0 rfl rfl rfl <| w_f b243 d243_1 rfl rfl rfl <| w_pi b243 d243_2 rfl rfl hs (tlt 169 rfl) tbC_169 rfl rfl rfl <| w_f b243 d243_5 rfl rfl rfl <| w_gi b243 d243_6 rfl rfl (Sh_sI hs (slt_o tbC_169 rfl)) (tlt 169 rfl) tbC_169 rfl <| w_ri b243 d243_9 r243 (h _ rfl)
theorem e243 {w : PW} {Q : PO → PW → Prop}  (hs : Sh w)  (h : ∀ w1 : PW, w1 = sI w 169 0 0 → Q (.inl (some (iv (gI w1 169 12)))) w1) : pC 243 [.ref 169] w Q :=
  (pC_in (Nat.le_of_ble_eq_true rfl) rfl Q).mpr (v243_0 hs  h)
/-! 244: PinBarrelModel.loadStatement()I -/
theorem b244 : mB 244 = cX9_loadStatement := rfl
theorem r244 : mR 244 = (some .int) := rfl
theorem p244 (a b : Nat) : phi 244 a ≤ phi 244 b := Nat.le_refl 0
theorem d244_0 : decode cX9_loadStatement 0 = .ok (.aload_n 0, 1) := by decide +kernel
theorem d244_1 : decode cX9_loadStatement 1 = .ok (.iconst 0, 1) := by decide +kernel
theorem d244_2 : decode cX9_loadStatement 2 = .ok (.putfield 50, 3) := by decide +kernel
theorem d244_5 : decode cX9_loadStatement 5 = .ok (.aload_n 0, 1) := by decide +kernel
theorem d244_6 : decode cX9_loadStatement 6 = .ok (.getfield 30, 3) := by decide +kernel
theorem d244_9 : decode cX9_loadStatement 9 = .ok (.ireturn, 1) := by decide +kernel
theorem v244_0 {w : PW} {Q : PO → PW → Prop}  (hs : Sh w)  (h : ∀ w1 : PW, w1 = sI w 169 0 0 → Q (.inl (some (iv (gI w1 169 15)))) w1) : pX 244 0 [some (.ref 169)] [] w Q :=
  w_f b244 d244_0 rfl rfl rfl <| w_f b244 d244_1 rfl rfl rfl <| w_pi b244 d244_2 rfl rfl hs (tlt 169 rfl) tbC_169 rfl rfl rfl <| w_f b244 d244_5 rfl rfl rfl <| w_gi b244 d244_6 rfl rfl (Sh_sI hs (slt_o tbC_169 rfl)) (tlt 169 rfl) tbC_169 rfl <| w_ri b244 d244_9 r244 (h _ rfl)
theorem e244 {w : PW} {Q : PO → PW → Prop}  (hs : Sh w)  (h : ∀ w1 : PW, w1 = sI w 169 0 0 → Q (.inl (some (iv (gI w1 169 15)))) w1) : pC 244 [.ref 169] w Q :=
  (pC_in (Nat.le_of_ble_eq_true rfl) rfl Q).mpr (v244_0 hs  h)
/-! 347: PinBarrelModel.says(I)V -/
theorem b347 : mB 347 = cX9_says := rfl
theorem r347 : mR 347 = none := rfl
theorem p347 (a b : Nat) : phi 347 a ≤ phi 347 b := Nat.le_refl 0
theorem d347_0 : decode cX9_says 0 = .ok (.aload_n 0, 1) := by decide +kernel
theorem d347_1 : decode cX9_says 1 = .ok (.getfield 43, 3) := by decide +kernel
theorem d347_4 : decode cX9_says 4 = .ok (.aload_n 0, 1) := by decide +kernel
theorem d347_5 : decode cX9_says 5 = .ok (.getfield 438, 3) := by decide +kernel
theorem d347_8 : decode cX9_says 8 = .ok (.iload_n 1, 1) := by decide +kernel
theorem d347_9 : decode cX9_says 9 = .ok (.iastore, 1) := by decide +kernel
theorem d347_10 : decode cX9_says 10 = .ok (.aload_n 0, 1) := by decide +kernel
theorem d347_11 : decode cX9_says 11 = .ok (.dup, 1) := by decide +kernel
theorem d347_12 : decode cX9_says 12 = .ok (.getfield 438, 3) := by decide +kernel
theorem d347_15 : decode cX9_says 15 = .ok (.iconst 1, 1) := by decide +kernel
theorem d347_16 : decode cX9_says 16 = .ok (.iadd, 1) := by decide +kernel
theorem d347_17 : decode cX9_says 17 = .ok (.putfield 438, 3) := by decide +kernel
theorem d347_20 : decode cX9_says 20 = .ok (.return_, 1) := by decide +kernel
theorem v347_0 {w : PW} {Q : PO → PW → Prop} {x1 : Int} (hs : Sh w) (hx1 : bd x1) (h : (0 ≤ (gI w 169 30) ∧ (gI w 169 30) < 400) ∧ ∀ w1 : PW, w1 = sI w 179 (gI w 169 30).toNat x1 → ∀ w2 : PW, w2 = sI w1 169 30 ((gI w1 169 30) + 1) → Q (.inl none) w2) : pX 347 0 [some (.ref 169), some (iv x1)] [] w Q :=
  w_f b347 d347_0 rfl rfl rfl <| w_gr b347 d347_1 rfl rfl hs (tlt 169 rfl) tbC_169 rfl (by decide) <| w_f b347 d347_4 rfl rfl rfl <| w_gi b347 d347_5 rfl rfl hs (tlt 169 rfl) tbC_169 rfl <| w_f b347 d347_8 rfl rfl rfl <| w_ias b347 d347_9 rfl hs (tlt 179 rfl) tbC_179 (bdix (n := 400) h.1 rfl) h.1 <| w_f b347 d347_10 rfl rfl rfl <| w_f b347 d347_11 rfl rfl rfl <| w_gi b347 d347_12 rfl rfl (Sh_sI hs (slt_a tbC_179)) (tlt 169 rfl) tbC_169 rfl <| w_f b347 d347_15 rfl rfl rfl <| w_f b347 d347_16 rfl (pf_iadd _ 1) rfl <| w_pi b347 d347_17 rfl rfl (Sh_sI hs (slt_a tbC_179)) (tlt 169 rfl) tbC_169 rfl rfl rfl <| w_rv b347 d347_20 r347 ((h.2 _ rfl) _ rfl)
theorem e347 {w : PW} {Q : PO → PW → Prop} {x1 : Int} (hs : Sh w) (hx1 : bd x1) (h : (0 ≤ (gI w 169 30) ∧ (gI w 169 30) < 400) ∧ ∀ w1 : PW, w1 = sI w 179 (gI w 169 30).toNat x1 → ∀ w2 : PW, w2 = sI w1 169 30 ((gI w1 169 30) + 1) → Q (.inl none) w2) : pC 347 [.ref 169, iv x1] w Q :=
  (pC_in (Nat.le_of_ble_eq_true rfl) rfl Q).mpr (v347_0 hs hx1 h)
/-! 348: PinBarrelModel.saysPitch(I)V -/
theorem b348 : mB 348 = cX9_saysPitch := rfl
theorem r348 : mR 348 = none := rfl
theorem p348 (a b : Nat) : phi 348 a ≤ phi 348 b := Nat.le_refl 0
theorem d348_0 : decode cX9_saysPitch 0 = .ok (.iload_n 1, 1) := by decide +kernel
theorem d348_1 : decode cX9_saysPitch 1 = .ok (.bipush 12, 2) := by decide +kernel
theorem d348_3 : decode cX9_saysPitch 3 = .ok (.irem, 1) := by decide +kernel
theorem d348_4 : decode cX9_saysPitch 4 = .ok (.invokestatic 136, 3) := by decide +kernel
theorem d348_7 : decode cX9_saysPitch 7 = .ok (.astore_n 2, 1) := by decide +kernel
theorem d348_8 : decode cX9_saysPitch 8 = .ok (.iconst 0, 1) := by decide +kernel
theorem d348_9 : decode cX9_saysPitch 9 = .ok (.istore_n 3, 1) := by decide +kernel
theorem d348_10 : decode cX9_saysPitch 10 = .ok (.iload_n 3, 1) := by decide +kernel
theorem d348_11 : decode cX9_saysPitch 11 = .ok (.aload_n 2, 1) := by decide +kernel
theorem d348_12 : decode cX9_saysPitch 12 = .ok (.invokevirtual 104, 3) := by decide +kernel
theorem d348_15 : decode cX9_saysPitch 15 = .ok (.if_icmp .ge 18, 3) := by decide +kernel
theorem d348_18 : decode cX9_saysPitch 18 = .ok (.aload_n 0, 1) := by decide +kernel
theorem d348_19 : decode cX9_saysPitch 19 = .ok (.aload_n 2, 1) := by decide +kernel
theorem d348_20 : decode cX9_saysPitch 20 = .ok (.iload_n 3, 1) := by decide +kernel
theorem d348_21 : decode cX9_saysPitch 21 = .ok (.invokevirtual 108, 3) := by decide +kernel
theorem d348_24 : decode cX9_saysPitch 24 = .ok (.invokevirtual 441, 3) := by decide +kernel
theorem d348_27 : decode cX9_saysPitch 27 = .ok (.iinc 3 1, 3) := by decide +kernel
theorem d348_30 : decode cX9_saysPitch 30 = .ok (.goto (-20), 3) := by decide +kernel
theorem d348_33 : decode cX9_saysPitch 33 = .ok (.aload_n 0, 1) := by decide +kernel
theorem d348_34 : decode cX9_saysPitch 34 = .ok (.bipush 48, 2) := by decide +kernel
theorem d348_36 : decode cX9_saysPitch 36 = .ok (.iload_n 1, 1) := by decide +kernel
theorem d348_37 : decode cX9_saysPitch 37 = .ok (.bipush 12, 2) := by decide +kernel
theorem d348_39 : decode cX9_saysPitch 39 = .ok (.idiv, 1) := by decide +kernel
theorem d348_40 : decode cX9_saysPitch 40 = .ok (.iadd, 1) := by decide +kernel
theorem d348_41 : decode cX9_saysPitch 41 = .ok (.invokevirtual 441, 3) := by decide +kernel
theorem d348_44 : decode cX9_saysPitch 44 = .ok (.return_, 1) := by decide +kernel
theorem v348_0 {w : PW} {Q : PO → PW → Prop} {x1 : Int} (hs : Sh w) (hx1 : bd x1) (h : (bd (x1.tmod 12)) ∧ pX 348 10 [some (.ref 169), some (iv x1), some (.ref (pSB + nmM (x1.tmod 12))), some (iv 0)] [] w Q) : pX 348 0 [some (.ref 169), some (iv x1), none, none] [] w Q :=
  w_f b348 d348_0 rfl rfl rfl <| w_f b348 d348_1 rfl rfl rfl <| w_f b348 d348_3 rfl (pf_irem hx1 ⟨by decide, by decide⟩) rfl <| w_cc b348 d348_4 rfl (pcl_s1 (n := 1) rfl rfl rfl (by decide +kernel) rfl rfl) rfl <| c228 hs h.1 <| w_f b348 d348_7 rfl rfl rfl <| w_f b348 d348_8 rfl rfl rfl <| w_f b348 d348_9 rfl rfl rfl <| h.2
theorem e348 {w : PW} {Q : PO → PW → Prop} {x1 : Int} (hs : Sh w) (hx1 : bd x1) (h : (bd (x1.tmod 12)) ∧ pX 348 10 [some (.ref 169), some (iv x1), some (.ref (pSB + nmM (x1.tmod 12))), some (iv 0)] [] w Q) : pC 348 [.ref 169, iv x1] w Q :=
  (pC_in (Nat.le_of_ble_eq_true rfl) rfl Q).mpr (v348_0 hs hx1 h)
theorem v348_10 {w : PW} {Q : PO → PW → Prop} {x1 : Int} {r2 : Nat} {x3 : Int} (hs : Sh w) (hx1 : bd x1) (hr2 : r2 < 38) (hx3 : bd x3) (h : ((((sTx.getD r2 []).length : Int)) ≤ x3 → pC 347 [.ref 169, iv (48 + (x1.tdiv 12))] w (kV fun w2 => Sh w2 ∧ Q (.inl none) w2)) ∧ (x3 < (((sTx.getD r2 []).length : Int)) → (0 ≤ x3 ∧ x3 < (sTx.getD r2 []).length) ∧ pC 347 [.ref 169, iv (((sTx.getD r2 []).getD x3.toNat 0 : Int))] w (kV fun w4 => Sh w4 ∧ pX 348 10 [some (.ref 169), some (iv x1), some (.ref (pSB + r2)), some (iv (x3 + 1))] [] w4 Q))) : pX 348 10 [some (.ref 169), some (iv x1), some (.ref (pSB + r2)), some (iv x3)] [] w Q :=
  w_f b348 d348_10 rfl rfl rfl <| w_f b348 d348_11 rfl rfl rfl <| w_slen b348 d348_12 rfl rfl hr2 rfl <| w_icge b348 d348_15 rfl rfl (p348 _ _) hx3 (bd_sl hr2) (fun c1 => w_f b348 d348_33 rfl rfl rfl <| w_f b348 d348_34 rfl rfl rfl <| w_f b348 d348_36 rfl rfl rfl <| w_f b348 d348_37 rfl rfl rfl <| w_f b348 d348_39 rfl (pf_idiv hx1 ⟨by decide, by decide⟩) rfl <| w_f b348 d348_40 rfl (pf_iadd 48 (x1.tdiv 12)) rfl <| w_c b348 d348_41 rfl (pcl_v (n := 1) rfl rfl rfl (by decide +kernel) (sh_isOb hs (tlt 169 rfl) tbC_169) rfl rfl) rfl _ (hK_V fun w2 hkw2 => w_rv b348 d348_44 r348 hkw2.2) (h.1 c1)) (fun c1 => w_f b348 d348_18 rfl rfl rfl <| w_f b348 d348_19 rfl rfl rfl <| w_f b348 d348_20 rfl rfl rfl <| w_chat b348 d348_21 rfl rfl hr2 rfl hx3 (h.2 c1).1 <| w_c b348 d348_24 rfl (pcl_v (n := 1) rfl rfl rfl (by decide +kernel) (sh_isOb hs (tlt 169 rfl) tbC_169) rfl rfl) rfl _ (hK_V fun w4 hkw4 => w_f b348 d348_27 rfl (pf_iinc rfl rfl) rfl <| w_j b348 d348_30 rfl (p348 _ _) <| hkw4.2) (h.2 c1).2)
/-! 349: PinBarrelModel.writeTooth(II)I -/
theorem b349 : mB 349 = cX9_writeTooth := rfl
theorem r349 : mR 349 = (some .int) := rfl
theorem p349 (a b : Nat) : phi 349 a ≤ phi 349 b := Nat.le_refl 0
theorem d349_0 : decode cX9_writeTooth 0 = .ok (.aload_n 0, 1) := by decide +kernel
theorem d349_1 : decode cX9_writeTooth 1 = .ok (.iload_n 1, 1) := by decide +kernel
theorem d349_2 : decode cX9_writeTooth 2 = .ok (.invokevirtual 377, 3) := by decide +kernel
theorem d349_5 : decode cX9_writeTooth 5 = .ok (.ifCond .ne 24, 3) := by decide +kernel
theorem d349_8 : decode cX9_writeTooth 8 = .ok (.aload_n 0, 1) := by decide +kernel
theorem d349_9 : decode cX9_writeTooth 9 = .ok (.aload_n 0, 1) := by decide +kernel
theorem d349_10 : decode cX9_writeTooth 10 = .ok (.iload_n 2, 1) := by decide +kernel
theorem d349_11 : decode cX9_writeTooth 11 = .ok (.invokevirtual 343, 3) := by decide +kernel
theorem d349_14 : decode cX9_writeTooth 14 = .ok (.ifCond .ne 7, 3) := by decide +kernel
theorem d349_17 : decode cX9_writeTooth 17 = .ok (.iconst 1, 1) := by decide +kernel
theorem d349_18 : decode cX9_writeTooth 18 = .ok (.goto 4, 3) := by decide +kernel
theorem d349_21 : decode cX9_writeTooth 21 = .ok (.iconst 0, 1) := by decide +kernel
theorem d349_22 : decode cX9_writeTooth 22 = .ok (.iconst 2, 1) := by decide +kernel
theorem d349_23 : decode cX9_writeTooth 23 = .ok (.invokevirtual 356, 3) := by decide +kernel
theorem d349_26 : decode cX9_writeTooth 26 = .ok (.ifCond .eq 5, 3) := by decide +kernel
theorem d349_29 : decode cX9_writeTooth 29 = .ok (.iconst 0, 1) := by decide +kernel
theorem d349_30 : decode cX9_writeTooth 30 = .ok (.ireturn, 1) := by decide +kernel
theorem d349_31 : decode cX9_writeTooth 31 = .ok (.aload_n 0, 1) := by decide +kernel
theorem d349_32 : decode cX9_writeTooth 32 = .ok (.iconst 0, 1) := by decide +kernel
theorem d349_33 : decode cX9_writeTooth 33 = .ok (.putfield 438, 3) := by decide +kernel
theorem d349_36 : decode cX9_writeTooth 36 = .ok (.aload_n 0, 1) := by decide +kernel
theorem d349_37 : decode cX9_writeTooth 37 = .ok (.aload_n 0, 1) := by decide +kernel
theorem d349_38 : decode cX9_writeTooth 38 = .ok (.iload_n 2, 1) := by decide +kernel
theorem d349_39 : decode cX9_writeTooth 39 = .ok (.iconst 0, 1) := by decide +kernel
theorem d349_40 : decode cX9_writeTooth 40 = .ok (.invokevirtual 219, 3) := by decide +kernel
theorem d349_43 : decode cX9_writeTooth 43 = .ok (.invokevirtual 444, 3) := by decide +kernel
theorem d349_46 : decode cX9_writeTooth 46 = .ok (.aload_n 0, 1) := by decide +kernel
theorem d349_47 : decode cX9_writeTooth 47 = .ok (.bipush 58, 2) := by decide +kernel
theorem d349_49 : decode cX9_writeTooth 49 = .ok (.invokevirtual 441, 3) := by decide +kernel
theorem d349_52 : decode cX9_writeTooth 52 = .ok (.iconst 0, 1) := by decide +kernel
theorem d349_53 : decode cX9_writeTooth 53 = .ok (.istore_n 3, 1) := by decide +kernel
theorem d349_54 : decode cX9_writeTooth 54 = .ok (.iload_n 3, 1) := by decide +kernel
theorem d349_55 : decode cX9_writeTooth 55 = .ok (.aload_n 0, 1) := by decide +kernel
theorem d349_56 : decode cX9_writeTooth 56 = .ok (.getfield 9, 3) := by decide +kernel
theorem d349_59 : decode cX9_writeTooth 59 = .ok (.iconst 0, 1) := by decide +kernel
theorem d349_60 : decode cX9_writeTooth 60 = .ok (.iaload, 1) := by decide +kernel
theorem d349_61 : decode cX9_writeTooth 61 = .ok (.if_icmp .ge 30, 3) := by decide +kernel
theorem d349_64 : decode cX9_writeTooth 64 = .ok (.aload_n 0, 1) := by decide +kernel
theorem d349_65 : decode cX9_writeTooth 65 = .ok (.aload_n 0, 1) := by decide +kernel
theorem d349_66 : decode cX9_writeTooth 66 = .ok (.iload_n 1, 1) := by decide +kernel
theorem d349_67 : decode cX9_writeTooth 67 = .ok (.iload_n 3, 1) := by decide +kernel
theorem d349_68 : decode cX9_writeTooth 68 = .ok (.iload_n 2, 1) := by decide +kernel
theorem d349_69 : decode cX9_writeTooth 69 = .ok (.invokevirtual 228, 3) := by decide +kernel
theorem d349_72 : decode cX9_writeTooth 72 = .ok (.ifCond .eq 8, 3) := by decide +kernel
theorem d349_75 : decode cX9_writeTooth 75 = .ok (.bipush 111, 2) := by decide +kernel
theorem d349_77 : decode cX9_writeTooth 77 = .ok (.goto 5, 3) := by decide +kernel
theorem d349_80 : decode cX9_writeTooth 80 = .ok (.bipush 46, 2) := by decide +kernel
theorem d349_82 : decode cX9_writeTooth 82 = .ok (.invokevirtual 441, 3) := by decide +kernel
theorem d349_85 : decode cX9_writeTooth 85 = .ok (.iinc 3 1, 3) := by decide +kernel
theorem d349_88 : decode cX9_writeTooth 88 = .ok (.goto (-34), 3) := by decide +kernel
theorem d349_91 : decode cX9_writeTooth 91 = .ok (.aload_n 0, 1) := by decide +kernel
theorem d349_92 : decode cX9_writeTooth 92 = .ok (.getfield 438, 3) := by decide +kernel
theorem d349_95 : decode cX9_writeTooth 95 = .ok (.ireturn, 1) := by decide +kernel
theorem v349_0 {w : PW} {Q : PO → PW → Prop} {x1 : Int} {x2 : Int} (hs : Sh w) (hx1 : bd x1) (hx2 : bd x2) (h : (bd ((gI w 170 1) - 1)) ∧ ((0 ≤ x1 ∧ x1 < gI w 170 1) → ∀ w2 : PW, w2 = sI w 169 0 0 → (bd ((gI w2 170 4) - 1)) ∧ ((0 ≤ x2 ∧ x2 < gI w2 170 4) → ∀ w4 : PW, w4 = sI w2 169 30 0 → (0 ≤ (11 + 5 * x2) + 0 ∧ (11 + 5 * x2) + 0 < 843) ∧ pC 348 [.ref 169, iv (gI w4 170 ((11 + 5 * x2) + 0).toNat)] w4 (kV fun w5 => Sh w5 ∧ pC 347 [.ref 169, iv 58] w5 (kV fun w7 => Sh w7 ∧ pX 349 54 [some (.ref 169), some (iv x1), some (iv x2), some (iv 0)] [] w7 Q))) ∧ ((¬ (0 ≤ x2 ∧ x2 < gI w2 170 4)) → ∀ w9 : PW, w9 = sI w2 169 0 2 → Q (.inl (some (iv 0))) w9)) ∧ ((¬ (0 ≤ x1 ∧ x1 < gI w 170 1)) → ∀ w11 : PW, w11 = sI w 169 0 1 → Q (.inl (some (iv 0))) w11)) : pX 349 0 [some (.ref 169), some (iv x1), some (iv x2), none] [] w Q :=
  w_f b349 d349_0 rfl rfl rfl <| w_f b349 d349_1 rfl rfl rfl <| w_cc b349 d349_2 rfl (pcl_v (n := 1) rfl rfl rfl (by decide +kernel) (sh_isOb hs (tlt 169 rfl) tbC_169) rfl rfl) rfl <| c275 hs hx1 h.1 (fun c1 => w_ifne b349 d349_5 rfl rfl (p349 _ _) ⟨by decide, by decide⟩ (fun c => absurd c (by decide)) (fun _ => w_f b349 d349_8 rfl rfl rfl <| w_f b349 d349_9 rfl rfl rfl <| w_f b349 d349_10 rfl rfl rfl <| w_cc b349 d349_11 rfl (pcl_v (n := 1) rfl rfl rfl (by decide +kernel) (sh_isOb (Sh_sI hs (slt_o tbC_169 rfl)) (tlt 169 rfl) tbC_169) rfl rfl) rfl <| c258 (Sh_sI hs (slt_o tbC_169 rfl)) hx2 (h.2.1 c1 _ rfl).1 <| w_ifneZ b349 d349_14 rfl rfl (p349 _ _) (fun c3 => w_f b349 d349_21 rfl rfl rfl <| w_f b349 d349_22 rfl rfl rfl <| w_cc b349 d349_23 rfl (pcl_v (n := 2) rfl rfl rfl (by decide +kernel) (sh_isOb (Sh_sI hs (slt_o tbC_169 rfl)) (tlt 169 rfl) tbC_169) rfl rfl) rfl <| c260a (Sh_sI hs (slt_o tbC_169 rfl)) ⟨by decide, by decide⟩ ⟨by decide, by decide⟩ <| w_ifeq b349 d349_26 rfl rfl (p349 _ _) ⟨by decide, by decide⟩ (fun _ => w_f b349 d349_31 rfl rfl rfl <| w_f b349 d349_32 rfl rfl rfl <| w_pi b349 d349_33 rfl rfl (Sh_sI hs (slt_o tbC_169 rfl)) (tlt 169 rfl) tbC_169 rfl rfl rfl <| w_f b349 d349_36 rfl rfl rfl <| w_f b349 d349_37 rfl rfl rfl <| w_f b349 d349_38 rfl rfl rfl <| w_f b349 d349_39 rfl rfl rfl <| w_cc b349 d349_40 rfl (pcl_v (n := 2) rfl rfl rfl (by decide +kernel) (sh_isOb (Sh_sI (Sh_sI hs (slt_o tbC_169 rfl)) (slt_o tbC_169 rfl)) (tlt 169 rfl) tbC_169) rfl rfl) rfl <| c261 (Sh_sI (Sh_sI hs (slt_o tbC_169 rfl)) (slt_o tbC_169 rfl)) hx2 ⟨by decide, by decide⟩ (((h.2.1 c1 _ rfl).2.1 c3) _ rfl).1 <| w_c b349 d349_43 rfl (pcl_v (n := 1) rfl rfl rfl (by decide +kernel) (sh_isOb (Sh_sI (Sh_sI hs (slt_o tbC_169 rfl)) (slt_o tbC_169 rfl)) (tlt 169 rfl) tbC_169) rfl rfl) rfl _ (hK_V fun w5 hkw5 => w_f b349 d349_46 rfl rfl rfl <| w_f b349 d349_47 rfl rfl rfl <| w_c b349 d349_49 rfl (pcl_v (n := 1) rfl rfl rfl (by decide +kernel) (sh_isOb hkw5.1 (tlt 169 rfl) tbC_169) rfl rfl) rfl _ (hK_V fun w7 hkw7 => w_f b349 d349_52 rfl rfl rfl <| w_f b349 d349_53 rfl rfl rfl <| hkw7.2) hkw5.2) (((h.2.1 c1 _ rfl).2.1 c3) _ rfl).2) (fun c => absurd c (by decide))) (fun c3 => w_f b349 d349_17 rfl rfl rfl <| w_j b349 d349_18 rfl (p349 _ _) <| w_f b349 d349_22 rfl rfl rfl <| w_cc b349 d349_23 rfl (pcl_v (n := 2) rfl rfl rfl (by decide +kernel) (sh_isOb (Sh_sI hs (slt_o tbC_169 rfl)) (tlt 169 rfl) tbC_169) rfl rfl) rfl <| c260b (Sh_sI hs (slt_o tbC_169 rfl)) ⟨by decide, by decide⟩ ⟨by decide, by decide⟩ <| w_ifeq b349 d349_26 rfl rfl (p349 _ _) ⟨by decide, by decide⟩ (fun c => absurd c (by decide)) (fun _ => w_f b349 d349_29 rfl rfl rfl <| w_ri b349 d349_30 r349 (((h.2.1 c1 _ rfl).2.2 c3) _ rfl))))) (fun c10 => w_ifne b349 d349_5 rfl rfl (p349 _ _) ⟨by decide, by decide⟩ (fun _ => w_f b349 d349_29 rfl rfl rfl <| w_ri b349 d349_30 r349 (h.2.2 c10 _ rfl)) (fun c => absurd c (by decide)))
theorem e349 {w : PW} {Q : PO → PW → Prop} {x1 : Int} {x2 : Int} (hs : Sh w) (hx1 : bd x1) (hx2 : bd x2) (h : (bd ((gI w 170 1) - 1)) ∧ ((0 ≤ x1 ∧ x1 < gI w 170 1) → ∀ w2 : PW, w2 = sI w 169 0 0 → (bd ((gI w2 170 4) - 1)) ∧ ((0 ≤ x2 ∧ x2 < gI w2 170 4) → ∀ w4 : PW, w4 = sI w2 169 30 0 → (0 ≤ (11 + 5 * x2) + 0 ∧ (11 + 5 * x2) + 0 < 843) ∧ pC 348 [.ref 169, iv (gI w4 170 ((11 + 5 * x2) + 0).toNat)] w4 (kV fun w5 => Sh w5 ∧ pC 347 [.ref 169, iv 58] w5 (kV fun w7 => Sh w7 ∧ pX 349 54 [some (.ref 169), some (iv x1), some (iv x2), some (iv 0)] [] w7 Q))) ∧ ((¬ (0 ≤ x2 ∧ x2 < gI w2 170 4)) → ∀ w9 : PW, w9 = sI w2 169 0 2 → Q (.inl (some (iv 0))) w9)) ∧ ((¬ (0 ≤ x1 ∧ x1 < gI w 170 1)) → ∀ w11 : PW, w11 = sI w 169 0 1 → Q (.inl (some (iv 0))) w11)) : pC 349 [.ref 169, iv x1, iv x2] w Q :=
  (pC_in (Nat.le_of_ble_eq_true rfl) rfl Q).mpr (v349_0 hs hx1 hx2 h)
theorem v349_54 {w : PW} {Q : PO → PW → Prop} {x1 : Int} {x2 : Int} {x3 : Int} (hs : Sh w) (hx1 : bd x1) (hx2 : bd x2) (hx3 : bd x3) (h : ((gI w 170 0) ≤ x3 → Q (.inl (some (iv (gI w 169 30)))) w) ∧ (x3 < (gI w 170 0) → (bd ((251 + 64 * x1) + x3)) ∧ (0 ≤ (251 + 64 * x1) + x3 ∧ (251 + 64 * x1) + x3 < 843) ∧ (0 ≤ x2 ∧ x2 < 32) ∧ ((¬ (tI (gI w 170 ((251 + 64 * x1) + x3).toNat) (x2).toNat = true)) → pC 347 [.ref 169, iv 46] w (kV fun w3 => Sh w3 ∧ pX 349 54 [some (.ref 169), some (iv x1), some (iv x2), some (iv (x3 + 1))] [] w3 Q)) ∧ ((tI (gI w 170 ((251 + 64 * x1) + x3).toNat) (x2).toNat = true) → pC 347 [.ref 169, iv 111] w (kV fun w5 => Sh w5 ∧ pX 349 54 [some (.ref 169), some (iv x1), some (iv x2), some (iv (x3 + 1))] [] w5 Q)))) : pX 349 54 [some (.ref 169), some (iv x1), some (iv x2), some (iv x3)] [] w Q :=
  w_f b349 d349_54 rfl rfl rfl <| w_f b349 d349_55 rfl rfl rfl <| w_gr b349 d349_56 rfl rfl hs (tlt 169 rfl) tbC_169 rfl (by decide) <| w_f b349 d349_59 rfl rfl rfl <| w_ial b349 d349_60 rfl hs (tlt 170 rfl) tbC_170 (bdix (n := 843) ⟨by decide, by decide⟩ rfl) ⟨by decide, by decide⟩ <| w_icge b349 d349_61 rfl rfl (p349 _ _) hx3 (bd_gI _ _ _) (fun c1 => w_f b349 d349_91 rfl rfl rfl <| w_gi b349 d349_92 rfl rfl hs (tlt 169 rfl) tbC_169 rfl <| w_ri b349 d349_95 r349 (h.1 c1)) (fun c1 => w_f b349 d349_64 rfl rfl rfl <| w_f b349 d349_65 rfl rfl rfl <| w_f b349 d349_66 rfl rfl rfl <| w_f b349 d349_67 rfl rfl rfl <| w_f b349 d349_68 rfl rfl rfl <| w_cc b349 d349_69 rfl (pcl_v (n := 3) rfl rfl rfl (by decide +kernel) (sh_isOb hs (tlt 169 rfl) tbC_169) rfl rfl) rfl <| c251 hs hx1 hx3 hx2 (h.2 c1).1 (h.2 c1).2.1 (h.2 c1).2.2.1 <| w_ifeqZ b349 d349_72 rfl rfl (p349 _ _) (fun c2 => w_f b349 d349_80 rfl rfl rfl <| w_c b349 d349_82 rfl (pcl_v (n := 1) rfl rfl rfl (by decide +kernel) (sh_isOb hs (tlt 169 rfl) tbC_169) rfl rfl) rfl _ (hK_V fun w3 hkw3 => w_f b349 d349_85 rfl (pf_iinc rfl rfl) rfl <| w_j b349 d349_88 rfl (p349 _ _) <| hkw3.2) ((h.2 c1).2.2.2.1 c2)) (fun c2 => w_f b349 d349_75 rfl rfl rfl <| w_j b349 d349_77 rfl (p349 _ _) <| w_c b349 d349_82 rfl (pcl_v (n := 1) rfl rfl rfl (by decide +kernel) (sh_isOb hs (tlt 169 rfl) tbC_169) rfl rfl) rfl _ (hK_V fun w5 hkw5 => w_f b349 d349_85 rfl (pf_iinc rfl rfl) rfl <| w_j b349 d349_88 rfl (p349 _ _) <| hkw5.2) ((h.2 c1).2.2.2.2 c2)))
/-! 350: PinBarrelModel.writeStep(II)I -/
theorem b350 : mB 350 = cX9_writeStep := rfl
theorem r350 : mR 350 = (some .int) := rfl
theorem p350 (a b : Nat) : phi 350 a ≤ phi 350 b := Nat.le_refl 0
theorem d350_0 : decode cX9_writeStep 0 = .ok (.aload_n 0, 1) := by decide +kernel
theorem d350_1 : decode cX9_writeStep 1 = .ok (.iload_n 1, 1) := by decide +kernel
theorem d350_2 : decode cX9_writeStep 2 = .ok (.iload_n 2, 1) := by decide +kernel
theorem d350_3 : decode cX9_writeStep 3 = .ok (.invokevirtual 374, 3) := by decide +kernel
theorem d350_6 : decode cX9_writeStep 6 = .ok (.ifCond .eq 5, 3) := by decide +kernel
theorem d350_9 : decode cX9_writeStep 9 = .ok (.iconst 0, 1) := by decide +kernel
theorem d350_10 : decode cX9_writeStep 10 = .ok (.ireturn, 1) := by decide +kernel
theorem d350_11 : decode cX9_writeStep 11 = .ok (.aload_n 0, 1) := by decide +kernel
theorem d350_12 : decode cX9_writeStep 12 = .ok (.iconst 0, 1) := by decide +kernel
theorem d350_13 : decode cX9_writeStep 13 = .ok (.putfield 438, 3) := by decide +kernel
theorem d350_16 : decode cX9_writeStep 16 = .ok (.iconst 0, 1) := by decide +kernel
theorem d350_17 : decode cX9_writeStep 17 = .ok (.istore_n 3, 1) := by decide +kernel
theorem d350_18 : decode cX9_writeStep 18 = .ok (.iload_n 3, 1) := by decide +kernel
theorem d350_19 : decode cX9_writeStep 19 = .ok (.bipush 24, 2) := by decide +kernel
theorem d350_21 : decode cX9_writeStep 21 = .ok (.if_icmp .ge 83, 3) := by decide +kernel
theorem d350_24 : decode cX9_writeStep 24 = .ok (.iconst 0, 1) := by decide +kernel
theorem d350_25 : decode cX9_writeStep 25 = .ok (.istore 4, 2) := by decide +kernel
theorem d350_27 : decode cX9_writeStep 27 = .ok (.iload 4, 2) := by decide +kernel
theorem d350_29 : decode cX9_writeStep 29 = .ok (.aload_n 0, 1) := by decide +kernel
theorem d350_30 : decode cX9_writeStep 30 = .ok (.getfield 9, 3) := by decide +kernel
theorem d350_33 : decode cX9_writeStep 33 = .ok (.iconst 5, 1) := by decide +kernel
theorem d350_34 : decode cX9_writeStep 34 = .ok (.iaload, 1) := by decide +kernel
theorem d350_35 : decode cX9_writeStep 35 = .ok (.if_icmp .ge 63, 3) := by decide +kernel
theorem d350_38 : decode cX9_writeStep 38 = .ok (.aload_n 0, 1) := by decide +kernel
theorem d350_39 : decode cX9_writeStep 39 = .ok (.iload 4, 2) := by decide +kernel
theorem d350_41 : decode cX9_writeStep 41 = .ok (.iconst 0, 1) := by decide +kernel
theorem d350_42 : decode cX9_writeStep 42 = .ok (.invokevirtual 283, 3) := by decide +kernel
theorem d350_45 : decode cX9_writeStep 45 = .ok (.iload_n 1, 1) := by decide +kernel
theorem d350_46 : decode cX9_writeStep 46 = .ok (.if_icmp .ne 46, 3) := by decide +kernel
theorem d350_49 : decode cX9_writeStep 49 = .ok (.aload_n 0, 1) := by decide +kernel
theorem d350_50 : decode cX9_writeStep 50 = .ok (.iload 4, 2) := by decide +kernel
theorem d350_52 : decode cX9_writeStep 52 = .ok (.iconst 1, 1) := by decide +kernel
theorem d350_53 : decode cX9_writeStep 53 = .ok (.invokevirtual 283, 3) := by decide +kernel
theorem d350_56 : decode cX9_writeStep 56 = .ok (.iload_n 2, 1) := by decide +kernel
theorem d350_57 : decode cX9_writeStep 57 = .ok (.if_icmp .ne 35, 3) := by decide +kernel
theorem d350_60 : decode cX9_writeStep 60 = .ok (.aload_n 0, 1) := by decide +kernel
theorem d350_61 : decode cX9_writeStep 61 = .ok (.iload 4, 2) := by decide +kernel
theorem d350_63 : decode cX9_writeStep 63 = .ok (.iconst 2, 1) := by decide +kernel
theorem d350_64 : decode cX9_writeStep 64 = .ok (.invokevirtual 283, 3) := by decide +kernel
theorem d350_67 : decode cX9_writeStep 67 = .ok (.iload_n 3, 1) := by decide +kernel
theorem d350_68 : decode cX9_writeStep 68 = .ok (.if_icmp .eq 6, 3) := by decide +kernel
theorem d350_71 : decode cX9_writeStep 71 = .ok (.goto 21, 3) := by decide +kernel
theorem d350_74 : decode cX9_writeStep 74 = .ok (.aload_n 0, 1) := by decide +kernel
theorem d350_75 : decode cX9_writeStep 75 = .ok (.getfield 438, 3) := by decide +kernel
theorem d350_78 : decode cX9_writeStep 78 = .ok (.ifCond .le 9, 3) := by decide +kernel
theorem d350_81 : decode cX9_writeStep 81 = .ok (.aload_n 0, 1) := by decide +kernel
theorem d350_82 : decode cX9_writeStep 82 = .ok (.bipush 43, 2) := by decide +kernel
theorem d350_84 : decode cX9_writeStep 84 = .ok (.invokevirtual 441, 3) := by decide +kernel
theorem d350_87 : decode cX9_writeStep 87 = .ok (.aload_n 0, 1) := by decide +kernel
theorem d350_88 : decode cX9_writeStep 88 = .ok (.iload_n 3, 1) := by decide +kernel
theorem d350_89 : decode cX9_writeStep 89 = .ok (.invokevirtual 444, 3) := by decide +kernel
theorem d350_92 : decode cX9_writeStep 92 = .ok (.iinc 4 1, 3) := by decide +kernel
theorem d350_95 : decode cX9_writeStep 95 = .ok (.goto (-68), 3) := by decide +kernel
theorem d350_98 : decode cX9_writeStep 98 = .ok (.iinc 3 1, 3) := by decide +kernel
theorem d350_101 : decode cX9_writeStep 101 = .ok (.goto (-83), 3) := by decide +kernel
theorem d350_104 : decode cX9_writeStep 104 = .ok (.aload_n 0, 1) := by decide +kernel
theorem d350_105 : decode cX9_writeStep 105 = .ok (.getfield 438, 3) := by decide +kernel
theorem d350_108 : decode cX9_writeStep 108 = .ok (.ireturn, 1) := by decide +kernel
theorem v350_0 {w : PW} {Q : PO → PW → Prop} {x1 : Int} {x2 : Int} (hs : Sh w) (hx1 : bd x1) (hx2 : bd x2) (h : (bd ((gI w 170 1) - 1)) ∧ (bd ((gI w 170 0) - 1)) ∧ (((0 ≤ x1 ∧ x1 < gI w 170 1) ∧ (0 ≤ x2 ∧ x2 < gI w 170 0)) → ∀ w2 : PW, w2 = sI w 169 0 0 → ∀ w3 : PW, w3 = sI w2 169 30 0 → pX 350 18 [some (.ref 169), some (iv x1), some (iv x2), some (iv 0), none] [] w3 Q) ∧ ((¬ ((0 ≤ x1 ∧ x1 < gI w 170 1) ∧ (0 ≤ x2 ∧ x2 < gI w 170 0))) → ∀ w5 : PW, w5 = sI w 169 0 1 → Q (.inl (some (iv 0))) w5)) : pX 350 0 [some (.ref 169), some (iv x1), some (iv x2), none, none] [] w Q :=
  w_f b350 d350_0 rfl rfl rfl <| w_f b350 d350_1 rfl rfl rfl <| w_f b350 d350_2 rfl rfl rfl <| w_cc b350 d350_3 rfl (pcl_v (n := 2) rfl rfl rfl (by decide +kernel) (sh_isOb hs (tlt 169 rfl) tbC_169) rfl rfl) rfl <| c273 hs hx1 hx2 h.1 h.2.1 (fun c1 => w_ifeq b350 d350_6 rfl rfl (p350 _ _) ⟨by decide, by decide⟩ (fun _ => w_f b350 d350_11 rfl rfl rfl <| w_f b350 d350_12 rfl rfl rfl <| w_pi b350 d350_13 rfl rfl (Sh_sI hs (slt_o tbC_169 rfl)) (tlt 169 rfl) tbC_169 rfl rfl rfl <| w_f b350 d350_16 rfl rfl rfl <| w_f b350 d350_17 rfl rfl rfl <| ((h.2.2.1 c1 _ rfl) _ rfl)) (fun c => absurd c (by decide))) (fun c4 => w_ifeq b350 d350_6 rfl rfl (p350 _ _) ⟨by decide, by decide⟩ (fun c => absurd c (by decide)) (fun _ => w_f b350 d350_9 rfl rfl rfl <| w_ri b350 d350_10 r350 (h.2.2.2 c4 _ rfl)))
theorem e350 {w : PW} {Q : PO → PW → Prop} {x1 : Int} {x2 : Int} (hs : Sh w) (hx1 : bd x1) (hx2 : bd x2) (h : (bd ((gI w 170 1) - 1)) ∧ (bd ((gI w 170 0) - 1)) ∧ (((0 ≤ x1 ∧ x1 < gI w 170 1) ∧ (0 ≤ x2 ∧ x2 < gI w 170 0)) → ∀ w2 : PW, w2 = sI w 169 0 0 → ∀ w3 : PW, w3 = sI w2 169 30 0 → pX 350 18 [some (.ref 169), some (iv x1), some (iv x2), some (iv 0), none] [] w3 Q) ∧ ((¬ ((0 ≤ x1 ∧ x1 < gI w 170 1) ∧ (0 ≤ x2 ∧ x2 < gI w 170 0))) → ∀ w5 : PW, w5 = sI w 169 0 1 → Q (.inl (some (iv 0))) w5)) : pC 350 [.ref 169, iv x1, iv x2] w Q :=
  (pC_in (Nat.le_of_ble_eq_true rfl) rfl Q).mpr (v350_0 hs hx1 hx2 h)
theorem v350_18 {w : PW} {Q : PO → PW → Prop} {x1 : Int} {x2 : Int} {x3 : Int} {o4 : Option Value} (hs : Sh w) (hx1 : bd x1) (hx2 : bd x2) (hx3 : bd x3) (ho4 : pc2 o4 = false) (h : (24 ≤ x3 → Q (.inl (some (iv (gI w 169 30)))) w) ∧ (x3 < 24 → pX 350 27 [some (.ref 169), some (iv x1), some (iv x2), some (iv x3), some (iv 0)] [] w Q)) : pX 350 18 [some (.ref 169), some (iv x1), some (iv x2), some (iv x3), o4] [] w Q :=
  w_f b350 d350_18 rfl rfl rfl <| w_f b350 d350_19 rfl rfl rfl <| w_icge b350 d350_21 rfl rfl (p350 _ _) hx3 ⟨by decide, by decide⟩ (fun c1 => w_f b350 d350_104 rfl rfl rfl <| w_gi b350 d350_105 rfl rfl hs (tlt 169 rfl) tbC_169 rfl <| w_ri b350 d350_108 r350 (h.1 c1)) (fun c1 => w_f b350 d350_24 rfl rfl rfl <| w_f b350 d350_25 rfl rfl rfl <| (h.2 c1))
theorem v350_27 {w : PW} {Q : PO → PW → Prop} {x1 : Int} {x2 : Int} {x3 : Int} {x4 : Int} (hs : Sh w) (hx1 : bd x1) (hx2 : bd x2) (hx3 : bd x3) (hx4 : bd x4) (h : ((gI w 170 5) ≤ x4 → pX 350 18 [some (.ref 169), some (iv x1), some (iv x2), some (iv (x3 + 1)), some (iv x4)] [] w Q) ∧ (x4 < (gI w 170 5) → (0 ≤ (71 + 3 * x4) + 0 ∧ (71 + 3 * x4) + 0 < 843) ∧ ((gI w 170 ((71 + 3 * x4) + 0).toNat) ≠ x1 → pX 350 27 [some (.ref 169), some (iv x1), some (iv x2), some (iv x3), some (iv (x4 + 1))] [] w Q) ∧ ((gI w 170 ((71 + 3 * x4) + 0).toNat) = x1 → (0 ≤ (71 + 3 * x4) + 1 ∧ (71 + 3 * x4) + 1 < 843) ∧ ((gI w 170 ((71 + 3 * x4) + 1).toNat) ≠ x2 → pX 350 27 [some (.ref 169), some (iv x1), some (iv x2), some (iv x3), some (iv (x4 + 1))] [] w Q) ∧ ((gI w 170 ((71 + 3 * x4) + 1).toNat) = x2 → (0 ≤ (71 + 3 * x4) + 2 ∧ (71 + 3 * x4) + 2 < 843) ∧ ((gI w 170 ((71 + 3 * x4) + 2).toNat) = x3 → ((gI w 169 30) ≤ 0 → pC 348 [.ref 169, iv x3] w (kV fun w6 => Sh w6 ∧ pX 350 27 [some (.ref 169), some (iv x1), some (iv x2), some (iv x3), some (iv (x4 + 1))] [] w6 Q)) ∧ (0 < (gI w 169 30) → pC 347 [.ref 169, iv 43] w (kV fun w8 => Sh w8 ∧ pC 348 [.ref 169, iv x3] w8 (kV fun w10 => Sh w10 ∧ pX 350 27 [some (.ref 169), some (iv x1), some (iv x2), some (iv x3), some (iv (x4 + 1))] [] w10 Q)))) ∧ ((gI w 170 ((71 + 3 * x4) + 2).toNat) ≠ x3 → pX 350 27 [some (.ref 169), some (iv x1), some (iv x2), some (iv x3), some (iv (x4 + 1))] [] w Q))))) : pX 350 27 [some (.ref 169), some (iv x1), some (iv x2), some (iv x3), some (iv x4)] [] w Q :=
  w_f b350 d350_27 rfl rfl rfl <| w_f b350 d350_29 rfl rfl rfl <| w_gr b350 d350_30 rfl rfl hs (tlt 169 rfl) tbC_169 rfl (by decide) <| w_f b350 d350_33 rfl rfl rfl <| w_ial b350 d350_34 rfl hs (tlt 170 rfl) tbC_170 (bdix (n := 843) ⟨by decide, by decide⟩ rfl) ⟨by decide, by decide⟩ <| w_icge b350 d350_35 rfl rfl (p350 _ _) hx4 (bd_gI _ _ _) (fun c1 => w_f b350 d350_98 rfl (pf_iinc rfl rfl) rfl <| w_j b350 d350_101 rfl (p350 _ _) <| (h.1 c1)) (fun c1 => w_f b350 d350_38 rfl rfl rfl <| w_f b350 d350_39 rfl rfl rfl <| w_f b350 d350_41 rfl rfl rfl <| w_cc b350 d350_42 rfl (pcl_v (n := 2) rfl rfl rfl (by decide +kernel) (sh_isOb hs (tlt 169 rfl) tbC_169) rfl rfl) rfl <| c267 hs hx4 ⟨by decide, by decide⟩ (h.2 c1).1 <| w_f b350 d350_45 rfl rfl rfl <| w_icne b350 d350_46 rfl rfl (p350 _ _) (bd_gI _ _ _) hx1 (fun c2 => w_f b350 d350_92 rfl (pf_iinc rfl rfl) rfl <| w_j b350 d350_95 rfl (p350 _ _) <| ((h.2 c1).2.1 c2)) (fun c2 => w_f b350 d350_49 rfl rfl rfl <| w_f b350 d350_50 rfl rfl rfl <| w_f b350 d350_52 rfl rfl rfl <| w_cc b350 d350_53 rfl (pcl_v (n := 2) rfl rfl rfl (by decide +kernel) (sh_isOb hs (tlt 169 rfl) tbC_169) rfl rfl) rfl <| c267 hs hx4 ⟨by decide, by decide⟩ ((h.2 c1).2.2 c2).1 <| w_f b350 d350_56 rfl rfl rfl <| w_icne b350 d350_57 rfl rfl (p350 _ _) (bd_gI _ _ _) hx2 (fun c3 => w_f b350 d350_92 rfl (pf_iinc rfl rfl) rfl <| w_j b350 d350_95 rfl (p350 _ _) <| (((h.2 c1).2.2 c2).2.1 c3)) (fun c3 => w_f b350 d350_60 rfl rfl rfl <| w_f b350 d350_61 rfl rfl rfl <| w_f b350 d350_63 rfl rfl rfl <| w_cc b350 d350_64 rfl (pcl_v (n := 2) rfl rfl rfl (by decide +kernel) (sh_isOb hs (tlt 169 rfl) tbC_169) rfl rfl) rfl <| c267 hs hx4 ⟨by decide, by decide⟩ (((h.2 c1).2.2 c2).2.2 c3).1 <| w_f b350 d350_67 rfl rfl rfl <| w_iceq b350 d350_68 rfl rfl (p350 _ _) (bd_gI _ _ _) hx3 (fun c4 => w_f b350 d350_74 rfl rfl rfl <| w_gi b350 d350_75 rfl rfl hs (tlt 169 rfl) tbC_169 rfl <| w_ifle b350 d350_78 rfl rfl (p350 _ _) (bd_gI _ _ _) (fun c5 => w_f b350 d350_87 rfl rfl rfl <| w_f b350 d350_88 rfl rfl rfl <| w_c b350 d350_89 rfl (pcl_v (n := 1) rfl rfl rfl (by decide +kernel) (sh_isOb hs (tlt 169 rfl) tbC_169) rfl rfl) rfl _ (hK_V fun w6 hkw6 => w_f b350 d350_92 rfl (pf_iinc rfl rfl) rfl <| w_j b350 d350_95 rfl (p350 _ _) <| hkw6.2) (((((h.2 c1).2.2 c2).2.2 c3).2.1 c4).1 c5)) (fun c5 => w_f b350 d350_81 rfl rfl rfl <| w_f b350 d350_82 rfl rfl rfl <| w_c b350 d350_84 rfl (pcl_v (n := 1) rfl rfl rfl (by decide +kernel) (sh_isOb hs (tlt 169 rfl) tbC_169) rfl rfl) rfl _ (hK_V fun w8 hkw8 => w_f b350 d350_87 rfl rfl rfl <| w_f b350 d350_88 rfl rfl rfl <| w_c b350 d350_89 rfl (pcl_v (n := 1) rfl rfl rfl (by decide +kernel) (sh_isOb hkw8.1 (tlt 169 rfl) tbC_169) rfl rfl) rfl _ (hK_V fun w10 hkw10 => w_f b350 d350_92 rfl (pf_iinc rfl rfl) rfl <| w_j b350 d350_95 rfl (p350 _ _) <| hkw10.2) hkw8.2) (((((h.2 c1).2.2 c2).2.2 c3).2.1 c4).2 c5))) (fun c4 => w_j b350 d350_71 rfl (p350 _ _) <| w_f b350 d350_92 rfl (pf_iinc rfl rfl) rfl <| w_j b350 d350_95 rfl (p350 _ _) <| ((((h.2 c1).2.2 c2).2.2 c3).2.2 c4)))))
/-! 351: PinBarrelModel.outputByte(I)I -/
theorem b351 : mB 351 = cX9_outputByte := rfl
theorem r351 : mR 351 = (some .int) := rfl
theorem p351 (a b : Nat) : phi 351 a ≤ phi 351 b := Nat.le_refl 0
theorem d351_0 : decode cX9_outputByte 0 = .ok (.aload_n 0, 1) := by decide +kernel
theorem d351_1 : decode cX9_outputByte 1 = .ok (.iconst 0, 1) := by decide +kernel
theorem d351_2 : decode cX9_outputByte 2 = .ok (.putfield 50, 3) := by decide +kernel
theorem d351_5 : decode cX9_outputByte 5 = .ok (.iload_n 1, 1) := by decide +kernel
theorem d351_6 : decode cX9_outputByte 6 = .ok (.i2l, 1) := by decide +kernel
theorem d351_7 : decode cX9_outputByte 7 = .ok (.lconst 0, 1) := by decide +kernel
theorem d351_8 : decode cX9_outputByte 8 = .ok (.aload_n 0, 1) := by decide +kernel
theorem d351_9 : decode cX9_outputByte 9 = .ok (.getfield 438, 3) := by decide +kernel
theorem d351_12 : decode cX9_outputByte 12 = .ok (.iconst 1, 1) := by decide +kernel
theorem d351_13 : decode cX9_outputByte 13 = .ok (.isub, 1) := by decide +kernel
theorem d351_14 : decode cX9_outputByte 14 = .ok (.i2l, 1) := by decide +kernel
theorem d351_15 : decode cX9_outputByte 15 = .ok (.invokestatic 81, 3) := by decide +kernel
theorem d351_18 : decode cX9_outputByte 18 = .ok (.ifCond .eq 12, 3) := by decide +kernel
theorem d351_21 : decode cX9_outputByte 21 = .ok (.aload_n 0, 1) := by decide +kernel
theorem d351_22 : decode cX9_outputByte 22 = .ok (.getfield 43, 3) := by decide +kernel
theorem d351_25 : decode cX9_outputByte 25 = .ok (.iload_n 1, 1) := by decide +kernel
theorem d351_26 : decode cX9_outputByte 26 = .ok (.iaload, 1) := by decide +kernel
theorem d351_27 : decode cX9_outputByte 27 = .ok (.goto 4, 3) := by decide +kernel
theorem d351_30 : decode cX9_outputByte 30 = .ok (.iconst (-1), 1) := by decide +kernel
theorem d351_31 : decode cX9_outputByte 31 = .ok (.ireturn, 1) := by decide +kernel
theorem v351_0 {w : PW} {Q : PO → PW → Prop} {x1 : Int} (hs : Sh w) (hx1 : bd x1) (h : ∀ w1 : PW, w1 = sI w 169 0 0 → ((¬ (((0 : Int64)).toInt ≤ (i2L x1).toInt ∧ (i2L x1).toInt ≤ (i2L ((gI w1 169 30) - 1)).toInt)) → Q (.inl (some (iv ((-1))))) w1) ∧ ((((0 : Int64)).toInt ≤ (i2L x1).toInt ∧ (i2L x1).toInt ≤ (i2L ((gI w1 169 30) - 1)).toInt) → (0 ≤ x1 ∧ x1 < 400) ∧ Q (.inl (some (iv (gI w1 179 x1.toNat)))) w1)) : pX 351 0 [some (.ref 169), some (iv x1)] [] w Q :=
  w_f b351 d351_0 rfl rfl rfl <| w_f b351 d351_1 rfl rfl rfl <| w_pi b351 d351_2 rfl rfl hs (tlt 169 rfl) tbC_169 rfl rfl rfl <| w_f b351 d351_5 rfl rfl rfl <| w_f b351 d351_6 rfl rfl rfl <| w_f b351 d351_7 rfl rfl rfl <| w_f b351 d351_8 rfl rfl rfl <| w_gi b351 d351_9 rfl rfl (Sh_sI hs (slt_o tbC_169 rfl)) (tlt 169 rfl) tbC_169 rfl <| w_f b351 d351_12 rfl rfl rfl <| w_f b351 d351_13 rfl (pf_isub _ 1) rfl <| w_f b351 d351_14 rfl rfl rfl <| w_cc b351 d351_15 rfl (pcl_s1 (n := 3) rfl rfl rfl (by decide +kernel) rfl rfl) rfl <| c221 (Sh_sI hs (slt_o tbC_169 rfl)) <| w_ifeqZ b351 d351_18 rfl rfl (p351 _ _) (fun c2 => w_f b351 d351_30 rfl rfl rfl <| w_ri b351 d351_31 r351 ((h _ rfl).1 c2)) (fun c2 => w_f b351 d351_21 rfl rfl rfl <| w_gr b351 d351_22 rfl rfl (Sh_sI hs (slt_o tbC_169 rfl)) (tlt 169 rfl) tbC_169 rfl (by decide) <| w_f b351 d351_25 rfl rfl rfl <| w_ial b351 d351_26 rfl (Sh_sI hs (slt_o tbC_169 rfl)) (tlt 179 rfl) tbC_179 (bdix (n := 400) ((h _ rfl).2 c2).1 rfl) ((h _ rfl).2 c2).1 <| w_j b351 d351_27 rfl (p351 _ _) <| w_ri b351 d351_31 r351 ((h _ rfl).2 c2).2)
theorem e351 {w : PW} {Q : PO → PW → Prop} {x1 : Int} (hs : Sh w) (hx1 : bd x1) (h : ∀ w1 : PW, w1 = sI w 169 0 0 → ((¬ (((0 : Int64)).toInt ≤ (i2L x1).toInt ∧ (i2L x1).toInt ≤ (i2L ((gI w1 169 30) - 1)).toInt)) → Q (.inl (some (iv ((-1))))) w1) ∧ ((((0 : Int64)).toInt ≤ (i2L x1).toInt ∧ (i2L x1).toInt ≤ (i2L ((gI w1 169 30) - 1)).toInt) → (0 ≤ x1 ∧ x1 < 400) ∧ Q (.inl (some (iv (gI w1 179 x1.toNat)))) w1)) : pC 351 [.ref 169, iv x1] w Q :=
  (pC_in (Nat.le_of_ble_eq_true rfl) rfl Q).mpr (v351_0 hs hx1 h)
/-! 352: PinBarrelModel.undo()I -/
theorem b352 : mB 352 = cX9_undo := rfl
theorem r352 : mR 352 = (some .int) := rfl
theorem p352 (a b : Nat) : phi 352 a ≤ phi 352 b := Nat.le_refl 0
theorem d352_0 : decode cX9_undo 0 = .ok (.aload_n 0, 1) := by decide +kernel
theorem d352_1 : decode cX9_undo 1 = .ok (.iconst 0, 1) := by decide +kernel
theorem d352_2 : decode cX9_undo 2 = .ok (.putfield 50, 3) := by decide +kernel
theorem d352_5 : decode cX9_undo 5 = .ok (.aload_n 0, 1) := by decide +kernel
theorem d352_6 : decode cX9_undo 6 = .ok (.getfield 53, 3) := by decide +kernel
theorem d352_9 : decode cX9_undo 9 = .ok (.ifCond .ne 5, 3) := by decide +kernel
theorem d352_12 : decode cX9_undo 12 = .ok (.iconst (-1), 1) := by decide +kernel
theorem d352_13 : decode cX9_undo 13 = .ok (.ireturn, 1) := by decide +kernel
theorem d352_14 : decode cX9_undo 14 = .ok (.aload_n 0, 1) := by decide +kernel
theorem d352_15 : decode cX9_undo 15 = .ok (.dup, 1) := by decide +kernel
theorem d352_16 : decode cX9_undo 16 = .ok (.getfield 53, 3) := by decide +kernel
theorem d352_19 : decode cX9_undo 19 = .ok (.iconst 1, 1) := by decide +kernel
theorem d352_20 : decode cX9_undo 20 = .ok (.isub, 1) := by decide +kernel
theorem d352_21 : decode cX9_undo 21 = .ok (.putfield 53, 3) := by decide +kernel
theorem d352_24 : decode cX9_undo 24 = .ok (.iconst 0, 1) := by decide +kernel
theorem d352_25 : decode cX9_undo 25 = .ok (.istore_n 1, 1) := by decide +kernel
theorem d352_26 : decode cX9_undo 26 = .ok (.iload_n 1, 1) := by decide +kernel
theorem d352_27 : decode cX9_undo 27 = .ok (.sipush 843, 3) := by decide +kernel
theorem d352_30 : decode cX9_undo 30 = .ok (.if_icmp .ge 30, 3) := by decide +kernel
theorem d352_33 : decode cX9_undo 33 = .ok (.aload_n 0, 1) := by decide +kernel
theorem d352_34 : decode cX9_undo 34 = .ok (.getfield 9, 3) := by decide +kernel
theorem d352_37 : decode cX9_undo 37 = .ok (.iload_n 1, 1) := by decide +kernel
theorem d352_38 : decode cX9_undo 38 = .ok (.aload_n 0, 1) := by decide +kernel
theorem d352_39 : decode cX9_undo 39 = .ok (.getfield 23, 3) := by decide +kernel
theorem d352_42 : decode cX9_undo 42 = .ok (.sipush 843, 3) := by decide +kernel
theorem d352_45 : decode cX9_undo 45 = .ok (.aload_n 0, 1) := by decide +kernel
theorem d352_46 : decode cX9_undo 46 = .ok (.getfield 53, 3) := by decide +kernel
theorem d352_49 : decode cX9_undo 49 = .ok (.imul, 1) := by decide +kernel
theorem d352_50 : decode cX9_undo 50 = .ok (.iload_n 1, 1) := by decide +kernel
theorem d352_51 : decode cX9_undo 51 = .ok (.iadd, 1) := by decide +kernel
theorem d352_52 : decode cX9_undo 52 = .ok (.iaload, 1) := by decide +kernel
theorem d352_53 : decode cX9_undo 53 = .ok (.iastore, 1) := by decide +kernel
theorem d352_54 : decode cX9_undo 54 = .ok (.iinc 1 1, 3) := by decide +kernel
theorem d352_57 : decode cX9_undo 57 = .ok (.goto (-31), 3) := by decide +kernel
theorem d352_60 : decode cX9_undo 60 = .ok (.aload_n 0, 1) := by decide +kernel
theorem d352_61 : decode cX9_undo 61 = .ok (.getfield 53, 3) := by decide +kernel
theorem d352_64 : decode cX9_undo 64 = .ok (.ireturn, 1) := by decide +kernel
theorem v352_0 {w : PW} {Q : PO → PW → Prop}  (hs : Sh w)  (h : ∀ w1 : PW, w1 = sI w 169 0 0 → ((gI w1 169 6) ≠ 0 → ∀ w3 : PW, w3 = sI w1 169 6 ((gI w1 169 6) - 1) → pX 352 26 [some (.ref 169), some (iv 0)] [] w3 Q) ∧ ((gI w1 169 6) = 0 → Q (.inl (some (iv ((-1))))) w1)) : pX 352 0 [some (.ref 169), none] [] w Q :=
  w_f b352 d352_0 rfl rfl rfl <| w_f b352 d352_1 rfl rfl rfl <| w_pi b352 d352_2 rfl rfl hs (tlt 169 rfl) tbC_169 rfl rfl rfl <| w_f b352 d352_5 rfl rfl rfl <| w_gi b352 d352_6 rfl rfl (Sh_sI hs (slt_o tbC_169 rfl)) (tlt 169 rfl) tbC_169 rfl <| w_ifne b352 d352_9 rfl rfl (p352 _ _) (bd_gI _ _ _) (fun c2 => w_f b352 d352_14 rfl rfl rfl <| w_f b352 d352_15 rfl rfl rfl <| w_gi b352 d352_16 rfl rfl (Sh_sI hs (slt_o tbC_169 rfl)) (tlt 169 rfl) tbC_169 rfl <| w_f b352 d352_19 rfl rfl rfl <| w_f b352 d352_20 rfl (pf_isub _ 1) rfl <| w_pi b352 d352_21 rfl rfl (Sh_sI hs (slt_o tbC_169 rfl)) (tlt 169 rfl) tbC_169 rfl rfl rfl <| w_f b352 d352_24 rfl rfl rfl <| w_f b352 d352_25 rfl rfl rfl <| (((h _ rfl).1 c2) _ rfl)) (fun c2 => w_f b352 d352_12 rfl rfl rfl <| w_ri b352 d352_13 r352 ((h _ rfl).2 c2))
theorem e352 {w : PW} {Q : PO → PW → Prop}  (hs : Sh w)  (h : ∀ w1 : PW, w1 = sI w 169 0 0 → ((gI w1 169 6) ≠ 0 → ∀ w3 : PW, w3 = sI w1 169 6 ((gI w1 169 6) - 1) → pX 352 26 [some (.ref 169), some (iv 0)] [] w3 Q) ∧ ((gI w1 169 6) = 0 → Q (.inl (some (iv ((-1))))) w1)) : pC 352 [.ref 169] w Q :=
  (pC_in (Nat.le_of_ble_eq_true rfl) rfl Q).mpr (v352_0 hs  h)
theorem v352_26 {w : PW} {Q : PO → PW → Prop} {x1 : Int} (hs : Sh w) (hx1 : bd x1) (h : (843 ≤ x1 → Q (.inl (some (iv (gI w 169 6)))) w) ∧ (x1 < 843 → (0 ≤ ((843 * (gI w 169 6)) + x1) ∧ ((843 * (gI w 169 6)) + x1) < 6744) ∧ (0 ≤ x1 ∧ x1 < 843) ∧ ∀ w2 : PW, w2 = sI w 170 x1.toNat (gI w 174 ((843 * (gI w 169 6)) + x1).toNat) → pX 352 26 [some (.ref 169), some (iv (x1 + 1))] [] w2 Q)) : pX 352 26 [some (.ref 169), some (iv x1)] [] w Q :=
  w_f b352 d352_26 rfl rfl rfl <| w_f b352 d352_27 rfl rfl rfl <| w_icge b352 d352_30 rfl rfl (p352 _ _) hx1 ⟨by decide, by decide⟩ (fun c1 => w_f b352 d352_60 rfl rfl rfl <| w_gi b352 d352_61 rfl rfl hs (tlt 169 rfl) tbC_169 rfl <| w_ri b352 d352_64 r352 (h.1 c1)) (fun c1 => w_f b352 d352_33 rfl rfl rfl <| w_gr b352 d352_34 rfl rfl hs (tlt 169 rfl) tbC_169 rfl (by decide) <| w_f b352 d352_37 rfl rfl rfl <| w_f b352 d352_38 rfl rfl rfl <| w_gr b352 d352_39 rfl rfl hs (tlt 169 rfl) tbC_169 rfl (by decide) <| w_f b352 d352_42 rfl rfl rfl <| w_f b352 d352_45 rfl rfl rfl <| w_gi b352 d352_46 rfl rfl hs (tlt 169 rfl) tbC_169 rfl <| w_f b352 d352_49 rfl (pf_imul 843 (gI w 169 6)) rfl <| w_f b352 d352_50 rfl rfl rfl <| w_f b352 d352_51 rfl (pf_iadd (843 * (gI w 169 6)) x1) rfl <| w_ial b352 d352_52 rfl hs (tlt 174 rfl) tbC_174 (bdix (n := 6744) (h.2 c1).1 rfl) (h.2 c1).1 <| w_ias b352 d352_53 rfl hs (tlt 170 rfl) tbC_170 (bdix (n := 843) (h.2 c1).2.1 rfl) (h.2 c1).2.1 <| w_f b352 d352_54 rfl (pf_iinc rfl rfl) rfl <| w_j b352 d352_57 rfl (p352 _ _) <| ((h.2 c1).2.2 _ rfl))
/-! 353: PinBarrelModel.saveSnapshot(I)I -/
theorem b353 : mB 353 = cX9_saveSnapshot := rfl
theorem r353 : mR 353 = (some .int) := rfl
theorem p353 (a b : Nat) : phi 353 a ≤ phi 353 b := Nat.le_refl 0
theorem d353_0 : decode cX9_saveSnapshot 0 = .ok (.aload_n 0, 1) := by decide +kernel
theorem d353_1 : decode cX9_saveSnapshot 1 = .ok (.iload_n 1, 1) := by decide +kernel
theorem d353_2 : decode cX9_saveSnapshot 2 = .ok (.i2l, 1) := by decide +kernel
theorem d353_3 : decode cX9_saveSnapshot 3 = .ok (.lconst 0, 1) := by decide +kernel
theorem d353_4 : decode cX9_saveSnapshot 4 = .ok (.lconst 1, 1) := by decide +kernel
theorem d353_5 : decode cX9_saveSnapshot 5 = .ok (.invokestatic 81, 3) := by decide +kernel
theorem d353_8 : decode cX9_saveSnapshot 8 = .ok (.ifCond .ne 7, 3) := by decide +kernel
theorem d353_11 : decode cX9_saveSnapshot 11 = .ok (.iconst 1, 1) := by decide +kernel
theorem d353_12 : decode cX9_saveSnapshot 12 = .ok (.goto 4, 3) := by decide +kernel
theorem d353_15 : decode cX9_saveSnapshot 15 = .ok (.iconst 0, 1) := by decide +kernel
theorem d353_16 : decode cX9_saveSnapshot 16 = .ok (.invokevirtual 328, 3) := by decide +kernel
theorem d353_19 : decode cX9_saveSnapshot 19 = .ok (.ifCond .eq 5, 3) := by decide +kernel
theorem d353_22 : decode cX9_saveSnapshot 22 = .ok (.iconst 0, 1) := by decide +kernel
theorem d353_23 : decode cX9_saveSnapshot 23 = .ok (.ireturn, 1) := by decide +kernel
theorem d353_24 : decode cX9_saveSnapshot 24 = .ok (.iconst 0, 1) := by decide +kernel
theorem d353_25 : decode cX9_saveSnapshot 25 = .ok (.istore_n 2, 1) := by decide +kernel
theorem d353_26 : decode cX9_saveSnapshot 26 = .ok (.iload_n 2, 1) := by decide +kernel
theorem d353_27 : decode cX9_saveSnapshot 27 = .ok (.sipush 843, 3) := by decide +kernel
theorem d353_30 : decode cX9_saveSnapshot 30 = .ok (.if_icmp .ge 27, 3) := by decide +kernel
theorem d353_33 : decode cX9_saveSnapshot 33 = .ok (.aload_n 0, 1) := by decide +kernel
theorem d353_34 : decode cX9_saveSnapshot 34 = .ok (.getfield 16, 3) := by decide +kernel
theorem d353_37 : decode cX9_saveSnapshot 37 = .ok (.sipush 843, 3) := by decide +kernel
theorem d353_40 : decode cX9_saveSnapshot 40 = .ok (.iload_n 1, 1) := by decide +kernel
theorem d353_41 : decode cX9_saveSnapshot 41 = .ok (.imul, 1) := by decide +kernel
theorem d353_42 : decode cX9_saveSnapshot 42 = .ok (.iload_n 2, 1) := by decide +kernel
theorem d353_43 : decode cX9_saveSnapshot 43 = .ok (.iadd, 1) := by decide +kernel
theorem d353_44 : decode cX9_saveSnapshot 44 = .ok (.aload_n 0, 1) := by decide +kernel
theorem d353_45 : decode cX9_saveSnapshot 45 = .ok (.getfield 9, 3) := by decide +kernel
theorem d353_48 : decode cX9_saveSnapshot 48 = .ok (.iload_n 2, 1) := by decide +kernel
theorem d353_49 : decode cX9_saveSnapshot 49 = .ok (.iaload, 1) := by decide +kernel
theorem d353_50 : decode cX9_saveSnapshot 50 = .ok (.iastore, 1) := by decide +kernel
theorem d353_51 : decode cX9_saveSnapshot 51 = .ok (.iinc 2 1, 3) := by decide +kernel
theorem d353_54 : decode cX9_saveSnapshot 54 = .ok (.goto (-28), 3) := by decide +kernel
theorem d353_57 : decode cX9_saveSnapshot 57 = .ok (.aload_n 0, 1) := by decide +kernel
theorem d353_58 : decode cX9_saveSnapshot 58 = .ok (.getfield 19, 3) := by decide +kernel
theorem d353_61 : decode cX9_saveSnapshot 61 = .ok (.iload_n 1, 1) := by decide +kernel
theorem d353_62 : decode cX9_saveSnapshot 62 = .ok (.iconst 1, 1) := by decide +kernel
theorem d353_63 : decode cX9_saveSnapshot 63 = .ok (.bastore, 1) := by decide +kernel
theorem d353_64 : decode cX9_saveSnapshot 64 = .ok (.aload_n 0, 1) := by decide +kernel
theorem d353_65 : decode cX9_saveSnapshot 65 = .ok (.invokevirtual 332, 3) := by decide +kernel
theorem d353_68 : decode cX9_saveSnapshot 68 = .ok (.ireturn, 1) := by decide +kernel
theorem v353_0 {w : PW} {Q : PO → PW → Prop} {x1 : Int} (hs : Sh w) (hx1 : bd x1) (h : ((((0 : Int64)).toInt ≤ (i2L x1).toInt ∧ (i2L x1).toInt ≤ ((1 : Int64)).toInt) → ∀ w2 : PW, w2 = sI w 169 0 0 → pX 353 26 [some (.ref 169), some (iv x1), some (iv 0)] [] w2 Q) ∧ ((¬ (((0 : Int64)).toInt ≤ (i2L x1).toInt ∧ (i2L x1).toInt ≤ ((1 : Int64)).toInt)) → ∀ w3 : PW, w3 = sI w 169 0 1 → Q (.inl (some (iv 0))) w3)) : pX 353 0 [some (.ref 169), some (iv x1), none] [] w Q :=
  w_f b353 d353_0 rfl rfl rfl <| w_f b353 d353_1 rfl rfl rfl <| w_f b353 d353_2 rfl rfl rfl <| w_f b353 d353_3 rfl rfl rfl <| w_f b353 d353_4 rfl rfl rfl <| w_cc b353 d353_5 rfl (pcl_s1 (n := 3) rfl rfl rfl (by decide +kernel) rfl rfl) rfl <| c221 hs <| w_ifneZ b353 d353_8 rfl rfl (p353 _ _) (fun c1 => w_f b353 d353_15 rfl rfl rfl <| w_cc b353 d353_16 rfl (pcl_v (n := 1) rfl rfl rfl (by decide +kernel) (sh_isOb hs (tlt 169 rfl) tbC_169) rfl rfl) rfl <| c245 hs ⟨by decide, by decide⟩ (by decide) <| w_ifeq b353 d353_19 rfl rfl (p353 _ _) ⟨by decide, by decide⟩ (fun _ => w_f b353 d353_24 rfl rfl rfl <| w_f b353 d353_25 rfl rfl rfl <| ((h.1 c1) _ rfl)) (fun c => absurd c (by decide))) (fun c1 => w_f b353 d353_11 rfl rfl rfl <| w_j b353 d353_12 rfl (p353 _ _) <| w_cc b353 d353_16 rfl (pcl_v (n := 1) rfl rfl rfl (by decide +kernel) (sh_isOb hs (tlt 169 rfl) tbC_169) rfl rfl) rfl <| c245 hs ⟨by decide, by decide⟩ (by decide) <| w_ifeq b353 d353_19 rfl rfl (p353 _ _) ⟨by decide, by decide⟩ (fun c => absurd c (by decide)) (fun _ => w_f b353 d353_22 rfl rfl rfl <| w_ri b353 d353_23 r353 ((h.2 c1) _ rfl)))
theorem e353 {w : PW} {Q : PO → PW → Prop} {x1 : Int} (hs : Sh w) (hx1 : bd x1) (h : ((((0 : Int64)).toInt ≤ (i2L x1).toInt ∧ (i2L x1).toInt ≤ ((1 : Int64)).toInt) → ∀ w2 : PW, w2 = sI w 169 0 0 → pX 353 26 [some (.ref 169), some (iv x1), some (iv 0)] [] w2 Q) ∧ ((¬ (((0 : Int64)).toInt ≤ (i2L x1).toInt ∧ (i2L x1).toInt ≤ ((1 : Int64)).toInt)) → ∀ w3 : PW, w3 = sI w 169 0 1 → Q (.inl (some (iv 0))) w3)) : pC 353 [.ref 169, iv x1] w Q :=
  (pC_in (Nat.le_of_ble_eq_true rfl) rfl Q).mpr (v353_0 hs hx1 h)
theorem v353_26 {w : PW} {Q : PO → PW → Prop} {x1 : Int} {x2 : Int} (hs : Sh w) (hx1 : bd x1) (hx2 : bd x2) (h : (843 ≤ x2 → (0 ≤ x1 ∧ x1 < 2) ∧ ∀ w2 : PW, w2 = sI w 173 x1.toNat 1 → pC 248 [.ref 169] w2 (kI fun u4 w3 => Sh w3 ∧ Q (.inl (some (iv u4))) w3)) ∧ (x2 < 843 → (0 ≤ x2 ∧ x2 < 843) ∧ (0 ≤ ((843 * x1) + x2) ∧ ((843 * x1) + x2) < 1686) ∧ ∀ w5 : PW, w5 = sI w 172 ((843 * x1) + x2).toNat (gI w 170 x2.toNat) → pX 353 26 [some (.ref 169), some (iv x1), some (iv (x2 + 1))] [] w5 Q)) : pX 353 26 [some (.ref 169), some (iv x1), some (iv x2)] [] w Q :=
  w_f b353 d353_26 rfl rfl rfl <| w_f b353 d353_27 rfl rfl rfl <| w_icge b353 d353_30 rfl rfl (p353 _ _) hx2 ⟨by decide, by decide⟩ (fun c1 => w_f b353 d353_57 rfl rfl rfl <| w_gr b353 d353_58 rfl rfl hs (tlt 169 rfl) tbC_169 rfl (by decide) <| w_f b353 d353_61 rfl rfl rfl <| w_f b353 d353_62 rfl rfl rfl <| w_bas b353 d353_63 rfl hs (tlt 173 rfl) tbC_173 (by decide) (bdix (n := 2) (h.1 c1).1 rfl) (h.1 c1).1 <| w_f b353 d353_64 rfl rfl rfl <| w_c b353 d353_65 rfl (pcl_v (n := 0) rfl rfl rfl (by decide +kernel) (sh_isOb (Sh_sI hs (slt_a tbC_173)) (tlt 169 rfl) tbC_169) rfl rfl) rfl _ (hK_I fun u4 w3 hbu4 hkw3 => w_ri b353 d353_68 r353 hkw3.2) ((h.1 c1).2 _ rfl)) (fun c1 => w_f b353 d353_33 rfl rfl rfl <| w_gr b353 d353_34 rfl rfl hs (tlt 169 rfl) tbC_169 rfl (by decide) <| w_f b353 d353_37 rfl rfl rfl <| w_f b353 d353_40 rfl rfl rfl <| w_f b353 d353_41 rfl (pf_imul 843 x1) rfl <| w_f b353 d353_42 rfl rfl rfl <| w_f b353 d353_43 rfl (pf_iadd (843 * x1) x2) rfl <| w_f b353 d353_44 rfl rfl rfl <| w_gr b353 d353_45 rfl rfl hs (tlt 169 rfl) tbC_169 rfl (by decide) <| w_f b353 d353_48 rfl rfl rfl <| w_ial b353 d353_49 rfl hs (tlt 170 rfl) tbC_170 (bdix (n := 843) (h.2 c1).1 rfl) (h.2 c1).1 <| w_ias b353 d353_50 rfl hs (tlt 172 rfl) tbC_172 (bdix (n := 1686) (h.2 c1).2.1 rfl) (h.2 c1).2.1 <| w_f b353 d353_51 rfl (pf_iinc rfl rfl) rfl <| w_j b353 d353_54 rfl (p353 _ _) <| ((h.2 c1).2.2 _ rfl))
/-! 354: PinBarrelModel.restoreSnapshot(I)I -/
theorem b354 : mB 354 = cX9_restoreSnapshot := rfl
theorem r354 : mR 354 = (some .int) := rfl
theorem p354 (a b : Nat) : phi 354 a ≤ phi 354 b := Nat.le_refl 0
theorem d354_0 : decode cX9_restoreSnapshot 0 = .ok (.aload_n 0, 1) := by decide +kernel
theorem d354_1 : decode cX9_restoreSnapshot 1 = .ok (.iload_n 1, 1) := by decide +kernel
theorem d354_2 : decode cX9_restoreSnapshot 2 = .ok (.i2l, 1) := by decide +kernel
theorem d354_3 : decode cX9_restoreSnapshot 3 = .ok (.lconst 0, 1) := by decide +kernel
theorem d354_4 : decode cX9_restoreSnapshot 4 = .ok (.lconst 1, 1) := by decide +kernel
theorem d354_5 : decode cX9_restoreSnapshot 5 = .ok (.invokestatic 81, 3) := by decide +kernel
theorem d354_8 : decode cX9_restoreSnapshot 8 = .ok (.ifCond .ne 7, 3) := by decide +kernel
theorem d354_11 : decode cX9_restoreSnapshot 11 = .ok (.iconst 1, 1) := by decide +kernel
theorem d354_12 : decode cX9_restoreSnapshot 12 = .ok (.goto 4, 3) := by decide +kernel
theorem d354_15 : decode cX9_restoreSnapshot 15 = .ok (.iconst 0, 1) := by decide +kernel
theorem d354_16 : decode cX9_restoreSnapshot 16 = .ok (.invokevirtual 328, 3) := by decide +kernel
theorem d354_19 : decode cX9_restoreSnapshot 19 = .ok (.ifCond .eq 5, 3) := by decide +kernel
theorem d354_22 : decode cX9_restoreSnapshot 22 = .ok (.iconst 0, 1) := by decide +kernel
theorem d354_23 : decode cX9_restoreSnapshot 23 = .ok (.ireturn, 1) := by decide +kernel
theorem d354_24 : decode cX9_restoreSnapshot 24 = .ok (.aload_n 0, 1) := by decide +kernel
theorem d354_25 : decode cX9_restoreSnapshot 25 = .ok (.getfield 19, 3) := by decide +kernel
theorem d354_28 : decode cX9_restoreSnapshot 28 = .ok (.iload_n 1, 1) := by decide +kernel
theorem d354_29 : decode cX9_restoreSnapshot 29 = .ok (.baload, 1) := by decide +kernel
theorem d354_30 : decode cX9_restoreSnapshot 30 = .ok (.ifCond .ne 5, 3) := by decide +kernel
theorem d354_33 : decode cX9_restoreSnapshot 33 = .ok (.iconst (-1), 1) := by decide +kernel
theorem d354_34 : decode cX9_restoreSnapshot 34 = .ok (.ireturn, 1) := by decide +kernel
theorem d354_35 : decode cX9_restoreSnapshot 35 = .ok (.iconst 0, 1) := by decide +kernel
theorem d354_36 : decode cX9_restoreSnapshot 36 = .ok (.istore_n 2, 1) := by decide +kernel
theorem d354_37 : decode cX9_restoreSnapshot 37 = .ok (.iload_n 2, 1) := by decide +kernel
theorem d354_38 : decode cX9_restoreSnapshot 38 = .ok (.sipush 843, 3) := by decide +kernel
theorem d354_41 : decode cX9_restoreSnapshot 41 = .ok (.if_icmp .ge 27, 3) := by decide +kernel
theorem d354_44 : decode cX9_restoreSnapshot 44 = .ok (.aload_n 0, 1) := by decide +kernel
theorem d354_45 : decode cX9_restoreSnapshot 45 = .ok (.getfield 9, 3) := by decide +kernel
theorem d354_48 : decode cX9_restoreSnapshot 48 = .ok (.iload_n 2, 1) := by decide +kernel
theorem d354_49 : decode cX9_restoreSnapshot 49 = .ok (.aload_n 0, 1) := by decide +kernel
theorem d354_50 : decode cX9_restoreSnapshot 50 = .ok (.getfield 16, 3) := by decide +kernel
theorem d354_53 : decode cX9_restoreSnapshot 53 = .ok (.sipush 843, 3) := by decide +kernel
theorem d354_56 : decode cX9_restoreSnapshot 56 = .ok (.iload_n 1, 1) := by decide +kernel
theorem d354_57 : decode cX9_restoreSnapshot 57 = .ok (.imul, 1) := by decide +kernel
theorem d354_58 : decode cX9_restoreSnapshot 58 = .ok (.iload_n 2, 1) := by decide +kernel
theorem d354_59 : decode cX9_restoreSnapshot 59 = .ok (.iadd, 1) := by decide +kernel
theorem d354_60 : decode cX9_restoreSnapshot 60 = .ok (.iaload, 1) := by decide +kernel
theorem d354_61 : decode cX9_restoreSnapshot 61 = .ok (.iastore, 1) := by decide +kernel
theorem d354_62 : decode cX9_restoreSnapshot 62 = .ok (.iinc 2 1, 3) := by decide +kernel
theorem d354_65 : decode cX9_restoreSnapshot 65 = .ok (.goto (-28), 3) := by decide +kernel
theorem d354_68 : decode cX9_restoreSnapshot 68 = .ok (.aload_n 0, 1) := by decide +kernel
theorem d354_69 : decode cX9_restoreSnapshot 69 = .ok (.iconst 0, 1) := by decide +kernel
theorem d354_70 : decode cX9_restoreSnapshot 70 = .ok (.putfield 53, 3) := by decide +kernel
theorem d354_73 : decode cX9_restoreSnapshot 73 = .ok (.aload_n 0, 1) := by decide +kernel
theorem d354_74 : decode cX9_restoreSnapshot 74 = .ok (.invokevirtual 332, 3) := by decide +kernel
theorem d354_77 : decode cX9_restoreSnapshot 77 = .ok (.ireturn, 1) := by decide +kernel
theorem v354_0 {w : PW} {Q : PO → PW → Prop} {x1 : Int} (hs : Sh w) (hx1 : bd x1) (h : ((((0 : Int64)).toInt ≤ (i2L x1).toInt ∧ (i2L x1).toInt ≤ ((1 : Int64)).toInt) → ∀ w2 : PW, w2 = sI w 169 0 0 → (0 ≤ x1 ∧ x1 < 2) ∧ ((gI w2 173 x1.toNat) ≠ 0 → pX 354 37 [some (.ref 169), some (iv x1), some (iv 0)] [] w2 Q) ∧ ((gI w2 173 x1.toNat) = 0 → Q (.inl (some (iv ((-1))))) w2)) ∧ ((¬ (((0 : Int64)).toInt ≤ (i2L x1).toInt ∧ (i2L x1).toInt ≤ ((1 : Int64)).toInt)) → ∀ w4 : PW, w4 = sI w 169 0 1 → Q (.inl (some (iv 0))) w4)) : pX 354 0 [some (.ref 169), some (iv x1), none] [] w Q :=
  w_f b354 d354_0 rfl rfl rfl <| w_f b354 d354_1 rfl rfl rfl <| w_f b354 d354_2 rfl rfl rfl <| w_f b354 d354_3 rfl rfl rfl <| w_f b354 d354_4 rfl rfl rfl <| w_cc b354 d354_5 rfl (pcl_s1 (n := 3) rfl rfl rfl (by decide +kernel) rfl rfl) rfl <| c221 hs <| w_ifneZ b354 d354_8 rfl rfl (p354 _ _) (fun c1 => w_f b354 d354_15 rfl rfl rfl <| w_cc b354 d354_16 rfl (pcl_v (n := 1) rfl rfl rfl (by decide +kernel) (sh_isOb hs (tlt 169 rfl) tbC_169) rfl rfl) rfl <| c245 hs ⟨by decide, by decide⟩ (by decide) <| w_ifeq b354 d354_19 rfl rfl (p354 _ _) ⟨by decide, by decide⟩ (fun _ => w_f b354 d354_24 rfl rfl rfl <| w_gr b354 d354_25 rfl rfl (Sh_sI hs (slt_o tbC_169 rfl)) (tlt 169 rfl) tbC_169 rfl (by decide) <| w_f b354 d354_28 rfl rfl rfl <| w_bal b354 d354_29 rfl (Sh_sI hs (slt_o tbC_169 rfl)) (tlt 173 rfl) tbC_173 (by decide) (bdix (n := 2) ((h.1 c1) _ rfl).1 rfl) ((h.1 c1) _ rfl).1 <| w_ifne b354 d354_30 rfl rfl (p354 _ _) (bd_gI _ _ _) (fun c3 => w_f b354 d354_35 rfl rfl rfl <| w_f b354 d354_36 rfl rfl rfl <| (((h.1 c1) _ rfl).2.1 c3)) (fun c3 => w_f b354 d354_33 rfl rfl rfl <| w_ri b354 d354_34 r354 (((h.1 c1) _ rfl).2.2 c3))) (fun c => absurd c (by decide))) (fun c1 => w_f b354 d354_11 rfl rfl rfl <| w_j b354 d354_12 rfl (p354 _ _) <| w_cc b354 d354_16 rfl (pcl_v (n := 1) rfl rfl rfl (by decide +kernel) (sh_isOb hs (tlt 169 rfl) tbC_169) rfl rfl) rfl <| c245 hs ⟨by decide, by decide⟩ (by decide) <| w_ifeq b354 d354_19 rfl rfl (p354 _ _) ⟨by decide, by decide⟩ (fun c => absurd c (by decide)) (fun _ => w_f b354 d354_22 rfl rfl rfl <| w_ri b354 d354_23 r354 ((h.2 c1) _ rfl)))
theorem e354 {w : PW} {Q : PO → PW → Prop} {x1 : Int} (hs : Sh w) (hx1 : bd x1) (h : ((((0 : Int64)).toInt ≤ (i2L x1).toInt ∧ (i2L x1).toInt ≤ ((1 : Int64)).toInt) → ∀ w2 : PW, w2 = sI w 169 0 0 → (0 ≤ x1 ∧ x1 < 2) ∧ ((gI w2 173 x1.toNat) ≠ 0 → pX 354 37 [some (.ref 169), some (iv x1), some (iv 0)] [] w2 Q) ∧ ((gI w2 173 x1.toNat) = 0 → Q (.inl (some (iv ((-1))))) w2)) ∧ ((¬ (((0 : Int64)).toInt ≤ (i2L x1).toInt ∧ (i2L x1).toInt ≤ ((1 : Int64)).toInt)) → ∀ w4 : PW, w4 = sI w 169 0 1 → Q (.inl (some (iv 0))) w4)) : pC 354 [.ref 169, iv x1] w Q :=
  (pC_in (Nat.le_of_ble_eq_true rfl) rfl Q).mpr (v354_0 hs hx1 h)
theorem v354_37 {w : PW} {Q : PO → PW → Prop} {x1 : Int} {x2 : Int} (hs : Sh w) (hx1 : bd x1) (hx2 : bd x2) (h : (843 ≤ x2 → ∀ w2 : PW, w2 = sI w 169 6 0 → pC 248 [.ref 169] w2 (kI fun u4 w3 => Sh w3 ∧ Q (.inl (some (iv u4))) w3)) ∧ (x2 < 843 → (0 ≤ ((843 * x1) + x2) ∧ ((843 * x1) + x2) < 1686) ∧ (0 ≤ x2 ∧ x2 < 843) ∧ ∀ w5 : PW, w5 = sI w 170 x2.toNat (gI w 172 ((843 * x1) + x2).toNat) → pX 354 37 [some (.ref 169), some (iv x1), some (iv (x2 + 1))] [] w5 Q)) : pX 354 37 [some (.ref 169), some (iv x1), some (iv x2)] [] w Q :=
  w_f b354 d354_37 rfl rfl rfl <| w_f b354 d354_38 rfl rfl rfl <| w_icge b354 d354_41 rfl rfl (p354 _ _) hx2 ⟨by decide, by decide⟩ (fun c1 => w_f b354 d354_68 rfl rfl rfl <| w_f b354 d354_69 rfl rfl rfl <| w_pi b354 d354_70 rfl rfl hs (tlt 169 rfl) tbC_169 rfl rfl rfl <| w_f b354 d354_73 rfl rfl rfl <| w_c b354 d354_74 rfl (pcl_v (n := 0) rfl rfl rfl (by decide +kernel) (sh_isOb (Sh_sI hs (slt_o tbC_169 rfl)) (tlt 169 rfl) tbC_169) rfl rfl) rfl _ (hK_I fun u4 w3 hbu4 hkw3 => w_ri b354 d354_77 r354 hkw3.2) ((h.1 c1) _ rfl)) (fun c1 => w_f b354 d354_44 rfl rfl rfl <| w_gr b354 d354_45 rfl rfl hs (tlt 169 rfl) tbC_169 rfl (by decide) <| w_f b354 d354_48 rfl rfl rfl <| w_f b354 d354_49 rfl rfl rfl <| w_gr b354 d354_50 rfl rfl hs (tlt 169 rfl) tbC_169 rfl (by decide) <| w_f b354 d354_53 rfl rfl rfl <| w_f b354 d354_56 rfl rfl rfl <| w_f b354 d354_57 rfl (pf_imul 843 x1) rfl <| w_f b354 d354_58 rfl rfl rfl <| w_f b354 d354_59 rfl (pf_iadd (843 * x1) x2) rfl <| w_ial b354 d354_60 rfl hs (tlt 172 rfl) tbC_172 (bdix (n := 1686) (h.2 c1).1 rfl) (h.2 c1).1 <| w_ias b354 d354_61 rfl hs (tlt 170 rfl) tbC_170 (bdix (n := 843) (h.2 c1).2.1 rfl) (h.2 c1).2.1 <| w_f b354 d354_62 rfl (pf_iinc rfl rfl) rfl <| w_j b354 d354_65 rfl (p354 _ _) <| ((h.2 c1).2.2 _ rfl))
/-- the model's text -/
def ML (w : PW) (l : List Nat) : Prop := gI w 169 30 = (l.length : Nat) ∧ ∀ k, k < l.length → gI w 179 k = ((l.getD k 0 : Nat) : Int)
/-- what writing leaves -/
def MO (w w2 : PW) : Prop := Sh w2 ∧ (∀ c, c ≠ 169 → c ≠ 179 → w2.2.2 c = w.2.2 c) ∧ ∀ j, j ≠ 30 → gI w2 169 j = gI w 169 j
/-- the same, and `thrown` may be another -/
def MTF (w w2 : PW) : Prop := Sh w2 ∧ (∀ c, c ≠ 169 → c ≠ 179 → w2.2.2 c = w.2.2 c) ∧ (gI w2 169 6 = gI w 169 6 ∧ gI w2 169 8 = gI w 169 8 ∧ gI w2 169 12 = gI w 169 12 ∧ gI w2 169 15 = gI w 169 15)
def tN (L : List Nat) : Option (List Nat) → List Nat
  | none => L
  | some l => l
section MWR
variable {w w1 w2 : PW} {Q : PO → PW → Prop} {m : Row} {H : Nat → Row} {n : Nat} {x1 x2 : Int} {u : Nat} {l L : List Nat}
theorem MO.rf (hs : Sh w) : MO w w := ⟨hs, fun _ _ _ => rfl, fun _ _ => rfl⟩
theorem MO.tr (h1 : MO w w1) (h2 : MO w1 w2) : MO w w2 := ⟨h2.1, fun c a b => (h2.2.1 c a b).trans (h1.2.1 c a b), fun j hj => (h2.2.2 j hj).trans (h1.2.2 j hj)⟩
theorem MO.mr (h : MO w w2) (hM : MR w m) : MR w2 m := hM.cell (h.2.1 170 (by decide) (by decide))
theorem MO.tf (h : MO w w2) : MTF w w2 := ⟨h.1, h.2.1, h.2.2 6 (by decide), h.2.2 8 (by decide), h.2.2 12 (by decide), h.2.2 15 (by decide)⟩
theorem MTF.tr (h1 : MTF w w1) (h2 : MTF w1 w2) : MTF w w2 := ⟨h2.1, fun c a b => (h2.2.1 c a b).trans (h1.2.1 c a b), h2.2.2.1.trans h1.2.2.1, h2.2.2.2.1.trans h1.2.2.2.1, h2.2.2.2.2.1.trans h1.2.2.2.2.1, h2.2.2.2.2.2.trans h1.2.2.2.2.2⟩
/-- `thrown` alone -/
theorem MTF.th {z : Int} (hs : Sh w) (e : w2 = sI w 169 0 z) (hz : bd z) : MTF w w2 ∧ gI w2 169 0 = z ∧ (ML w L → ML w2 L) ∧ (MR w m → MR w2 m) := by
  obtain ⟨s1, g1, -, k1⟩ := stI e hs (by omega) (slt_o tbC_169 rfl) hz
  have h9 : ∀ j, j ≠ 0 → gI w2 169 j = gI w 169 j := fun j hj => by rw [g1, if_neg (by omega)]
  exact ⟨⟨s1, fun c a _ => k1 c a, h9 6 (by decide), h9 8 (by decide), h9 12 (by decide), h9 15 (by decide)⟩, by rw [g1, if_pos ⟨rfl, rfl⟩], fun h => ⟨(h9 30 (by decide)).trans h.1, fun k hk => by rw [g1, if_neg (by omega)]; exact h.2 k hk⟩, fun h => h.cell (k1 170 (by decide))⟩
theorem c347 {z : Nat} (hs : Sh w) (hL : ML w l) (hn : l.length < 400) (hz : z < 256) (h : ∀ w2, MO w w2 → ML w2 (l ++ [z]) → Q (.inl none) w2) : pC 347 [.ref 169, iv (z : Nat)] w Q := by
  refine e347 hs (bdk (by omega)) ?_
  rw [hL.1, Int.toNat_natCast]
  refine ⟨⟨by omega, by omega⟩, fun w1 e1 w2 e2 => ?_⟩
  obtain ⟨s1, g1, -, k1⟩ := stI e1 hs (by omega) (slt_a tbC_179) (bdk (by omega))
  rw [g1, if_neg (by omega), hL.1] at e2
  obtain ⟨s2, g2, -, k2⟩ := stI e2 s1 (by omega) (slt_o tbC_169 rfl) ⟨by omega, by omega⟩
  refine h w2 ⟨s2, fun c a b => (k2 c a).trans (k1 c b), fun j hj => by rw [g2, if_neg (by omega), g1, if_neg (by omega)]⟩ ⟨?_, fun k hk => ?_⟩
  · rw [g2, if_pos ⟨rfl, rfl⟩, List.length_append]
    rfl
  · rw [List.length_append] at hk
    have hk2 : k < l.length + 1 := hk
    rw [g2, if_neg (by omega), g1]
    by_cases q : k = l.length
    · subst q
      rw [if_pos ⟨rfl, rfl⟩, gtD_e]
    · rw [if_neg (fun z => q z.2), gtD_l (by omega)]
      exact hL.2 k (by omega)
theorem l348_10 {w : PW} {Q : PO → PW → Prop} {p : Nat} {l : List Nat} (hs : Sh w) (hp : p < 24) (hl : l.length + 4 ≤ 400) (h : ∀ w2, MO w w2 → ML w2 (l ++ oPit p) → Q (.inl none) w2) : ∀ k i : Nat, i + k = (nmL.getD (p % 12) []).length → ∀ w1, MO w w1 → ML w1 (l ++ (nmL.getD (p % 12) []).take i) → pX 348 10 [some (.ref 169), some (iv (p : Nat)), some (.ref (pSB + nmM ((p % 12 : Nat) : Int))), some (iv (i : Nat))] [] w1 Q := by
  have e0 := nmM_txt (p % 12) (Nat.mod_lt _ (by decide))
  have e1 := e0.1
  have e2 := e0.2
  have e3 := nmL_ok (p % 12) (Nat.mod_lt _ (by decide))
  intro k
  induction k with
  | zero =>
    intro i hi w1 F1 hW
    refine v348_10 F1.1 (bdk (by omega)) e2 (bdk (by omega)) ?_
    rw [e1]
    refine ⟨fun _ => ?_, fun q => by omega⟩
    have e4 : 48 + ((p : Nat) : Int).tdiv 12 = ((48 + p / 12 : Nat) : Int) := by
      rw [Int.tdiv_eq_ediv_of_nonneg (by omega)]
      omega
    rw [e4]
    rw [show i = (nmL.getD (p % 12) []).length from by omega, List.take_length] at hW
    refine c347 F1.1 hW (by rw [List.length_append]; omega) (by omega) (fun w2 F2 L2 => ⟨F2.1, h w2 (F1.tr F2) ?_⟩)
    rw [List.append_assoc] at L2
    exact L2
  | succ k ih =>
    intro i hi w1 F1 hW
    refine v348_10 F1.1 (bdk (by omega)) e2 (bdk (by omega)) ?_
    rw [e1, Int.toNat_natCast]
    refine ⟨fun q => by omega, fun _ => ⟨⟨by omega, by omega⟩, ?_⟩⟩
    refine c347 F1.1 hW (by rw [List.length_append, List.length_take]; omega) (e3.2 i (by omega)) (fun w2 F2 L2 => ⟨F2.1, ih (i + 1) (by omega) w2 (F1.tr F2) ?_⟩)
    rw [List.append_assoc, take_s (by omega)] at L2
    exact L2
theorem c348 {p : Nat} (hs : Sh w) (hW : ML w l) (hp : p < 24) (hl : l.length + 4 ≤ 400) (h : ∀ w2, MO w w2 → ML w2 (l ++ oPit p) → Q (.inl none) w2) : pC 348 [.ref 169, iv (p : Nat)] w Q := by
  refine e348 hs (bdk (by omega)) ?_
  have e : ((p : Nat) : Int).tmod 12 = ((p % 12 : Nat) : Int) := by rw [Int.tmod_eq_emod_of_nonneg (by omega)]; omega
  rw [e]
  refine ⟨⟨by omega, by omega⟩, l348_10 hs hp hl h _ 0 (Nat.zero_add _) w (MO.rf hs) ?_⟩
  rw [List.take_zero, List.append_nil]
  exact hW
/-- nothing is written yet -/
theorem mlStart (hs : Sh w) (e : w2 = sI w 169 30 0) : MO w w2 ∧ ML w2 [] := by
  obtain ⟨s1, g1, -, k1⟩ := stI e hs (by omega) (slt_o tbC_169 rfl) bd0
  exact ⟨⟨s1, fun c a _ => k1 c a, fun j hj => by rw [g1, if_neg (by omega)]⟩, by rw [g1, if_pos ⟨rfl, rfl⟩]; rfl, fun k hk => absurd hk (Nat.not_lt_zero k)⟩
def mT (w : PW) (L : List Nat) (Q : PO → PW → Prop) (s : PO × Option (List Nat)) : Prop := ∀ w2, MTF w w2 → gI w2 169 0 = moE s.1 → ML w2 (tN L s.2) → Q (moV s.1) w2
theorem mT_t {P : Prop} [Decidable P] {E : Nat} {r : PO × Option (List Nat)} (h : mT w L Q (aP P E r)) (q : P) : mT w L Q r := by
  have e : aP P E r = r := if_pos q
  rw [e] at h
  exact h
theorem mT_f {P : Prop} [Decidable P] {E : Nat} {r : PO × Option (List Nat)} (hs : Sh w) (hL : ML w L) (hE : E < 1000) (h : mT w L Q (aP P E r)) (q : ¬ P) (e : w2 = sI w 169 0 (E : Nat)) : Q (.inl (some (iv 0))) w2 := by
  have ee : aP P E r = (.inr E, none) := if_neg q
  rw [ee] at h
  obtain ⟨F, g, kL, -⟩ := MTF.th (m := fun _ => 0) hs e (bdk (by omega))
  exact h w2 F g (kL hL)
theorem mT_fr {s : PO × Option (List Nat)} (h : mT w L Q s) (F : MTF w w1) : mT w1 L Q s := fun w2 A g k => h w2 (F.tr A) g k
theorem l349_54 {w : PW} {Q : PO → PW → Prop} {u t : Nat} {m : Row} {a : List Nat} (hs : Sh w) (hM : MR w m) (hu : (u : Int) < m 1) (ht : (t : Int) < m 4) (ha : a.length ≤ 10) (h : ∀ w2, MO w w2 → ML w2 (a ++ tPin m u t (m 0).toNat) → Q (.inl (some (iv ((a ++ tPin m u t (m 0).toNat).length : Nat)))) w2) : ∀ k i : Nat, i + k = (m 0).toNat → ∀ w1, MO w w1 → ML w1 (a ++ tPin m u t i) → pX 349 54 [some (.ref 169), some (iv (u : Nat)), some (iv (t : Nat)), some (iv (i : Nat))] [] w1 Q := by
  have h0 := hM.ok.s
  have h1 := hM.ok.u
  have h4 := hM.ok.t
  intro k
  induction k with
  | zero =>
    intro i hi w1 F1 hW
    have b1 := F1.mr hM
    refine v349_54 F1.1 (bdk (by omega)) (bdk (by omega)) (bdk (by omega)) ?_
    rw [b1.g (k := 0) rfl]
    refine ⟨fun _ => ?_, fun q => by omega⟩
    rw [show i = (m 0).toNat from by omega] at hW
    rw [hW.1]
    exact h w1 F1 hW
  | succ k ih =>
    intro i hi w1 F1 hW
    have b1 := F1.mr hM
    have hl := tPin_len m u t i
    have hlen : (a ++ tPin m u t i).length < 400 := by rw [List.length_append]; omega
    refine v349_54 F1.1 (bdk (by omega)) (bdk (by omega)) (bdk (by omega)) ?_
    rw [b1.g (k := 0) rfl, b1.pin (by omega) (by omega), Int.toNat_natCast]
    refine ⟨fun q => by omega, fun _ => ⟨⟨by omega, by omega⟩, ⟨by omega, by omega⟩, ⟨by omega, by omega⟩, fun q => c347 (z := 46) F1.1 hW hlen (by decide) (fun w2 F2 L2 => ⟨F2.1, ih (i + 1) (by omega) w2 (F1.tr F2) ?_⟩), fun q => c347 (z := 111) F1.1 hW hlen (by decide) (fun w2 F2 L2 => ⟨F2.1, ih (i + 1) (by omega) w2 (F1.tr F2) ?_⟩)⟩⟩
    · rw [List.append_assoc] at L2
      show ML w2 (a ++ (tPin m u t i ++ [if rPin m u i t = true then 111 else 46]))
      rw [if_neg (show ¬ rPin m u i t = true from q)]
      exact L2
    · rw [List.append_assoc] at L2
      show ML w2 (a ++ (tPin m u t i ++ [if rPin m u i t = true then 111 else 46]))
      rw [if_pos (show rPin m u i t = true from q)]
      exact L2
theorem c349 (hs : Sh w) (hM : MR w m) (hL : ML w L) (hx1 : bd x1) (hx2 : bd x2) (h : mT w L Q (st207 m x1 x2)) : pC 349 [.ref 169, iv x1, iv x2] w Q := by
  have h1 := hM.ok.u
  have h4 := hM.ok.t
  refine e349 hs hx1 hx2 ?_
  rw [hM.g (k := 1) rfl]
  refine ⟨⟨by omega, by omega⟩, fun q w2 e2 => ?_, fun q w2 e2 => mT_f hs hL (by decide) h q e2⟩
  obtain ⟨F2, g2, kL2, kM2⟩ := MTF.th (L := L) (m := m) hs e2 bd0
  have h2 := mT_fr (mT_t h q) F2
  have hM2 := kM2 hM
  rw [hM2.g (k := 4) rfl]
  refine ⟨⟨by omega, by omega⟩, fun q2 w4 e4 => ?_, fun q2 w9 e9 => mT_f F2.1 (kL2 hL) (by decide) h2 q2 e9⟩
  have h3 := mT_t h2 q2
  obtain ⟨u, rfl⟩ := nat_of q.1
  obtain ⟨t, rfl⟩ := nat_of q2.1
  rw [Int.toNat_natCast, Int.toNat_natCast] at h3
  obtain ⟨F4, L4⟩ := mlStart F2.1 e4
  have hM4 := F4.mr hM2
  have hT := (hM.ok.T q2.2).1
  obtain ⟨p, hp⟩ := nat_of hT.1
  have hpl := oPit_len (p := p) (by omega)
  rw [hM4.T0 (by omega), hp]
  refine ⟨⟨by omega, by omega⟩, c348 F4.1 L4 (by omega) (by decide) (fun w5 F5 L5 => ⟨F5.1, c347 (z := 58) F5.1 L5 (by rw [List.nil_append]; omega) (by decide) (fun w6 F6 L6 => ⟨F6.1, ?_⟩)⟩)⟩
  have e : txt207 m u t = ([] ++ oPit p ++ [58]) ++ tPin m u t (m 0).toNat := by
    unfold txt207
    rw [hp, Int.toNat_natCast, List.nil_append]
  rw [e] at h3
  refine l349_54 (w := w6) (a := [] ++ oPit p ++ [58]) F6.1 (F6.mr (F5.mr hM4)) q.2 q2.2 (by rw [List.nil_append, List.length_append]; show _ + 1 ≤ 10; omega) (fun w9 F9 L9 => h3 w9 (F4.tr (F5.tr (F6.tr F9))).tf (((F4.tr (F5.tr (F6.tr F9))).2.2 0 (by decide)).trans g2) L9) _ 0 (Nat.zero_add _) w6 (MO.rf F6.1) ?_
  show ML w6 (([] ++ oPit p ++ [58]) ++ [])
  rw [List.append_nil]
  exact L6
theorem tAdd_mono (l : List Nat) (p : Nat) : ∀ a b, a ≤ b → (tAdd l p a).length ≤ (tAdd l p b).length := by
  intro a b h
  induction b with
  | zero => rw [show a = 0 from by omega]; exact Nat.le_refl _
  | succ b ih =>
    by_cases q : a = b + 1
    · rw [q]; exact Nat.le_refl _
    · have := ih (by omega)
      show _ ≤ ((if (tAdd l p b).length = 0 then tAdd l p b else tAdd l p b ++ [43]) ++ oPit p).length
      rw [List.length_append]
      split
      · omega
      · rw [List.length_append]; omega
theorem sRowP_1 {s p : Int} {k : Nat} (hR : RowOK m) (hS : 0 ≤ s ∧ s < m 0) (hk : (k : Int) < m 5) : sRowP m x1 p s 1 k = decide (rN m k 0 = x1 ∧ rN m k 1 = s ∧ rN m k 2 = p) := by
  have hN := (hR.N hk).2.1
  unfold sRowP
  by_cases q : rN m k 0 = x1 ∧ rN m k 2 = p
  · rw [decide_eq_true q, Bool.true_and]
    refine decide_eq_decide.mpr ⟨fun z => ⟨q.1, ?_, q.2⟩, fun z => ?_⟩
    · split at z <;> omega
    · split <;> omega
  · rw [decide_eq_false q, Bool.false_and]
    exact (decide_eq_false (fun z => q ⟨z.1, z.2.2⟩)).symm
theorem l350_27 {w : PW} {Q : PO → PW → Prop} {x1 s : Int} {p : Nat} {l : List Nat} {m : Row} (hs : Sh w) (hM : MR w m) (hx1 : bd x1) (hS : 0 ≤ s ∧ s < m 0) (hp : p < 24) (hl : (tAdd l p (sInRow m x1 p s 1)).length ≤ 390) (h : ∀ w2, MO w w2 → ML w2 (tAdd l p (sInRow m x1 p s 1)) → pX 350 18 [some (.ref 169), some (iv x1), some (iv s), some (iv ((p : Int) + 1)), some (iv (m 5))] [] w2 Q) : ∀ k i : Nat, i + k = (m 5).toNat → ∀ w1, MO w w1 → ML w1 (tAdd l p (cnt (sRowP m x1 p s 1) i)) → pX 350 27 [some (.ref 169), some (iv x1), some (iv s), some (iv (p : Nat)), some (iv (i : Nat))] [] w1 Q := by
  have h0 := hM.ok.s
  have h5 := hM.ok.n
  intro k
  induction k with
  | zero =>
    intro i hi w1 F1 hW
    have b1 := F1.mr hM
    refine v350_27 F1.1 hx1 ⟨by omega, by omega⟩ (bdk (by omega)) (bdk (by omega)) ?_
    rw [b1.g (k := 5) rfl]
    refine ⟨fun _ => ?_, fun q => by omega⟩
    have e : cnt (sRowP m x1 p s 1) i = sInRow m x1 p s 1 := by unfold sInRow; rw [show (m 5).toNat = i from by omega]
    rw [e] at hW
    have := h w1 F1 hW
    rw [show m 5 = (i : Nat) from by omega] at this
    exact this
  | succ k ih =>
    intro i hi w1 F1 hW
    have b1 := F1.mr hM
    have hmo := tAdd_mono l p (cnt (sRowP m x1 p s 1) i) (sInRow m x1 p s 1) (cnt_mono (by omega))
    have hN := hM.ok.N (i := i) (by omega)
    have e := sRowP_1 (x1 := x1) (p := p) hM.ok hS (k := i) (by omega)
    have hno : ¬ (rN m i 0 = x1 ∧ rN m i 1 = s ∧ rN m i 2 = p) → pX 350 27 [some (.ref 169), some (iv x1), some (iv s), some (iv (p : Nat)), some (iv ((i : Int) + 1))] [] w1 Q := fun q => ih (i + 1) (by omega) w1 F1 (by rw [cnt_f (by rw [e, decide_eq_false q])]; exact hW)
    refine v350_27 F1.1 hx1 ⟨by omega, by omega⟩ (bdk (by omega)) (bdk (by omega)) ?_
    rw [b1.g (k := 5) rfl, b1.N0 (by omega), b1.N1 (by omega), b1.N2 (by omega), hW.1]
    refine ⟨fun q => by omega, fun _ => ⟨⟨by omega, by omega⟩, fun q => hno (fun z => q z.1), fun q => ⟨⟨by omega, by omega⟩, fun q2 => hno (fun z => q2 z.2.1), fun q2 => ⟨⟨by omega, by omega⟩, fun q3 => ?_, fun q3 => hno (fun z => q3 z.2.2)⟩⟩⟩⟩
    have ec : cnt (sRowP m x1 p s 1) (i + 1) = cnt (sRowP m x1 p s 1) i + 1 := cnt_t (by rw [e, decide_eq_true ⟨q, q2, q3⟩])
    refine ⟨fun q4 => c348 F1.1 hW hp (by omega) (fun w2 F2 L2 => ⟨F2.1, ih (i + 1) (by omega) w2 (F1.tr F2) ?_⟩), fun q4 => c347 (z := 43) F1.1 hW (by omega) (by decide) (fun w2 F2 L2 => ⟨F2.1, c348 F2.1 L2 hp (by rw [List.length_append]; show _ + 1 + 4 ≤ 400; omega) (fun w3 F3 L3 => ⟨F3.1, ih (i + 1) (by omega) w3 (F1.tr (F2.tr F3)) ?_⟩)⟩)⟩
    · rw [ec]
      show ML w2 ((if (tAdd l p (cnt (sRowP m x1 p s 1) i)).length = 0 then tAdd l p (cnt (sRowP m x1 p s 1) i) else tAdd l p (cnt (sRowP m x1 p s 1) i) ++ [43]) ++ oPit p)
      rw [if_pos (by omega)]
      exact L2
    · rw [ec]
      show ML w3 ((if (tAdd l p (cnt (sRowP m x1 p s 1) i)).length = 0 then tAdd l p (cnt (sRowP m x1 p s 1) i) else tAdd l p (cnt (sRowP m x1 p s 1) i) ++ [43]) ++ oPit p)
      rw [if_neg (by omega)]
      exact L3
theorem l350_18 {w : PW} {Q : PO → PW → Prop} {x1 s : Int} {m : Row} (hs : Sh w) (hM : MR w m) (hx1 : bd x1) (hS : 0 ≤ s ∧ s < m 0) (h : ∀ w2, MO w w2 → ML w2 (tRow m x1 s 24) → Q (.inl (some (iv ((tRow m x1 s 24).length : Nat)))) w2) : ∀ k i : Nat, i + k = 24 → ∀ w1, MO w w1 → ML w1 (tRow m x1 s i) → ∀ o4 : Option Value, pc2 o4 = false → pX 350 18 [some (.ref 169), some (iv x1), some (iv s), some (iv (i : Nat)), o4] [] w1 Q := by
  have h0 := hM.ok.s
  have h5 := hM.ok.n
  intro k
  induction k with
  | zero =>
    intro i hi w1 F1 hW o4 ho
    refine v350_18 F1.1 hx1 ⟨by omega, by omega⟩ (bdk (by omega)) ho ⟨fun _ => ?_, fun q => by omega⟩
    rw [show i = 24 from by omega] at hW
    rw [hW.1]
    exact h w1 F1 hW
  | succ k ih =>
    intro i hi w1 F1 hW o4 ho
    have hn2 := tRow_len m x1 s (i + 1) (by omega)
    have hc2 : cnt (fun z => decide (rN m z 2 < ((i + 1 : Nat) : Int))) (m 5).toNat ≤ (m 5).toNat := cnt_le _ _
    have hn3 : (tAdd (tRow m x1 s i) i (sInRow m x1 i s 1)).length ≤ 390 := by
      have : (tAdd (tRow m x1 s i) i (sInRow m x1 i s 1)).length ≤ 5 * cnt (fun z => decide (rN m z 2 < ((i + 1 : Nat) : Int))) (m 5).toNat := hn2
      omega
    refine v350_18 F1.1 hx1 ⟨by omega, by omega⟩ (bdk (by omega)) ho ⟨fun q => by omega, fun _ => ?_⟩
    exact l350_27 F1.1 (F1.mr hM) hx1 hS (by omega) hn3 (fun w2 F2 L2 => ih (i + 1) (by omega) w2 (F1.tr F2) L2 _ rfl) _ 0 (Nat.zero_add _) w1 (MO.rf F1.1) hW
theorem c350 (hs : Sh w) (hM : MR w m) (hL : ML w L) (hx1 : bd x1) (hx2 : bd x2) (h : mT w L Q (st209 m x1 x2)) : pC 350 [.ref 169, iv x1, iv x2] w Q := by
  have h1 := hM.ok.u
  have h0 := hM.ok.s
  refine e350 hs hx1 hx2 ?_
  rw [hM.g (k := 1) rfl, hM.g (k := 0) rfl]
  refine ⟨⟨by omega, by omega⟩, ⟨by omega, by omega⟩, fun q w2 e2 w3 e3 => ?_, fun q w3 e3 => ?_⟩
  · obtain ⟨F2, g2, kL2, kM2⟩ := MTF.th (L := L) (m := m) hs e2 bd0
    have h2 := mT_fr (mT_t (mT_t h q.1) q.2) F2
    obtain ⟨F3, L3⟩ := mlStart F2.1 e3
    exact l350_18 F3.1 (F3.mr (kM2 hM)) hx1 q.2 (fun w9 F9 L9 => h2 w9 (F3.tr F9).tf (((F3.tr F9).2.2 0 (by decide)).trans g2) L9) 24 0 rfl w3 (MO.rf F3.1) L3 none rfl
  · by_cases q1 : 0 ≤ x1 ∧ x1 < m 1
    · exact mT_f hs hL (by decide) (mT_t h q1) (fun z => q ⟨q1, z⟩) e3
    · exact mT_f hs hL (by decide) h q1 e3
def sm54 (L : List Nat) (x : Int) : Int := if 0 ≤ x ∧ x < (L.length : Int) then ((L.getD x.toNat 0 : Nat) : Int) else -1
theorem c351 (hs : Sh w) (hL : ML w L) (h4 : L.length ≤ 400) (hx1 : bd x1) (h : ∀ w2, MqF w w2 → gI w2 169 0 = 0 → Q (.inl (some (iv (sm54 L x1)))) w2) : pC 351 [.ref 169, iv x1] w Q := by
  refine e351 hs hx1 (fun w1 e1 => ?_)
  obtain ⟨F1, g1⟩ := MqF.th hs e1 bd0
  obtain ⟨-, -, kL, -⟩ := MTF.th (L := L) (m := fun _ => 0) hs e1 bd0
  have hL1 := kL hL
  rw [hL1.1, i2L_toInt hx1, i2L_toInt ⟨by omega, by omega⟩, show (0 : Int64).toInt = 0 from by decide]
  have := h w1 F1 g1
  unfold sm54 at this
  refine ⟨fun q => ?_, fun q => ⟨⟨by omega, by omega⟩, ?_⟩⟩
  · rw [if_neg (by omega)] at this
    exact this
  · rw [if_pos (by omega)] at this
    rw [hL1.2 _ (by omega)]
    exact this
theorem l352_26 {w : PW} {Q : PO → PW → Prop} {y : Nat} {m : Row} (hs : Sh w) (hy : gI w 169 6 = (y : Nat)) (hy8 : y < 8) (hok : RowOK m) (hV : ∀ k2, k2 < 843 → gI w 174 (843 * y + k2) = m k2) (h : ∀ w2, MW w w2 → MR w2 m → Q (.inl (some (iv (y : Nat)))) w2) : ∀ k i : Nat, i + k = 843 → ∀ w1, MW w w1 → (∀ j, j < i → gI w1 170 j = m j) → pX 352 26 [some (.ref 169), some (iv (i : Nat))] [] w1 Q := by
  intro k
  induction k with
  | zero =>
    intro i hi w1 G1 hR
    have e : i = 843 := by omega
    subst e
    refine v352_26 G1.1 (bdk (by omega)) ⟨fun _ => ?_, fun q => by omega⟩
    rw [G1.g (a := 169) (by decide), hy]
    exact h w1 G1 ⟨hok, hR⟩
  | succ k ih =>
    intro i hi w1 G1 hR
    refine v352_26 G1.1 (bdk (by omega)) ⟨fun q => by omega, fun _ => ?_⟩
    rw [G1.g (a := 169) (by decide), hy]
    refine ⟨⟨by omega, by omega⟩, ⟨by omega, by omega⟩, fun w2 e2 => ?_⟩
    rw [Int.toNat_natCast, show (843 * ((y : Nat) : Int) + (i : Int)).toNat = 843 * y + i from by omega] at e2
    obtain ⟨G2, g2⟩ := MW.put G1.1 e2 (bd_gI _ _ _)
    refine ih (i + 1) (by omega) w2 (G1.tr G2) (fun j hj => ?_)
    rw [g2]
    by_cases q : j = i
    · rw [if_pos q, G1.g (a := 174) (by decide), hV i (by omega), q]
    · rw [if_neg q]
      exact hR j (by omega)
theorem c352 (hs : Sh w) (hM : MR w m) (hH : HM w H n) (hok : ∀ j, j < n → RowOK (H j)) (h0 : n = 0 → ∀ w2, MqF w w2 → gI w2 169 0 = 0 → Q (.inl (some (iv (-1)))) w2) (h1 : ∀ y, n = y + 1 → ∀ w2, MAF w w2 → gI w2 169 0 = 0 → MR w2 (H y) → HM w2 H y → Q (.inl (some (iv (y : Nat)))) w2) : pC 352 [.ref 169] w Q := by
  refine e352 hs (fun w1 e1 => ?_)
  obtain ⟨F1, g1⟩ := MqF.th hs e1 bd0
  obtain ⟨a1, a2, a3⟩ := hH.mq F1
  rw [a1]
  refine ⟨fun q w3 e3 => ?_, fun q => h0 (by omega) w1 F1 g1⟩
  obtain ⟨y, rfl⟩ : ∃ y, n = y + 1 := ⟨n - 1, by omega⟩
  rw [show (((y + 1 : Nat) : Int)) - 1 = ((y : Nat) : Int) from by omega] at e3
  obtain ⟨s3, g3, -, k3⟩ := stI e3 F1.1 (by omega) (slt_o tbC_169 rfl) (bdk (by omega))
  have c74 : ∀ j, gI w3 174 j = gI w1 174 j := fun j => gI_cell (k3 174 (by decide)) j
  have h9 : ∀ j, j ≠ 6 → gI w3 169 j = gI w1 169 j := fun j hj => by rw [g3, if_neg (by omega)]
  have A3 : MAF w1 w3 := ⟨s3, fun c c1 _ _ => k3 c (by omega), h9 8 (by decide), h9 12 (by decide), h9 15 (by decide), h9 30 (by decide)⟩
  have g36 : gI w3 169 6 = (y : Nat) := by rw [g3, if_pos ⟨rfl, rfl⟩]
  refine l352_26 s3 g36 (by omega) (hok y (by omega)) (fun k2 hk2 => by rw [c74]; exact a3 y k2 (by omega) hk2) (fun w9 G9 M9 => ?_) _ 0 (Nat.zero_add _) w3 (MW.rf s3) (fun j hj => absurd hj (Nat.not_lt_zero _))
  refine h1 y rfl w9 (F1.ma.tr (A3.tr G9.mg.ma)) (((G9.g (by decide) 0).trans (h9 0 (by decide))).trans g1) M9 ⟨(G9.g (by decide) 6).trans g36, by omega, fun j k2 hj hk2 => ?_⟩
  rw [G9.g (a := 174) (by decide), c74]
  exact a3 j k2 (by omega) hk2
/-- what snapshots leave -/
def MSF (w w2 : PW) : Prop := Sh w2 ∧ (∀ c, c ≠ 169 → c ≠ 172 → c ≠ 173 → w2.2.2 c = w.2.2 c) ∧ ∀ j, j ≠ 0 → gI w2 169 j = gI w 169 j
theorem l353_26 {w : PW} {Q : PO → PW → Prop} {x : Nat} {m : Row} (hs : Sh w) (hx : x < 2) (hM : MR w m) (h : ∀ w2, Sh w2 → (∀ c, c ≠ 172 → c ≠ 173 → w2.2.2 c = w.2.2 c) → (∀ j, j < 1686 → gI w2 172 j = if 843 * x ≤ j ∧ j < 843 * x + 843 then m (j - 843 * x) else gI w 172 j) → (∀ j, gI w2 173 j = if j = x then 1 else gI w 173 j) → Q (.inl (some (iv (sAll m)))) w2) : ∀ k i : Nat, i + k = 843 → ∀ w1, Sh w1 → (∀ c, c ≠ 172 → w1.2.2 c = w.2.2 c) → (∀ j, j < 1686 → gI w1 172 j = if 843 * x ≤ j ∧ j < 843 * x + i then m (j - 843 * x) else gI w 172 j) → pX 353 26 [some (.ref 169), some (iv (x : Nat)), some (iv (i : Nat))] [] w1 Q := by
  intro k
  induction k with
  | zero =>
    intro i hi w1 s1 k1 hV
    have e : i = 843 := by omega
    subst e
    refine v353_26 s1 (bdk (by omega)) (bdk (by omega)) ⟨fun _ => ⟨⟨by omega, by omega⟩, fun w2 e2 => ?_⟩, fun q => by omega⟩
    rw [Int.toNat_natCast] at e2
    obtain ⟨s2, g2, -, k2⟩ := stI e2 s1 (by omega) (slt_a tbC_173) (by decide)
    have ha := sAll_bd hM.ok
    refine c248 s2 (hM.cell ((k2 170 (by decide)).trans (k1 170 (by decide)))) (kI_iv ⟨by omega, by omega⟩ ⟨s2, h w2 s2 (fun c c1 c2 => (k2 c c2).trans (k1 c c1)) (fun j hj => by rw [g2, if_neg (by omega)]; exact hV j hj) (fun j => ?_)⟩)
    rw [g2]
    by_cases q : j = x
    · rw [if_pos ⟨rfl, q⟩, if_pos q]
    · rw [if_neg (fun z => q z.2), if_neg q, gI_cell (k1 173 (by decide))]
  | succ k ih =>
    intro i hi w1 s1 k1 hV
    have hM1 : MR w1 m := hM.cell (k1 170 (by decide))
    refine v353_26 s1 (bdk (by omega)) (bdk (by omega)) ⟨fun q => by omega, fun _ => ⟨⟨by omega, by omega⟩, ⟨by omega, by omega⟩, fun w5 e5 => ?_⟩⟩
    rw [Int.toNat_natCast, show (843 * ((x : Nat) : Int) + (i : Int)).toNat = 843 * x + i from by omega, hM1.2 i (by omega)] at e5
    obtain ⟨s5, g5, -, k5⟩ := stI e5 s1 (by omega) (slt_a tbC_172) (by rw [← hM1.2 i (by omega)]; exact bd_gI _ _ _)
    refine ih (i + 1) (by omega) w5 s5 (fun c hc => (k5 c hc).trans (k1 c hc)) (fun j hj => ?_)
    rw [g5]
    by_cases q : j = 843 * x + i
    · rw [if_pos ⟨rfl, q⟩, if_pos (by omega), show j - 843 * x = i from by omega]
    · rw [if_neg (fun z => q z.2), hV j hj]
      by_cases q2 : 843 * x ≤ j ∧ j < 843 * x + i
      · rw [if_pos q2, if_pos (by omega)]
      · rw [if_neg q2, if_neg (by omega)]
theorem MqF.th0 {z : Int} (hs : Sh w) (e : w2 = sI w 169 0 z) (hz : bd z) : (∀ c, c ≠ 169 → w2.2.2 c = w.2.2 c) ∧ ∀ j, j ≠ 0 → gI w2 169 j = gI w 169 j := by
  obtain ⟨s1, g1, -, k1⟩ := stI e hs (by omega) (slt_o tbC_169 rfl) hz
  exact ⟨k1, fun j hj => by rw [g1, if_neg (by omega)]⟩
theorem c353 (hs : Sh w) (hM : MR w m) (hx1 : bd x1) (h0 : ¬ (0 ≤ x1 ∧ x1 ≤ 1) → ∀ w2, MqF w w2 → gI w2 169 0 = 1 → Q (.inl (some (iv 0))) w2) (h1 : (0 ≤ x1 ∧ x1 ≤ 1) → ∀ w2, MSF w w2 → gI w2 169 0 = 0 → (∀ j, j < 1686 → gI w2 172 j = if 843 * x1.toNat ≤ j ∧ j < 843 * x1.toNat + 843 then m (j - 843 * x1.toNat) else gI w 172 j) → (∀ j, gI w2 173 j = if j = x1.toNat then 1 else gI w 173 j) → Q (.inl (some (iv (sAll m)))) w2) : pC 353 [.ref 169, iv x1] w Q := by
  refine e353 hs hx1 ?_
  rw [i2L_toInt hx1, show (0 : Int64).toInt = 0 from by decide, show (1 : Int64).toInt = 1 from by decide]
  refine ⟨fun q w2 e2 => ?_, fun q w2 e2 => ?_⟩
  · obtain ⟨F2, g2⟩ := MqF.th hs e2 bd0
    obtain ⟨k2, j2⟩ := MqF.th0 hs e2 bd0
    have h2 := h1 q
    obtain ⟨x, rfl⟩ := nat_of q.1
    rw [Int.toNat_natCast] at h2
    refine l353_26 (x := x) F2.1 (by omega) (F2.mr hM) (fun w9 s9 k9 hV hK => h2 w9 ⟨s9, fun c c1 c2 c3 => (k9 c c2 c3).trans (k2 c c1), fun j hj => (gI_cell (k9 169 (by decide) (by decide)) j).trans (j2 j hj)⟩ ((gI_cell (k9 169 (by decide) (by decide)) 0).trans g2) (fun j hj => ?_) (fun j => ?_)) _ 0 (Nat.zero_add _) w2 F2.1 (fun _ _ => rfl) (fun j hj => by rw [if_neg (by omega)])
    · rw [hV j hj, gI_cell (k2 172 (by decide))]
    · rw [hK j, gI_cell (k2 173 (by decide))]
  · obtain ⟨F2, g2⟩ := MqF.th hs e2 (by decide)
    exact h0 q w2 F2 g2
theorem l354_37 {w : PW} {Q : PO → PW → Prop} {x : Nat} {m : Row} (hs : Sh w) (hx : x < 2) (hok : RowOK m) (hV : ∀ k2, k2 < 843 → gI w 172 (843 * x + k2) = m k2) (h : ∀ w2, Sh w2 → (∀ c, c ≠ 170 → c ≠ 169 → w2.2.2 c = w.2.2 c) → (∀ j, j ≠ 6 → gI w2 169 j = gI w 169 j) → gI w2 169 6 = 0 → MR w2 m → Q (.inl (some (iv (sAll m)))) w2) : ∀ k i : Nat, i + k = 843 → ∀ w1, MW w w1 → (∀ j, j < i → gI w1 170 j = m j) → pX 354 37 [some (.ref 169), some (iv (x : Nat)), some (iv (i : Nat))] [] w1 Q := by
  intro k
  induction k with
  | zero =>
    intro i hi w1 G1 hR
    have e : i = 843 := by omega
    subst e
    refine v354_37 G1.1 (bdk (by omega)) (bdk (by omega)) ⟨fun _ w2 e2 => ?_, fun q => by omega⟩
    obtain ⟨s2, g2, -, k2⟩ := stI e2 G1.1 (by omega) (slt_o tbC_169 rfl) bd0
    have M2 : MR w2 m := ⟨hok, fun j hj => by rw [gI_cell (k2 170 (by decide))]; exact hR j hj⟩
    have ha := sAll_bd hok
    exact c248 s2 M2 (kI_iv ⟨by omega, by omega⟩ ⟨s2, h w2 s2 (fun c c1 c2 => (k2 c c2).trans (G1.2 c c1)) (fun j hj => by rw [g2, if_neg (by omega), G1.g (a := 169) (by decide)]) (by rw [g2, if_pos ⟨rfl, rfl⟩]) M2⟩)
  | succ k ih =>
    intro i hi w1 G1 hR
    refine v354_37 G1.1 (bdk (by omega)) (bdk (by omega)) ⟨fun q => by omega, fun _ => ⟨⟨by omega, by omega⟩, ⟨by omega, by omega⟩, fun w2 e2 => ?_⟩⟩
    rw [Int.toNat_natCast, show (843 * ((x : Nat) : Int) + (i : Int)).toNat = 843 * x + i from by omega] at e2
    obtain ⟨G2, g2⟩ := MW.put G1.1 e2 (bd_gI _ _ _)
    refine ih (i + 1) (by omega) w2 (G1.tr G2) (fun j hj => ?_)
    rw [g2]
    by_cases q : j = i
    · rw [if_pos q, G1.g (a := 172) (by decide), hV i (by omega), q]
    · rw [if_neg q]
      exact hR j (by omega)
theorem c354 {m2 : Row} (hs : Sh w) (hM : MR w m) (hx1 : bd x1) (hS : 0 ≤ x1 ∧ x1 ≤ 1 → gI w 173 x1.toNat ≠ 0 → RowOK m2 ∧ ∀ k2, k2 < 843 → gI w 172 (843 * x1.toNat + k2) = m2 k2) (h0 : ¬ (0 ≤ x1 ∧ x1 ≤ 1) → ∀ w2, MqF w w2 → gI w2 169 0 = 1 → Q (.inl (some (iv 0))) w2) (h2 : (0 ≤ x1 ∧ x1 ≤ 1) → gI w 173 x1.toNat = 0 → ∀ w2, MqF w w2 → gI w2 169 0 = 0 → Q (.inl (some (iv (-1)))) w2) (h1 : (0 ≤ x1 ∧ x1 ≤ 1) → gI w 173 x1.toNat ≠ 0 → ∀ w2, MAF w w2 → gI w2 169 0 = 0 → MR w2 m2 → (∀ G, HM w2 G 0) → Q (.inl (some (iv (sAll m2)))) w2) : pC 354 [.ref 169, iv x1] w Q := by
  refine e354 hs hx1 ?_
  rw [i2L_toInt hx1, show (0 : Int64).toInt = 0 from by decide, show (1 : Int64).toInt = 1 from by decide]
  refine ⟨fun q w2 e2 => ?_, fun q w2 e2 => ?_⟩
  · obtain ⟨F2, g2⟩ := MqF.th hs e2 bd0
    obtain ⟨k2, j2⟩ := MqF.th0 hs e2 bd0
    rw [gI_cell (k2 173 (by decide))]
    refine ⟨⟨by omega, by omega⟩, fun q2 => ?_, fun q2 => h2 q q2 w2 F2 g2⟩
    have h3 := h1 q q2
    obtain ⟨v1, v2⟩ := hS q q2
    obtain ⟨x, rfl⟩ := nat_of q.1
    rw [Int.toNat_natCast] at v2
    refine l354_37 (x := x) F2.1 (by omega) v1 (fun k9 hk9 => by rw [gI_cell (k2 172 (by decide))]; exact v2 k9 hk9) (fun w9 s9 k9 j9 g9 M9 => h3 w9 ⟨s9, fun c c1 _ _ => (k9 c (by omega) (by omega)).trans (k2 c (by omega)), (j9 8 (by decide)).trans (j2 8 (by decide)), (j9 12 (by decide)).trans (j2 12 (by decide)), (j9 15 (by decide)).trans (j2 15 (by decide)), (j9 30 (by decide)).trans (j2 30 (by decide))⟩ ((j9 0 (by decide)).trans g2) M9 (fun G => ⟨g9, Nat.zero_le _, fun j k hj => absurd hj (Nat.not_lt_zero _)⟩)) _ 0 (Nat.zero_add _) w2 (MW.rf F2.1) (fun j hj => absurd hj (Nat.not_lt_zero _))
  · obtain ⟨F2, g2⟩ := MqF.th hs e2 (by decide)
    exact h0 q w2 F2 g2
end MWR
