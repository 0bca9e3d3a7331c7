/-! THE MODEL's ROW as it changes: aside and back, a tooth more; fastest, needed, wanted -/
/-! 219: PinBarrelModel.goesAside()V -/
theorem b219 : mB 219 = cX9_goesAside := rfl
theorem r219 : mR 219 = none := rfl
theorem p219 (a b : Nat) : phi 219 a ≤ phi 219 b := Nat.le_refl 0
theorem d219_0 : decode cX9_goesAside 0 = .ok (.iconst 0, 1) := by decide +kernel
theorem d219_1 : decode cX9_goesAside 1 = .ok (.istore_n 1, 1) := by decide +kernel
theorem d219_2 : decode cX9_goesAside 2 = .ok (.iload_n 1, 1) := by decide +kernel
theorem d219_3 : decode cX9_goesAside 3 = .ok (.sipush 843, 3) := by decide +kernel
theorem d219_6 : decode cX9_goesAside 6 = .ok (.if_icmp .ge 21, 3) := by decide +kernel
theorem d219_9 : decode cX9_goesAside 9 = .ok (.aload_n 0, 1) := by decide +kernel
theorem d219_10 : decode cX9_goesAside 10 = .ok (.getfield 13, 3) := by decide +kernel
theorem d219_13 : decode cX9_goesAside 13 = .ok (.iload_n 1, 1) := by decide +kernel
theorem d219_14 : decode cX9_goesAside 14 = .ok (.aload_n 0, 1) := by decide +kernel
theorem d219_15 : decode cX9_goesAside 15 = .ok (.getfield 9, 3) := by decide +kernel
theorem d219_18 : decode cX9_goesAside 18 = .ok (.iload_n 1, 1) := by decide +kernel
theorem d219_19 : decode cX9_goesAside 19 = .ok (.iaload, 1) := by decide +kernel
theorem d219_20 : decode cX9_goesAside 20 = .ok (.iastore, 1) := by decide +kernel
theorem d219_21 : decode cX9_goesAside 21 = .ok (.iinc 1 1, 3) := by decide +kernel
theorem d219_24 : decode cX9_goesAside 24 = .ok (.goto (-22), 3) := by decide +kernel
theorem d219_27 : decode cX9_goesAside 27 = .ok (.return_, 1) := by decide +kernel
theorem v219_0 {w : PW} {Q : PO → PW → Prop}  (hs : Sh w)  (h : pX 219 2 [some (.ref 169), some (iv 0)] [] w Q) : pX 219 0 [some (.ref 169), none] [] w Q :=
  w_f b219 d219_0 rfl rfl rfl <| w_f b219 d219_1 rfl rfl rfl <| h
theorem e219 {w : PW} {Q : PO → PW → Prop}  (hs : Sh w)  (h : pX 219 2 [some (.ref 169), some (iv 0)] [] w Q) : pC 219 [.ref 169] w Q :=
  (pC_in (Nat.le_of_ble_eq_true rfl) rfl Q).mpr (v219_0 hs  h)
theorem v219_2 {w : PW} {Q : PO → PW → Prop} {x1 : Int} (hs : Sh w) (hx1 : bd x1) (h : (843 ≤ x1 → Q (.inl none) w) ∧ (x1 < 843 → (0 ≤ x1 ∧ x1 < 843) ∧ (0 ≤ x1 ∧ x1 < 843) ∧ ∀ w2 : PW, w2 = sI w 171 x1.toNat (gI w 170 x1.toNat) → pX 219 2 [some (.ref 169), some (iv (x1 + 1))] [] w2 Q)) : pX 219 2 [some (.ref 169), some (iv x1)] [] w Q :=
  w_f b219 d219_2 rfl rfl rfl <| w_f b219 d219_3 rfl rfl rfl <| w_icge b219 d219_6 rfl rfl (p219 _ _) hx1 ⟨by decide, by decide⟩ (fun c1 => w_rv b219 d219_27 r219 (h.1 c1)) (fun c1 => w_f b219 d219_9 rfl rfl rfl <| w_gr b219 d219_10 rfl rfl hs (tlt 169 rfl) tbC_169 rfl (by decide) <| w_f b219 d219_13 rfl rfl rfl <| w_f b219 d219_14 rfl rfl rfl <| w_gr b219 d219_15 rfl rfl hs (tlt 169 rfl) tbC_169 rfl (by decide) <| w_f b219 d219_18 rfl rfl rfl <| w_ial b219 d219_19 rfl hs (tlt 170 rfl) tbC_170 (bdix (n := 843) (h.2 c1).1 rfl) (h.2 c1).1 <| w_ias b219 d219_20 rfl hs (tlt 171 rfl) tbC_171 (bdix (n := 843) (h.2 c1).2.1 rfl) (h.2 c1).2.1 <| w_f b219 d219_21 rfl (pf_iinc rfl rfl) rfl <| w_j b219 d219_24 rfl (p219 _ _) <| ((h.2 c1).2.2 _ rfl))
/-! 231: PinBarrelModel.comesTooth(II)V -/
theorem b231 : mB 231 = cX9_comesTooth := rfl
theorem r231 : mR 231 = none := rfl
theorem p231 (a b : Nat) : phi 231 a ≤ phi 231 b := Nat.le_refl 0
theorem d231_0 : decode cX9_comesTooth 0 = .ok (.aload_n 0, 1) := by decide +kernel
theorem d231_1 : decode cX9_comesTooth 1 = .ok (.getfield 9, 3) := by decide +kernel
theorem d231_4 : decode cX9_comesTooth 4 = .ok (.iconst 4, 1) := by decide +kernel
theorem d231_5 : decode cX9_comesTooth 5 = .ok (.iaload, 1) := by decide +kernel
theorem d231_6 : decode cX9_comesTooth 6 = .ok (.istore_n 3, 1) := by decide +kernel
theorem d231_7 : decode cX9_comesTooth 7 = .ok (.aload_n 0, 1) := by decide +kernel
theorem d231_8 : decode cX9_comesTooth 8 = .ok (.getfield 9, 3) := by decide +kernel
theorem d231_11 : decode cX9_comesTooth 11 = .ok (.iload_n 3, 1) := by decide +kernel
theorem d231_12 : decode cX9_comesTooth 12 = .ok (.iconst 0, 1) := by decide +kernel
theorem d231_13 : decode cX9_comesTooth 13 = .ok (.invokestatic 206, 3) := by decide +kernel
theorem d231_16 : decode cX9_comesTooth 16 = .ok (.iload_n 1, 1) := by decide +kernel
theorem d231_17 : decode cX9_comesTooth 17 = .ok (.iastore, 1) := by decide +kernel
theorem d231_18 : decode cX9_comesTooth 18 = .ok (.aload_n 0, 1) := by decide +kernel
theorem d231_19 : decode cX9_comesTooth 19 = .ok (.getfield 9, 3) := by decide +kernel
theorem d231_22 : decode cX9_comesTooth 22 = .ok (.iload_n 3, 1) := by decide +kernel
theorem d231_23 : decode cX9_comesTooth 23 = .ok (.iconst 1, 1) := by decide +kernel
theorem d231_24 : decode cX9_comesTooth 24 = .ok (.invokestatic 206, 3) := by decide +kernel
theorem d231_27 : decode cX9_comesTooth 27 = .ok (.iload_n 2, 1) := by decide +kernel
theorem d231_28 : decode cX9_comesTooth 28 = .ok (.iastore, 1) := by decide +kernel
theorem d231_29 : decode cX9_comesTooth 29 = .ok (.aload_n 0, 1) := by decide +kernel
theorem d231_30 : decode cX9_comesTooth 30 = .ok (.getfield 9, 3) := by decide +kernel
theorem d231_33 : decode cX9_comesTooth 33 = .ok (.iload_n 3, 1) := by decide +kernel
theorem d231_34 : decode cX9_comesTooth 34 = .ok (.iconst 2, 1) := by decide +kernel
theorem d231_35 : decode cX9_comesTooth 35 = .ok (.invokestatic 206, 3) := by decide +kernel
theorem d231_38 : decode cX9_comesTooth 38 = .ok (.iconst 0, 1) := by decide +kernel
theorem d231_39 : decode cX9_comesTooth 39 = .ok (.iastore, 1) := by decide +kernel
theorem d231_40 : decode cX9_comesTooth 40 = .ok (.aload_n 0, 1) := by decide +kernel
theorem d231_41 : decode cX9_comesTooth 41 = .ok (.getfield 9, 3) := by decide +kernel
theorem d231_44 : decode cX9_comesTooth 44 = .ok (.iload_n 3, 1) := by decide +kernel
theorem d231_45 : decode cX9_comesTooth 45 = .ok (.iconst 3, 1) := by decide +kernel
theorem d231_46 : decode cX9_comesTooth 46 = .ok (.invokestatic 206, 3) := by decide +kernel
theorem d231_49 : decode cX9_comesTooth 49 = .ok (.iconst 0, 1) := by decide +kernel
theorem d231_50 : decode cX9_comesTooth 50 = .ok (.iastore, 1) := by decide +kernel
theorem d231_51 : decode cX9_comesTooth 51 = .ok (.aload_n 0, 1) := by decide +kernel
theorem d231_52 : decode cX9_comesTooth 52 = .ok (.getfield 9, 3) := by decide +kernel
theorem d231_55 : decode cX9_comesTooth 55 = .ok (.iload_n 3, 1) := by decide +kernel
theorem d231_56 : decode cX9_comesTooth 56 = .ok (.iconst 4, 1) := by decide +kernel
theorem d231_57 : decode cX9_comesTooth 57 = .ok (.invokestatic 206, 3) := by decide +kernel
theorem d231_60 : decode cX9_comesTooth 60 = .ok (.iconst (-1), 1) := by decide +kernel
theorem d231_61 : decode cX9_comesTooth 61 = .ok (.iastore, 1) := by decide +kernel
theorem d231_62 : decode cX9_comesTooth 62 = .ok (.aload_n 0, 1) := by decide +kernel
theorem d231_63 : decode cX9_comesTooth 63 = .ok (.getfield 9, 3) := by decide +kernel
theorem d231_66 : decode cX9_comesTooth 66 = .ok (.iconst 4, 1) := by decide +kernel
theorem d231_67 : decode cX9_comesTooth 67 = .ok (.dup2, 1) := by decide +kernel
theorem d231_68 : decode cX9_comesTooth 68 = .ok (.iaload, 1) := by decide +kernel
theorem d231_69 : decode cX9_comesTooth 69 = .ok (.iconst 1, 1) := by decide +kernel
theorem d231_70 : decode cX9_comesTooth 70 = .ok (.iadd, 1) := by decide +kernel
theorem d231_71 : decode cX9_comesTooth 71 = .ok (.iastore, 1) := by decide +kernel
theorem d231_72 : decode cX9_comesTooth 72 = .ok (.return_, 1) := by decide +kernel
theorem v231_0 {w : PW} {Q : PO → PW → Prop} {x1 : Int} {x2 : Int} (hs : Sh w) (hx1 : bd x1) (hx2 : bd x2) (h : (0 ≤ ((11 + 5 * (gI w 170 4)) + 0) ∧ ((11 + 5 * (gI w 170 4)) + 0) < 843) ∧ ∀ w1 : PW, w1 = sI w 170 ((11 + 5 * (gI w 170 4)) + 0).toNat x1 → (0 ≤ ((11 + 5 * (gI w 170 4)) + 1) ∧ ((11 + 5 * (gI w 170 4)) + 1) < 843) ∧ ∀ w2 : PW, w2 = sI w1 170 ((11 + 5 * (gI w 170 4)) + 1).toNat x2 → (0 ≤ ((11 + 5 * (gI w 170 4)) + 2) ∧ ((11 + 5 * (gI w 170 4)) + 2) < 843) ∧ ∀ w3 : PW, w3 = sI w2 170 ((11 + 5 * (gI w 170 4)) + 2).toNat 0 → (0 ≤ ((11 + 5 * (gI w 170 4)) + 3) ∧ ((11 + 5 * (gI w 170 4)) + 3) < 843) ∧ ∀ w4 : PW, w4 = sI w3 170 ((11 + 5 * (gI w 170 4)) + 3).toNat 0 → (0 ≤ ((11 + 5 * (gI w 170 4)) + 4) ∧ ((11 + 5 * (gI w 170 4)) + 4) < 843) ∧ ∀ w5 : PW, w5 = sI w4 170 ((11 + 5 * (gI w 170 4)) + 4).toNat ((-1)) → ∀ w6 : PW, w6 = sI w5 170 4 ((gI w5 170 4) + 1) → Q (.inl none) w6) : pX 231 0 [some (.ref 169), some (iv x1), some (iv x2), none] [] w Q :=
  w_f b231 d231_0 rfl rfl rfl <| w_gr b231 d231_1 rfl rfl hs (tlt 169 rfl) tbC_169 rfl (by decide) <| w_f b231 d231_4 rfl rfl rfl <| w_ial b231 d231_5 rfl hs (tlt 170 rfl) tbC_170 (bdix (n := 843) ⟨by decide, by decide⟩ rfl) ⟨by decide, by decide⟩ <| w_f b231 d231_6 rfl rfl rfl <| w_f b231 d231_7 rfl rfl rfl <| w_gr b231 d231_8 rfl rfl hs (tlt 169 rfl) tbC_169 rfl (by decide) <| w_f b231 d231_11 rfl rfl rfl <| w_f b231 d231_12 rfl rfl rfl <| w_cc b231 d231_13 rfl (pcl_s1 (n := 2) rfl rfl rfl (by decide +kernel) rfl rfl) rfl <| c230 hs (bd_gI _ _ _) ⟨by decide, by decide⟩ <| w_f b231 d231_16 rfl rfl rfl <| w_ias b231 d231_17 rfl hs (tlt 170 rfl) tbC_170 (bdix (n := 843) h.1 rfl) h.1 <| w_f b231 d231_18 rfl rfl rfl <| w_gr b231 d231_19 rfl rfl (Sh_sI hs (slt_a tbC_170)) (tlt 169 rfl) tbC_169 rfl (by decide) <| w_f b231 d231_22 rfl rfl rfl <| w_f b231 d231_23 rfl rfl rfl <| w_cc b231 d231_24 rfl (pcl_s1 (n := 2) rfl rfl rfl (by decide +kernel) rfl rfl) rfl <| c230 (Sh_sI hs (slt_a tbC_170)) (bd_gI _ _ _) ⟨by decide, by decide⟩ <| w_f b231 d231_27 rfl rfl rfl <| w_ias b231 d231_28 rfl (Sh_sI hs (slt_a tbC_170)) (tlt 170 rfl) tbC_170 (bdix (n := 843) (h.2 _ rfl).1 rfl) (h.2 _ rfl).1 <| w_f b231 d231_29 rfl rfl rfl <| w_gr b231 d231_30 rfl rfl (Sh_sI (Sh_sI hs (slt_a tbC_170)) (slt_a tbC_170)) (tlt 169 rfl) tbC_169 rfl (by decide) <| w_f b231 d231_33 rfl rfl rfl <| w_f b231 d231_34 rfl rfl rfl <| w_cc b231 d231_35 rfl (pcl_s1 (n := 2) rfl rfl rfl (by decide +kernel) rfl rfl) rfl <| c230 (Sh_sI (Sh_sI hs (slt_a tbC_170)) (slt_a tbC_170)) (bd_gI _ _ _) ⟨by decide, by decide⟩ <| w_f b231 d231_38 rfl rfl rfl <| w_ias b231 d231_39 rfl (Sh_sI (Sh_sI hs (slt_a tbC_170)) (slt_a tbC_170)) (tlt 170 rfl) tbC_170 (bdix (n := 843) ((h.2 _ rfl).2 _ rfl).1 rfl) ((h.2 _ rfl).2 _ rfl).1 <| w_f b231 d231_40 rfl rfl rfl <| w_gr b231 d231_41 rfl rfl (Sh_sI (Sh_sI (Sh_sI hs (slt_a tbC_170)) (slt_a tbC_170)) (slt_a tbC_170)) (tlt 169 rfl) tbC_169 rfl (by decide) <| w_f b231 d231_44 rfl rfl rfl <| w_f b231 d231_45 rfl rfl rfl <| w_cc b231 d231_46 rfl (pcl_s1 (n := 2) rfl rfl rfl (by decide +kernel) rfl rfl) rfl <| c230 (Sh_sI (Sh_sI (Sh_sI hs (slt_a tbC_170)) (slt_a tbC_170)) (slt_a tbC_170)) (bd_gI _ _ _) ⟨by decide, by decide⟩ <| w_f b231 d231_49 rfl rfl rfl <| w_ias b231 d231_50 rfl (Sh_sI (Sh_sI (Sh_sI hs (slt_a tbC_170)) (slt_a tbC_170)) (slt_a tbC_170)) (tlt 170 rfl) tbC_170 (bdix (n := 843) (((h.2 _ rfl).2 _ rfl).2 _ rfl).1 rfl) (((h.2 _ rfl).2 _ rfl).2 _ rfl).1 <| w_f b231 d231_51 rfl rfl rfl <| w_gr b231 d231_52 rfl rfl (Sh_sI (Sh_sI (Sh_sI (Sh_sI hs (slt_a tbC_170)) (slt_a tbC_170)) (slt_a tbC_170)) (slt_a tbC_170)) (tlt 169 rfl) tbC_169 rfl (by decide) <| w_f b231 d231_55 rfl rfl rfl <| w_f b231 d231_56 rfl rfl rfl <| w_cc b231 d231_57 rfl (pcl_s1 (n := 2) rfl rfl rfl (by decide +kernel) rfl rfl) rfl <| c230 (Sh_sI (Sh_sI (Sh_sI (Sh_sI hs (slt_a tbC_170)) (slt_a tbC_170)) (slt_a tbC_170)) (slt_a tbC_170)) (bd_gI _ _ _) ⟨by decide, by decide⟩ <| w_f b231 d231_60 rfl rfl rfl <| w_ias b231 d231_61 rfl (Sh_sI (Sh_sI (Sh_sI (Sh_sI hs (slt_a tbC_170)) (slt_a tbC_170)) (slt_a tbC_170)) (slt_a tbC_170)) (tlt 170 rfl) tbC_170 (bdix (n := 843) ((((h.2 _ rfl).2 _ rfl).2 _ rfl).2 _ rfl).1 rfl) ((((h.2 _ rfl).2 _ rfl).2 _ rfl).2 _ rfl).1 <| w_f b231 d231_62 rfl rfl rfl <| w_gr b231 d231_63 rfl rfl (Sh_sI (Sh_sI (Sh_sI (Sh_sI (Sh_sI hs (slt_a tbC_170)) (slt_a tbC_170)) (slt_a tbC_170)) (slt_a tbC_170)) (slt_a tbC_170)) (tlt 169 rfl) tbC_169 rfl (by decide) <| w_f b231 d231_66 rfl rfl rfl <| w_f b231 d231_67 rfl rfl rfl <| w_ial b231 d231_68 rfl (Sh_sI (Sh_sI (Sh_sI (Sh_sI (Sh_sI hs (slt_a tbC_170)) (slt_a tbC_170)) (slt_a tbC_170)) (slt_a tbC_170)) (slt_a tbC_170)) (tlt 170 rfl) tbC_170 (bdix (n := 843) ⟨by decide, by decide⟩ rfl) ⟨by decide, by decide⟩ <| w_f b231 d231_69 rfl rfl rfl <| w_f b231 d231_70 rfl (pf_iadd _ 1) rfl <| w_ias b231 d231_71 rfl (Sh_sI (Sh_sI (Sh_sI (Sh_sI (Sh_sI hs (slt_a tbC_170)) (slt_a tbC_170)) (slt_a tbC_170)) (slt_a tbC_170)) (slt_a tbC_170)) (tlt 170 rfl) tbC_170 (bdix (n := 843) ⟨by decide, by decide⟩ rfl) ⟨by decide, by decide⟩ <| w_rv b231 d231_72 r231 ((((((h.2 _ rfl).2 _ rfl).2 _ rfl).2 _ rfl).2 _ rfl) _ rfl)
theorem e231 {w : PW} {Q : PO → PW → Prop} {x1 : Int} {x2 : Int} (hs : Sh w) (hx1 : bd x1) (hx2 : bd x2) (h : (0 ≤ ((11 + 5 * (gI w 170 4)) + 0) ∧ ((11 + 5 * (gI w 170 4)) + 0) < 843) ∧ ∀ w1 : PW, w1 = sI w 170 ((11 + 5 * (gI w 170 4)) + 0).toNat x1 → (0 ≤ ((11 + 5 * (gI w 170 4)) + 1) ∧ ((11 + 5 * (gI w 170 4)) + 1) < 843) ∧ ∀ w2 : PW, w2 = sI w1 170 ((11 + 5 * (gI w 170 4)) + 1).toNat x2 → (0 ≤ ((11 + 5 * (gI w 170 4)) + 2) ∧ ((11 + 5 * (gI w 170 4)) + 2) < 843) ∧ ∀ w3 : PW, w3 = sI w2 170 ((11 + 5 * (gI w 170 4)) + 2).toNat 0 → (0 ≤ ((11 + 5 * (gI w 170 4)) + 3) ∧ ((11 + 5 * (gI w 170 4)) + 3) < 843) ∧ ∀ w4 : PW, w4 = sI w3 170 ((11 + 5 * (gI w 170 4)) + 3).toNat 0 → (0 ≤ ((11 + 5 * (gI w 170 4)) + 4) ∧ ((11 + 5 * (gI w 170 4)) + 4) < 843) ∧ ∀ w5 : PW, w5 = sI w4 170 ((11 + 5 * (gI w 170 4)) + 4).toNat ((-1)) → ∀ w6 : PW, w6 = sI w5 170 4 ((gI w5 170 4) + 1) → Q (.inl none) w6) : pC 231 [.ref 169, iv x1, iv x2] w Q :=
  (pC_in (Nat.le_of_ble_eq_true rfl) rfl Q).mpr (v231_0 hs hx1 hx2 h)
/-! 241: PinBarrelModel.comesBack(I)I -/
theorem b241 : mB 241 = cX9_comesBack := rfl
theorem r241 : mR 241 = (some .int) := rfl
theorem p241 (a b : Nat) : phi 241 a ≤ phi 241 b := Nat.le_refl 0
theorem d241_0 : decode cX9_comesBack 0 = .ok (.iconst 0, 1) := by decide +kernel
theorem d241_1 : decode cX9_comesBack 1 = .ok (.istore_n 2, 1) := by decide +kernel
theorem d241_2 : decode cX9_comesBack 2 = .ok (.iload_n 2, 1) := by decide +kernel
theorem d241_3 : decode cX9_comesBack 3 = .ok (.sipush 843, 3) := by decide +kernel
theorem d241_6 : decode cX9_comesBack 6 = .ok (.if_icmp .ge 21, 3) := by decide +kernel
theorem d241_9 : decode cX9_comesBack 9 = .ok (.aload_n 0, 1) := by decide +kernel
theorem d241_10 : decode cX9_comesBack 10 = .ok (.getfield 9, 3) := by decide +kernel
theorem d241_13 : decode cX9_comesBack 13 = .ok (.iload_n 2, 1) := by decide +kernel
theorem d241_14 : decode cX9_comesBack 14 = .ok (.aload_n 0, 1) := by decide +kernel
theorem d241_15 : decode cX9_comesBack 15 = .ok (.getfield 13, 3) := by decide +kernel
theorem d241_18 : decode cX9_comesBack 18 = .ok (.iload_n 2, 1) := by decide +kernel
theorem d241_19 : decode cX9_comesBack 19 = .ok (.iaload, 1) := by decide +kernel
theorem d241_20 : decode cX9_comesBack 20 = .ok (.iastore, 1) := by decide +kernel
theorem d241_21 : decode cX9_comesBack 21 = .ok (.iinc 2 1, 3) := by decide +kernel
theorem d241_24 : decode cX9_comesBack 24 = .ok (.goto (-22), 3) := by decide +kernel
theorem d241_27 : decode cX9_comesBack 27 = .ok (.iload_n 1, 1) := by decide +kernel
theorem d241_28 : decode cX9_comesBack 28 = .ok (.ireturn, 1) := by decide +kernel
theorem v241_0 {w : PW} {Q : PO → PW → Prop} {x1 : Int} (hs : Sh w) (hx1 : bd x1) (h : pX 241 2 [some (.ref 169), some (iv x1), some (iv 0)] [] w Q) : pX 241 0 [some (.ref 169), some (iv x1), none] [] w Q :=
  w_f b241 d241_0 rfl rfl rfl <| w_f b241 d241_1 rfl rfl rfl <| h
theorem e241 {w : PW} {Q : PO → PW → Prop} {x1 : Int} (hs : Sh w) (hx1 : bd x1) (h : pX 241 2 [some (.ref 169), some (iv x1), some (iv 0)] [] w Q) : pC 241 [.ref 169, iv x1] w Q :=
  (pC_in (Nat.le_of_ble_eq_true rfl) rfl Q).mpr (v241_0 hs hx1 h)
theorem v241_2 {w : PW} {Q : PO → PW → Prop} {x1 : Int} {x2 : Int} (hs : Sh w) (hx1 : bd x1) (hx2 : bd x2) (h : (843 ≤ x2 → Q (.inl (some (iv x1))) w) ∧ (x2 < 843 → (0 ≤ x2 ∧ x2 < 843) ∧ (0 ≤ x2 ∧ x2 < 843) ∧ ∀ w2 : PW, w2 = sI w 170 x2.toNat (gI w 171 x2.toNat) → pX 241 2 [some (.ref 169), some (iv x1), some (iv (x2 + 1))] [] w2 Q)) : pX 241 2 [some (.ref 169), some (iv x1), some (iv x2)] [] w Q :=
  w_f b241 d241_2 rfl rfl rfl <| w_f b241 d241_3 rfl rfl rfl <| w_icge b241 d241_6 rfl rfl (p241 _ _) hx2 ⟨by decide, by decide⟩ (fun c1 => w_f b241 d241_27 rfl rfl rfl <| w_ri b241 d241_28 r241 (h.1 c1)) (fun c1 => w_f b241 d241_9 rfl rfl rfl <| w_gr b241 d241_10 rfl rfl hs (tlt 169 rfl) tbC_169 rfl (by decide) <| w_f b241 d241_13 rfl rfl rfl <| w_f b241 d241_14 rfl rfl rfl <| w_gr b241 d241_15 rfl rfl hs (tlt 169 rfl) tbC_169 rfl (by decide) <| w_f b241 d241_18 rfl rfl rfl <| w_ial b241 d241_19 rfl hs (tlt 171 rfl) tbC_171 (bdix (n := 843) (h.2 c1).1 rfl) (h.2 c1).1 <| w_ias b241 d241_20 rfl hs (tlt 170 rfl) tbC_170 (bdix (n := 843) (h.2 c1).2.1 rfl) (h.2 c1).2.1 <| w_f b241 d241_21 rfl (pf_iinc rfl rfl) rfl <| w_j b241 d241_24 rfl (p241 _ _) <| ((h.2 c1).2.2 _ rfl))
/-! 304: PinBarrelModel.fastest(I)I -/
theorem b304 : mB 304 = cX9_fastest := rfl
theorem r304 : mR 304 = (some .int) := rfl
theorem p304 (a b : Nat) : phi 304 a ≤ phi 304 b := Nat.le_refl 0
theorem d304_0 : decode cX9_fastest 0 = .ok (.aload_n 0, 1) := by decide +kernel
theorem d304_1 : decode cX9_fastest 1 = .ok (.iload_n 1, 1) := by decide +kernel
theorem d304_2 : decode cX9_fastest 2 = .ok (.invokevirtual 377, 3) := by decide +kernel
theorem d304_5 : decode cX9_fastest 5 = .ok (.ifCond .eq 5, 3) := by decide +kernel
theorem d304_8 : decode cX9_fastest 8 = .ok (.iconst 0, 1) := by decide +kernel
theorem d304_9 : decode cX9_fastest 9 = .ok (.ireturn, 1) := by decide +kernel
theorem d304_10 : decode cX9_fastest 10 = .ok (.aload_n 0, 1) := by decide +kernel
theorem d304_11 : decode cX9_fastest 11 = .ok (.getfield 9, 3) := by decide +kernel
theorem d304_14 : decode cX9_fastest 14 = .ok (.iconst 3, 1) := by decide +kernel
theorem d304_15 : decode cX9_fastest 15 = .ok (.iaload, 1) := by decide +kernel
theorem d304_16 : decode cX9_fastest 16 = .ok (.istore_n 2, 1) := by decide +kernel
theorem d304_17 : decode cX9_fastest 17 = .ok (.iconst (-1), 1) := by decide +kernel
theorem d304_18 : decode cX9_fastest 18 = .ok (.istore_n 3, 1) := by decide +kernel
theorem d304_19 : decode cX9_fastest 19 = .ok (.iconst 1, 1) := by decide +kernel
theorem d304_20 : decode cX9_fastest 20 = .ok (.istore 4, 2) := by decide +kernel
theorem d304_22 : decode cX9_fastest 22 = .ok (.iload 4, 2) := by decide +kernel
theorem d304_24 : decode cX9_fastest 24 = .ok (.iconst 4, 1) := by decide +kernel
theorem d304_25 : decode cX9_fastest 25 = .ok (.if_icmp .gt 29, 3) := by decide +kernel
theorem d304_28 : decode cX9_fastest 28 = .ok (.aload_n 0, 1) := by decide +kernel
theorem d304_29 : decode cX9_fastest 29 = .ok (.getfield 9, 3) := by decide +kernel
theorem d304_32 : decode cX9_fastest 32 = .ok (.iconst 3, 1) := by decide +kernel
theorem d304_33 : decode cX9_fastest 33 = .ok (.iload 4, 2) := by decide +kernel
theorem d304_35 : decode cX9_fastest 35 = .ok (.iastore, 1) := by decide +kernel
theorem d304_36 : decode cX9_fastest 36 = .ok (.aload_n 0, 1) := by decide +kernel
theorem d304_37 : decode cX9_fastest 37 = .ok (.iload_n 1, 1) := by decide +kernel
theorem d304_38 : decode cX9_fastest 38 = .ok (.invokevirtual 391, 3) := by decide +kernel
theorem d304_41 : decode cX9_fastest 41 = .ok (.iconst 1, 1) := by decide +kernel
theorem d304_42 : decode cX9_fastest 42 = .ok (.if_icmp .ne 6, 3) := by decide +kernel
theorem d304_45 : decode cX9_fastest 45 = .ok (.iload 4, 2) := by decide +kernel
theorem d304_47 : decode cX9_fastest 47 = .ok (.istore_n 3, 1) := by decide +kernel
theorem d304_48 : decode cX9_fastest 48 = .ok (.iinc 4 1, 3) := by decide +kernel
theorem d304_51 : decode cX9_fastest 51 = .ok (.goto (-29), 3) := by decide +kernel
theorem d304_54 : decode cX9_fastest 54 = .ok (.aload_n 0, 1) := by decide +kernel
theorem d304_55 : decode cX9_fastest 55 = .ok (.getfield 9, 3) := by decide +kernel
theorem d304_58 : decode cX9_fastest 58 = .ok (.iconst 3, 1) := by decide +kernel
theorem d304_59 : decode cX9_fastest 59 = .ok (.iload_n 2, 1) := by decide +kernel
theorem d304_60 : decode cX9_fastest 60 = .ok (.iastore, 1) := by decide +kernel
theorem d304_61 : decode cX9_fastest 61 = .ok (.iload_n 3, 1) := by decide +kernel
theorem d304_62 : decode cX9_fastest 62 = .ok (.ireturn, 1) := by decide +kernel
theorem v304_0 {w : PW} {Q : PO → PW → Prop} {x1 : Int} (hs : Sh w) (hx1 : bd x1) (h : (bd ((gI w 170 1) - 1)) ∧ ((0 ≤ x1 ∧ x1 < gI w 170 1) → ∀ w2 : PW, w2 = sI w 169 0 0 → pX 304 22 [some (.ref 169), some (iv x1), some (iv (gI w2 170 3)), some (iv ((-1))), some (iv 1)] [] w2 Q) ∧ ((¬ (0 ≤ x1 ∧ x1 < gI w 170 1)) → ∀ w4 : PW, w4 = sI w 169 0 1 → Q (.inl (some (iv 0))) w4)) : pX 304 0 [some (.ref 169), some (iv x1), none, none, none] [] w Q :=
  w_f b304 d304_0 rfl rfl rfl <| w_f b304 d304_1 rfl rfl rfl <| w_cc b304 d304_2 rfl (pcl_v (n := 1) rfl rfl rfl (by decide +kernel) (sh_isOb hs (tlt 169 rfl) tbC_169) rfl rfl) rfl <| c275 hs hx1 h.1 (fun c1 => w_ifeq b304 d304_5 rfl rfl (p304 _ _) ⟨by decide, by decide⟩ (fun _ => w_f b304 d304_10 rfl rfl rfl <| w_gr b304 d304_11 rfl rfl (Sh_sI hs (slt_o tbC_169 rfl)) (tlt 169 rfl) tbC_169 rfl (by decide) <| w_f b304 d304_14 rfl rfl rfl <| w_ial b304 d304_15 rfl (Sh_sI hs (slt_o tbC_169 rfl)) (tlt 170 rfl) tbC_170 (bdix (n := 843) ⟨by decide, by decide⟩ rfl) ⟨by decide, by decide⟩ <| w_f b304 d304_16 rfl rfl rfl <| w_f b304 d304_17 rfl rfl rfl <| w_f b304 d304_18 rfl rfl rfl <| w_f b304 d304_19 rfl rfl rfl <| w_f b304 d304_20 rfl rfl rfl <| (h.2.1 c1 _ rfl)) (fun c => absurd c (by decide))) (fun c3 => w_ifeq b304 d304_5 rfl rfl (p304 _ _) ⟨by decide, by decide⟩ (fun c => absurd c (by decide)) (fun _ => w_f b304 d304_8 rfl rfl rfl <| w_ri b304 d304_9 r304 (h.2.2 c3 _ rfl)))
theorem e304 {w : PW} {Q : PO → PW → Prop} {x1 : Int} (hs : Sh w) (hx1 : bd x1) (h : (bd ((gI w 170 1) - 1)) ∧ ((0 ≤ x1 ∧ x1 < gI w 170 1) → ∀ w2 : PW, w2 = sI w 169 0 0 → pX 304 22 [some (.ref 169), some (iv x1), some (iv (gI w2 170 3)), some (iv ((-1))), some (iv 1)] [] w2 Q) ∧ ((¬ (0 ≤ x1 ∧ x1 < gI w 170 1)) → ∀ w4 : PW, w4 = sI w 169 0 1 → Q (.inl (some (iv 0))) w4)) : pC 304 [.ref 169, iv x1] w Q :=
  (pC_in (Nat.le_of_ble_eq_true rfl) rfl Q).mpr (v304_0 hs hx1 h)
theorem v304_22 {w : PW} {Q : PO → PW → Prop} {x1 : Int} {x2 : Int} {x3 : Int} {x4 : Int} (hs : Sh w) (hx1 : bd x1) (hx2 : bd x2) (hx3 : bd x3) (hx4 : bd x4) (h : (4 < x4 → ∀ w2 : PW, w2 = sI w 170 3 x2 → Q (.inl (some (iv x3))) w2) ∧ (x4 ≤ 4 → ∀ w3 : PW, w3 = sI w 170 3 x4 → pC 299 [.ref 169, iv x1] w3 (kI fun u5 w4 => Sh w4 ∧ (u5 ≠ 1 → pX 304 22 [some (.ref 169), some (iv x1), some (iv x2), some (iv x3), some (iv (x4 + 1))] [] w4 Q) ∧ (u5 = 1 → pX 304 22 [some (.ref 169), some (iv x1), some (iv x2), some (iv x4), some (iv (x4 + 1))] [] w4 Q)))) : pX 304 22 [some (.ref 169), some (iv x1), some (iv x2), some (iv x3), some (iv x4)] [] w Q :=
  w_f b304 d304_22 rfl rfl rfl <| w_f b304 d304_24 rfl rfl rfl <| w_icgt b304 d304_25 rfl rfl (p304 _ _) hx4 ⟨by decide, by decide⟩ (fun c1 => w_f b304 d304_54 rfl rfl rfl <| w_gr b304 d304_55 rfl rfl hs (tlt 169 rfl) tbC_169 rfl (by decide) <| w_f b304 d304_58 rfl rfl rfl <| w_f b304 d304_59 rfl rfl rfl <| w_ias b304 d304_60 rfl hs (tlt 170 rfl) tbC_170 (bdix (n := 843) ⟨by decide, by decide⟩ rfl) ⟨by decide, by decide⟩ <| w_f b304 d304_61 rfl rfl rfl <| w_ri b304 d304_62 r304 ((h.1 c1) _ rfl)) (fun c1 => w_f b304 d304_28 rfl rfl rfl <| w_gr b304 d304_29 rfl rfl hs (tlt 169 rfl) tbC_169 rfl (by decide) <| w_f b304 d304_32 rfl rfl rfl <| w_f b304 d304_33 rfl rfl rfl <| w_ias b304 d304_35 rfl hs (tlt 170 rfl) tbC_170 (bdix (n := 843) ⟨by decide, by decide⟩ rfl) ⟨by decide, by decide⟩ <| w_f b304 d304_36 rfl rfl rfl <| w_f b304 d304_37 rfl rfl rfl <| w_c b304 d304_38 rfl (pcl_v (n := 1) rfl rfl rfl (by decide +kernel) (sh_isOb (Sh_sI hs (slt_a tbC_170)) (tlt 169 rfl) tbC_169) rfl rfl) rfl _ (hK_I fun u5 w4 hbu5 hkw4 => w_f b304 d304_41 rfl rfl rfl <| w_icne b304 d304_42 rfl rfl (p304 _ _) hbu5 ⟨by decide, by decide⟩ (fun c6 => w_f b304 d304_48 rfl (pf_iinc rfl rfl) rfl <| w_j b304 d304_51 rfl (p304 _ _) <| (hkw4.2.1 c6)) (fun c6 => w_f b304 d304_45 rfl rfl rfl <| w_f b304 d304_47 rfl rfl rfl <| w_f b304 d304_48 rfl (pf_iinc rfl rfl) rfl <| w_j b304 d304_51 rfl (p304 _ _) <| (hkw4.2.2 c6))) ((h.2 c1) _ rfl))
/-! 305: PinBarrelModel.needed(I)I -/
theorem b305 : mB 305 = cX9_needed := rfl
theorem r305 : mR 305 = (some .int) := rfl
theorem p305 (a b : Nat) : phi 305 a ≤ phi 305 b := Nat.le_refl 0
theorem d305_0 : decode cX9_needed 0 = .ok (.aload_n 0, 1) := by decide +kernel
theorem d305_1 : decode cX9_needed 1 = .ok (.iload_n 1, 1) := by decide +kernel
theorem d305_2 : decode cX9_needed 2 = .ok (.invokevirtual 377, 3) := by decide +kernel
theorem d305_5 : decode cX9_needed 5 = .ok (.ifCond .eq 5, 3) := by decide +kernel
theorem d305_8 : decode cX9_needed 8 = .ok (.iconst 0, 1) := by decide +kernel
theorem d305_9 : decode cX9_needed 9 = .ok (.ireturn, 1) := by decide +kernel
theorem d305_10 : decode cX9_needed 10 = .ok (.aload_n 0, 1) := by decide +kernel
theorem d305_11 : decode cX9_needed 11 = .ok (.iload_n 1, 1) := by decide +kernel
theorem d305_12 : decode cX9_needed 12 = .ok (.invokevirtual 391, 3) := by decide +kernel
theorem d305_15 : decode cX9_needed 15 = .ok (.iconst 1, 1) := by decide +kernel
theorem d305_16 : decode cX9_needed 16 = .ok (.if_icmp .eq 5, 3) := by decide +kernel
theorem d305_19 : decode cX9_needed 19 = .ok (.iconst (-1), 1) := by decide +kernel
theorem d305_20 : decode cX9_needed 20 = .ok (.ireturn, 1) := by decide +kernel
theorem d305_21 : decode cX9_needed 21 = .ok (.iconst 0, 1) := by decide +kernel
theorem d305_22 : decode cX9_needed 22 = .ok (.istore_n 2, 1) := by decide +kernel
theorem d305_23 : decode cX9_needed 23 = .ok (.iload_n 2, 1) := by decide +kernel
theorem d305_24 : decode cX9_needed 24 = .ok (.aload_n 0, 1) := by decide +kernel
theorem d305_25 : decode cX9_needed 25 = .ok (.getfield 9, 3) := by decide +kernel
theorem d305_28 : decode cX9_needed 28 = .ok (.iconst 4, 1) := by decide +kernel
theorem d305_29 : decode cX9_needed 29 = .ok (.iaload, 1) := by decide +kernel
theorem d305_30 : decode cX9_needed 30 = .ok (.if_icmp .ge 21, 3) := by decide +kernel
theorem d305_33 : decode cX9_needed 33 = .ok (.aload_n 0, 1) := by decide +kernel
theorem d305_34 : decode cX9_needed 34 = .ok (.iload_n 1, 1) := by decide +kernel
theorem d305_35 : decode cX9_needed 35 = .ok (.iload_n 2, 1) := by decide +kernel
theorem d305_36 : decode cX9_needed 36 = .ok (.invokevirtual 320, 3) := by decide +kernel
theorem d305_39 : decode cX9_needed 39 = .ok (.iconst 1, 1) := by decide +kernel
theorem d305_40 : decode cX9_needed 40 = .ok (.if_icmp .eq 5, 3) := by decide +kernel
theorem d305_43 : decode cX9_needed 43 = .ok (.iload_n 2, 1) := by decide +kernel
theorem d305_44 : decode cX9_needed 44 = .ok (.ireturn, 1) := by decide +kernel
theorem d305_45 : decode cX9_needed 45 = .ok (.iinc 2 1, 3) := by decide +kernel
theorem d305_48 : decode cX9_needed 48 = .ok (.goto (-25), 3) := by decide +kernel
theorem d305_51 : decode cX9_needed 51 = .ok (.iconst (-1), 1) := by decide +kernel
theorem d305_52 : decode cX9_needed 52 = .ok (.ireturn, 1) := by decide +kernel
theorem v305_0 {w : PW} {Q : PO → PW → Prop} {x1 : Int} (hs : Sh w) (hx1 : bd x1) (h : (bd ((gI w 170 1) - 1)) ∧ ((0 ≤ x1 ∧ x1 < gI w 170 1) → ∀ w2 : PW, w2 = sI w 169 0 0 → pC 299 [.ref 169, iv x1] w2 (kI fun u4 w3 => Sh w3 ∧ (u4 = 1 → pX 305 23 [some (.ref 169), some (iv x1), some (iv 0)] [] w3 Q) ∧ (u4 ≠ 1 → Q (.inl (some (iv ((-1))))) w3))) ∧ ((¬ (0 ≤ x1 ∧ x1 < gI w 170 1)) → ∀ w7 : PW, w7 = sI w 169 0 1 → Q (.inl (some (iv 0))) w7)) : pX 305 0 [some (.ref 169), some (iv x1), none] [] w Q :=
  w_f b305 d305_0 rfl rfl rfl <| w_f b305 d305_1 rfl rfl rfl <| w_cc b305 d305_2 rfl (pcl_v (n := 1) rfl rfl rfl (by decide +kernel) (sh_isOb hs (tlt 169 rfl) tbC_169) rfl rfl) rfl <| c275 hs hx1 h.1 (fun c1 => w_ifeq b305 d305_5 rfl rfl (p305 _ _) ⟨by decide, by decide⟩ (fun _ => w_f b305 d305_10 rfl rfl rfl <| w_f b305 d305_11 rfl rfl rfl <| w_c b305 d305_12 rfl (pcl_v (n := 1) rfl rfl rfl (by decide +kernel) (sh_isOb (Sh_sI hs (slt_o tbC_169 rfl)) (tlt 169 rfl) tbC_169) rfl rfl) rfl _ (hK_I fun u4 w3 hbu4 hkw3 => w_f b305 d305_15 rfl rfl rfl <| w_iceq b305 d305_16 rfl rfl (p305 _ _) hbu4 ⟨by decide, by decide⟩ (fun c5 => w_f b305 d305_21 rfl rfl rfl <| w_f b305 d305_22 rfl rfl rfl <| (hkw3.2.1 c5)) (fun c5 => w_f b305 d305_19 rfl rfl rfl <| w_ri b305 d305_20 r305 (hkw3.2.2 c5))) (h.2.1 c1 _ rfl)) (fun c => absurd c (by decide))) (fun c6 => w_ifeq b305 d305_5 rfl rfl (p305 _ _) ⟨by decide, by decide⟩ (fun c => absurd c (by decide)) (fun _ => w_f b305 d305_8 rfl rfl rfl <| w_ri b305 d305_9 r305 (h.2.2 c6 _ rfl)))
theorem e305 {w : PW} {Q : PO → PW → Prop} {x1 : Int} (hs : Sh w) (hx1 : bd x1) (h : (bd ((gI w 170 1) - 1)) ∧ ((0 ≤ x1 ∧ x1 < gI w 170 1) → ∀ w2 : PW, w2 = sI w 169 0 0 → pC 299 [.ref 169, iv x1] w2 (kI fun u4 w3 => Sh w3 ∧ (u4 = 1 → pX 305 23 [some (.ref 169), some (iv x1), some (iv 0)] [] w3 Q) ∧ (u4 ≠ 1 → Q (.inl (some (iv ((-1))))) w3))) ∧ ((¬ (0 ≤ x1 ∧ x1 < gI w 170 1)) → ∀ w7 : PW, w7 = sI w 169 0 1 → Q (.inl (some (iv 0))) w7)) : pC 305 [.ref 169, iv x1] w Q :=
  (pC_in (Nat.le_of_ble_eq_true rfl) rfl Q).mpr (v305_0 hs hx1 h)
theorem v305_23 {w : PW} {Q : PO → PW → Prop} {x1 : Int} {x2 : Int} (hs : Sh w) (hx1 : bd x1) (hx2 : bd x2) (h : ((gI w 170 4) ≤ x2 → Q (.inl (some (iv ((-1))))) w) ∧ (x2 < (gI w 170 4) → pC 298 [.ref 169, iv x1, iv x2] w (kI fun u3 w2 => Sh w2 ∧ (u3 = 1 → pX 305 23 [some (.ref 169), some (iv x1), some (iv (x2 + 1))] [] w2 Q) ∧ (u3 ≠ 1 → Q (.inl (some (iv x2))) w2)))) : pX 305 23 [some (.ref 169), some (iv x1), some (iv x2)] [] w Q :=
  w_f b305 d305_23 rfl rfl rfl <| w_f b305 d305_24 rfl rfl rfl <| w_gr b305 d305_25 rfl rfl hs (tlt 169 rfl) tbC_169 rfl (by decide) <| w_f b305 d305_28 rfl rfl rfl <| w_ial b305 d305_29 rfl hs (tlt 170 rfl) tbC_170 (bdix (n := 843) ⟨by decide, by decide⟩ rfl) ⟨by decide, by decide⟩ <| w_icge b305 d305_30 rfl rfl (p305 _ _) hx2 (bd_gI _ _ _) (fun c1 => w_f b305 d305_51 rfl rfl rfl <| w_ri b305 d305_52 r305 (h.1 c1)) (fun c1 => w_f b305 d305_33 rfl rfl rfl <| w_f b305 d305_34 rfl rfl rfl <| w_f b305 d305_35 rfl rfl rfl <| w_c b305 d305_36 rfl (pcl_v (n := 2) rfl rfl rfl (by decide +kernel) (sh_isOb hs (tlt 169 rfl) tbC_169) rfl rfl) rfl _ (hK_I fun u3 w2 hbu3 hkw2 => w_f b305 d305_39 rfl rfl rfl <| w_iceq b305 d305_40 rfl rfl (p305 _ _) hbu3 ⟨by decide, by decide⟩ (fun c4 => w_f b305 d305_45 rfl (pf_iinc rfl rfl) rfl <| w_j b305 d305_48 rfl (p305 _ _) <| (hkw2.2.1 c4)) (fun c4 => w_f b305 d305_43 rfl rfl rfl <| w_ri b305 d305_44 r305 (hkw2.2.2 c4))) (h.2 c1))
/-! 306: PinBarrelModel.wanted(I)I -/
theorem b306 : mB 306 = cX9_wanted := rfl
theorem r306 : mR 306 = (some .int) := rfl
theorem p306 (a b : Nat) : phi 306 a ≤ phi 306 b := Nat.le_refl 0
theorem d306_0 : decode cX9_wanted 0 = .ok (.aload_n 0, 1) := by decide +kernel
theorem d306_1 : decode cX9_wanted 1 = .ok (.iload_n 1, 1) := by decide +kernel
theorem d306_2 : decode cX9_wanted 2 = .ok (.invokevirtual 377, 3) := by decide +kernel
theorem d306_5 : decode cX9_wanted 5 = .ok (.ifCond .eq 5, 3) := by decide +kernel
theorem d306_8 : decode cX9_wanted 8 = .ok (.iconst 0, 1) := by decide +kernel
theorem d306_9 : decode cX9_wanted 9 = .ok (.ireturn, 1) := by decide +kernel
theorem d306_10 : decode cX9_wanted 10 = .ok (.aload_n 0, 1) := by decide +kernel
theorem d306_11 : decode cX9_wanted 11 = .ok (.getfield 9, 3) := by decide +kernel
theorem d306_14 : decode cX9_wanted 14 = .ok (.iconst 4, 1) := by decide +kernel
theorem d306_15 : decode cX9_wanted 15 = .ok (.iaload, 1) := by decide +kernel
theorem d306_16 : decode cX9_wanted 16 = .ok (.bipush 12, 2) := by decide +kernel
theorem d306_18 : decode cX9_wanted 18 = .ok (.if_icmp .ne 5, 3) := by decide +kernel
theorem d306_21 : decode cX9_wanted 21 = .ok (.iconst (-1), 1) := by decide +kernel
theorem d306_22 : decode cX9_wanted 22 = .ok (.ireturn, 1) := by decide +kernel
theorem d306_23 : decode cX9_wanted 23 = .ok (.aload_n 0, 1) := by decide +kernel
theorem d306_24 : decode cX9_wanted 24 = .ok (.invokevirtual 196, 3) := by decide +kernel
theorem d306_27 : decode cX9_wanted 27 = .ok (.aload_n 0, 1) := by decide +kernel
theorem d306_28 : decode cX9_wanted 28 = .ok (.iconst 0, 1) := by decide +kernel
theorem d306_29 : decode cX9_wanted 29 = .ok (.iconst 1, 1) := by decide +kernel
theorem d306_30 : decode cX9_wanted 30 = .ok (.invokevirtual 153, 3) := by decide +kernel
theorem d306_33 : decode cX9_wanted 33 = .ok (.iconst 0, 1) := by decide +kernel
theorem d306_34 : decode cX9_wanted 34 = .ok (.istore_n 2, 1) := by decide +kernel
theorem d306_35 : decode cX9_wanted 35 = .ok (.iload_n 2, 1) := by decide +kernel
theorem d306_36 : decode cX9_wanted 36 = .ok (.bipush 24, 2) := by decide +kernel
theorem d306_38 : decode cX9_wanted 38 = .ok (.if_icmp .ge 42, 3) := by decide +kernel
theorem d306_41 : decode cX9_wanted 41 = .ok (.aload_n 0, 1) := by decide +kernel
theorem d306_42 : decode cX9_wanted 42 = .ok (.getfield 9, 3) := by decide +kernel
theorem d306_45 : decode cX9_wanted 45 = .ok (.aload_n 0, 1) := by decide +kernel
theorem d306_46 : decode cX9_wanted 46 = .ok (.getfield 9, 3) := by decide +kernel
theorem d306_49 : decode cX9_wanted 49 = .ok (.iconst 4, 1) := by decide +kernel
theorem d306_50 : decode cX9_wanted 50 = .ok (.iaload, 1) := by decide +kernel
theorem d306_51 : decode cX9_wanted 51 = .ok (.iconst 1, 1) := by decide +kernel
theorem d306_52 : decode cX9_wanted 52 = .ok (.isub, 1) := by decide +kernel
theorem d306_53 : decode cX9_wanted 53 = .ok (.iconst 0, 1) := by decide +kernel
theorem d306_54 : decode cX9_wanted 54 = .ok (.invokestatic 206, 3) := by decide +kernel
theorem d306_57 : decode cX9_wanted 57 = .ok (.iload_n 2, 1) := by decide +kernel
theorem d306_58 : decode cX9_wanted 58 = .ok (.iastore, 1) := by decide +kernel
theorem d306_59 : decode cX9_wanted 59 = .ok (.aload_n 0, 1) := by decide +kernel
theorem d306_60 : decode cX9_wanted 60 = .ok (.iload_n 1, 1) := by decide +kernel
theorem d306_61 : decode cX9_wanted 61 = .ok (.invokevirtual 391, 3) := by decide +kernel
theorem d306_64 : decode cX9_wanted 64 = .ok (.iconst 1, 1) := by decide +kernel
theorem d306_65 : decode cX9_wanted 65 = .ok (.if_icmp .ne 9, 3) := by decide +kernel
theorem d306_68 : decode cX9_wanted 68 = .ok (.aload_n 0, 1) := by decide +kernel
theorem d306_69 : decode cX9_wanted 69 = .ok (.iload_n 2, 1) := by decide +kernel
theorem d306_70 : decode cX9_wanted 70 = .ok (.invokevirtual 202, 3) := by decide +kernel
theorem d306_73 : decode cX9_wanted 73 = .ok (.ireturn, 1) := by decide +kernel
theorem d306_74 : decode cX9_wanted 74 = .ok (.iinc 2 1, 3) := by decide +kernel
theorem d306_77 : decode cX9_wanted 77 = .ok (.goto (-42), 3) := by decide +kernel
theorem d306_80 : decode cX9_wanted 80 = .ok (.aload_n 0, 1) := by decide +kernel
theorem d306_81 : decode cX9_wanted 81 = .ok (.iconst (-1), 1) := by decide +kernel
theorem d306_82 : decode cX9_wanted 82 = .ok (.invokevirtual 202, 3) := by decide +kernel
theorem d306_85 : decode cX9_wanted 85 = .ok (.ireturn, 1) := by decide +kernel
theorem v306_0 {w : PW} {Q : PO → PW → Prop} {x1 : Int} (hs : Sh w) (hx1 : bd x1) (h : (bd ((gI w 170 1) - 1)) ∧ ((0 ≤ x1 ∧ x1 < gI w 170 1) → ∀ w2 : PW, w2 = sI w 169 0 0 → ((gI w2 170 4) ≠ 12 → pC 219 [.ref 169] w2 (kV fun w4 => Sh w4 ∧ pC 231 [.ref 169, iv 0, iv 1] w4 (kV fun w6 => Sh w6 ∧ pX 306 35 [some (.ref 169), some (iv x1), some (iv 0)] [] w6 Q))) ∧ ((gI w2 170 4) = 12 → Q (.inl (some (iv ((-1))))) w2)) ∧ ((¬ (0 ≤ x1 ∧ x1 < gI w 170 1)) → ∀ w9 : PW, w9 = sI w 169 0 1 → Q (.inl (some (iv 0))) w9)) : pX 306 0 [some (.ref 169), some (iv x1), none] [] w Q :=
  w_f b306 d306_0 rfl rfl rfl <| w_f b306 d306_1 rfl rfl rfl <| w_cc b306 d306_2 rfl (pcl_v (n := 1) rfl rfl rfl (by decide +kernel) (sh_isOb hs (tlt 169 rfl) tbC_169) rfl rfl) rfl <| c275 hs hx1 h.1 (fun c1 => w_ifeq b306 d306_5 rfl rfl (p306 _ _) ⟨by decide, by decide⟩ (fun _ => w_f b306 d306_10 rfl rfl rfl <| w_gr b306 d306_11 rfl rfl (Sh_sI hs (slt_o tbC_169 rfl)) (tlt 169 rfl) tbC_169 rfl (by decide) <| w_f b306 d306_14 rfl rfl rfl <| w_ial b306 d306_15 rfl (Sh_sI hs (slt_o tbC_169 rfl)) (tlt 170 rfl) tbC_170 (bdix (n := 843) ⟨by decide, by decide⟩ rfl) ⟨by decide, by decide⟩ <| w_f b306 d306_16 rfl rfl rfl <| w_icne b306 d306_18 rfl rfl (p306 _ _) (bd_gI _ _ _) ⟨by decide, by decide⟩ (fun c3 => w_f b306 d306_23 rfl rfl rfl <| w_c b306 d306_24 rfl (pcl_v (n := 0) rfl rfl rfl (by decide +kernel) (sh_isOb (Sh_sI hs (slt_o tbC_169 rfl)) (tlt 169 rfl) tbC_169) rfl rfl) rfl _ (hK_V fun w4 hkw4 => w_f b306 d306_27 rfl rfl rfl <| w_f b306 d306_28 rfl rfl rfl <| w_f b306 d306_29 rfl rfl rfl <| w_c b306 d306_30 rfl (pcl_v (n := 2) rfl rfl rfl (by decide +kernel) (sh_isOb hkw4.1 (tlt 169 rfl) tbC_169) rfl rfl) rfl _ (hK_V fun w6 hkw6 => w_f b306 d306_33 rfl rfl rfl <| w_f b306 d306_34 rfl rfl rfl <| hkw6.2) hkw4.2) ((h.2.1 c1 _ rfl).1 c3)) (fun c3 => w_f b306 d306_21 rfl rfl rfl <| w_ri b306 d306_22 r306 ((h.2.1 c1 _ rfl).2 c3))) (fun c => absurd c (by decide))) (fun c8 => w_ifeq b306 d306_5 rfl rfl (p306 _ _) ⟨by decide, by decide⟩ (fun c => absurd c (by decide)) (fun _ => w_f b306 d306_8 rfl rfl rfl <| w_ri b306 d306_9 r306 (h.2.2 c8 _ rfl)))
theorem e306 {w : PW} {Q : PO → PW → Prop} {x1 : Int} (hs : Sh w) (hx1 : bd x1) (h : (bd ((gI w 170 1) - 1)) ∧ ((0 ≤ x1 ∧ x1 < gI w 170 1) → ∀ w2 : PW, w2 = sI w 169 0 0 → ((gI w2 170 4) ≠ 12 → pC 219 [.ref 169] w2 (kV fun w4 => Sh w4 ∧ pC 231 [.ref 169, iv 0, iv 1] w4 (kV fun w6 => Sh w6 ∧ pX 306 35 [some (.ref 169), some (iv x1), some (iv 0)] [] w6 Q))) ∧ ((gI w2 170 4) = 12 → Q (.inl (some (iv ((-1))))) w2)) ∧ ((¬ (0 ≤ x1 ∧ x1 < gI w 170 1)) → ∀ w9 : PW, w9 = sI w 169 0 1 → Q (.inl (some (iv 0))) w9)) : pC 306 [.ref 169, iv x1] w Q :=
  (pC_in (Nat.le_of_ble_eq_true rfl) rfl Q).mpr (v306_0 hs hx1 h)
theorem v306_35 {w : PW} {Q : PO → PW → Prop} {x1 : Int} {x2 : Int} (hs : Sh w) (hx1 : bd x1) (hx2 : bd x2) (h : (24 ≤ x2 → pC 241 [.ref 169, iv ((-1))] w (kI fun u3 w2 => Sh w2 ∧ Q (.inl (some (iv u3))) w2)) ∧ (x2 < 24 → (bd ((gI w 170 4) - 1)) ∧ (0 ≤ ((11 + 5 * ((gI w 170 4) - 1)) + 0) ∧ ((11 + 5 * ((gI w 170 4) - 1)) + 0) < 843) ∧ ∀ w4 : PW, w4 = sI w 170 ((11 + 5 * ((gI w 170 4) - 1)) + 0).toNat x2 → pC 299 [.ref 169, iv x1] w4 (kI fun u6 w5 => Sh w5 ∧ (u6 ≠ 1 → pX 306 35 [some (.ref 169), some (iv x1), some (iv (x2 + 1))] [] w5 Q) ∧ (u6 = 1 → pC 241 [.ref 169, iv x2] w5 (kI fun u9 w8 => Sh w8 ∧ Q (.inl (some (iv u9))) w8))))) : pX 306 35 [some (.ref 169), some (iv x1), some (iv x2)] [] w Q :=
  w_f b306 d306_35 rfl rfl rfl <| w_f b306 d306_36 rfl rfl rfl <| w_icge b306 d306_38 rfl rfl (p306 _ _) hx2 ⟨by decide, by decide⟩ (fun c1 => w_f b306 d306_80 rfl rfl rfl <| w_f b306 d306_81 rfl rfl rfl <| w_c b306 d306_82 rfl (pcl_v (n := 1) rfl rfl rfl (by decide +kernel) (sh_isOb hs (tlt 169 rfl) tbC_169) rfl rfl) rfl _ (hK_I fun u3 w2 hbu3 hkw2 => w_ri b306 d306_85 r306 hkw2.2) (h.1 c1)) (fun c1 => w_f b306 d306_41 rfl rfl rfl <| w_gr b306 d306_42 rfl rfl hs (tlt 169 rfl) tbC_169 rfl (by decide) <| w_f b306 d306_45 rfl rfl rfl <| w_gr b306 d306_46 rfl rfl hs (tlt 169 rfl) tbC_169 rfl (by decide) <| w_f b306 d306_49 rfl rfl rfl <| w_ial b306 d306_50 rfl hs (tlt 170 rfl) tbC_170 (bdix (n := 843) ⟨by decide, by decide⟩ rfl) ⟨by decide, by decide⟩ <| w_f b306 d306_51 rfl rfl rfl <| w_f b306 d306_52 rfl (pf_isub (gI w 170 4) 1) rfl <| w_f b306 d306_53 rfl rfl rfl <| w_cc b306 d306_54 rfl (pcl_s1 (n := 2) rfl rfl rfl (by decide +kernel) rfl rfl) rfl <| c230 hs (h.2 c1).1 ⟨by decide, by decide⟩ <| w_f b306 d306_57 rfl rfl rfl <| w_ias b306 d306_58 rfl hs (tlt 170 rfl) tbC_170 (bdix (n := 843) (h.2 c1).2.1 rfl) (h.2 c1).2.1 <| w_f b306 d306_59 rfl rfl rfl <| w_f b306 d306_60 rfl rfl rfl <| w_c b306 d306_61 rfl (pcl_v (n := 1) rfl rfl rfl (by decide +kernel) (sh_isOb (Sh_sI hs (slt_a tbC_170)) (tlt 169 rfl) tbC_169) rfl rfl) rfl _ (hK_I fun u6 w5 hbu6 hkw5 => w_f b306 d306_64 rfl rfl rfl <| w_icne b306 d306_65 rfl rfl (p306 _ _) hbu6 ⟨by decide, by decide⟩ (fun c7 => w_f b306 d306_74 rfl (pf_iinc rfl rfl) rfl <| w_j b306 d306_77 rfl (p306 _ _) <| (hkw5.2.1 c7)) (fun c7 => w_f b306 d306_68 rfl rfl rfl <| w_f b306 d306_69 rfl rfl rfl <| w_c b306 d306_70 rfl (pcl_v (n := 1) rfl rfl rfl (by decide +kernel) (sh_isOb hkw5.1 (tlt 169 rfl) tbC_169) rfl rfl) rfl _ (hK_I fun u9 w8 hbu9 hkw8 => w_ri b306 d306_73 r306 hkw8.2) (hkw5.2.2 c7))) ((h.2 c1).2.2 _ rfl))
/-- the row may have changed, `thrown` and what lies aside not -/
def MG (w w2 : PW) : Prop := Sh w2 ∧ (∀ c, ¬ (169 ≤ c ∧ c ≤ 171) → ¬ (176 ≤ c ∧ c ≤ 178) → w2.2.2 c = w.2.2 c) ∧ (gI w2 169 6 = gI w 169 6 ∧ gI w2 169 8 = gI w 169 8 ∧ gI w2 169 12 = gI w 169 12 ∧ gI w2 169 15 = gI w 169 15 ∧ gI w2 169 30 = gI w 169 30 ∧ gI w2 169 0 = gI w 169 0) ∧ w2.2.2 171 = w.2.2 171
/-- the row alone -/
def MW (w w2 : PW) : Prop := Sh w2 ∧ ∀ c, c ≠ 170 → w2.2.2 c = w.2.2 c
section MRW
variable {w w1 w2 : PW} {Q : PO → PW → Prop} {m : Row} {u : Nat} {x1 : Int}
theorem MG.rf (hs : Sh w) : MG w w := ⟨hs, fun _ _ _ => rfl, ⟨rfl, rfl, rfl, rfl, rfl, rfl⟩, rfl⟩
theorem MG.tr (h1 : MG w w1) (h2 : MG w1 w2) : MG w w2 := by
  obtain ⟨-, a1, ⟨a2, a3, a4, a5, a6, a7⟩, a8⟩ := h1
  obtain ⟨b0, b1, ⟨b2, b3, b4, b5, b6, b7⟩, b8⟩ := h2
  exact ⟨b0, fun c hc hc2 => (b1 c hc hc2).trans (a1 c hc hc2), ⟨b2.trans a2, b3.trans a3, b4.trans a4, b5.trans a5, b6.trans a6, b7.trans a7⟩, b8.trans a8⟩
theorem MF.mg (h : MF w w2) : MG w w2 := by
  obtain ⟨s, ⟨-, a1, -, a3, a4, a5, a6, a7⟩, t, c⟩ := h
  exact ⟨s, a1, ⟨a3, a4, a5, a6, a7, t⟩, c⟩
theorem MG.mq (h : MG w w2) (hr : ∀ k, k < 843 → gI w2 170 k = gI w 170 k) : MF w w2 := by
  obtain ⟨s, a1, ⟨a2, a3, a4, a5, a6, a7⟩, a8⟩ := h
  exact ⟨s, ⟨s, a1, hr, a2, a3, a4, a5, a6⟩, a7, a8⟩
theorem MG.fin (h : MG w w2) (hM : MR w m) (hM2 : MR w2 m) : MF w w2 := h.mq (fun k hk => by rw [hM2.2 k hk, hM.2 k hk])
theorem MG.put {k : Nat} {z : Int} (hs : Sh w) (e : w2 = sI w 170 k z) (hz : bd z) : MG w w2 ∧ ∀ j, gI w2 170 j = if j = k then z else gI w 170 j := by
  obtain ⟨s1, g1, -, k1⟩ := stI e hs (by omega) (slt_a tbC_170) hz
  have h9 : ∀ j, gI w2 169 j = gI w 169 j := fun j => gI_cell (k1 169 (by omega)) j
  refine ⟨⟨s1, fun c h1 h2 => k1 c (by omega), ⟨h9 6, h9 8, h9 12, h9 15, h9 30, h9 0⟩, k1 171 (by omega)⟩, fun j => ?_⟩
  rw [g1]
  by_cases q : j = k
  · rw [if_pos ⟨rfl, q⟩, if_pos q]
  · rw [if_neg (fun z => q z.2), if_neg q]
theorem MW.rf (hs : Sh w) : MW w w := ⟨hs, fun _ _ => rfl⟩
theorem MW.tr (h1 : MW w w1) (h2 : MW w1 w2) : MW w w2 := ⟨h2.1, fun c hc => (h2.2 c hc).trans (h1.2 c hc)⟩
theorem MW.g (h : MW w w2) {a : Nat} (ha : a ≠ 170) (j : Nat) : gI w2 a j = gI w a j := gI_cell (h.2 a ha) j
theorem MW.mg (h : MW w w2) : MG w w2 := ⟨h.1, fun c h1 _ => h.2 c (by omega), ⟨h.g (by decide) 6, h.g (by decide) 8, h.g (by decide) 12, h.g (by decide) 15, h.g (by decide) 30, h.g (by decide) 0⟩, h.2 171 (by decide)⟩
theorem MW.put {k : Nat} {z : Int} (hs : Sh w) (e : w2 = sI w 170 k z) (hz : bd z) : MW w w2 ∧ ∀ j, gI w2 170 j = if j = k then z else gI w 170 j := by
  obtain ⟨s1, g1, -, k1⟩ := stI e hs (by omega) (slt_a tbC_170) hz
  exact ⟨⟨s1, k1⟩, (MG.put hs e hz).2⟩
theorem MR.sto {k : Nat} {z : Int} (hs : Sh w) (hM : MR w m) (e : w2 = sI w 170 k z) (hz : bd z) (hok : RowOK (mset m k z)) : MG w w2 ∧ MR w2 (mset m k z) := by
  obtain ⟨G, g⟩ := MG.put hs e hz
  refine ⟨G, hok, fun j hj => ?_⟩
  rw [g, hM.2 j hj]
  rfl
/-- what lies aside -/
def AS (w : PW) (m : Row) : Prop := ∀ j, j < 843 → gI w 171 j = m j
theorem AS.mg (h : AS w m) (G : MG w w2) : AS w2 m := fun j hj => by rw [gI_cell G.2.2.2]; exact h j hj
theorem l219_2 {w : PW} {Q : PO → PW → Prop} {m : Row} (hs : Sh w) (hM : MR w m) (h : ∀ w2, MqF w w2 → gI w2 169 0 = gI w 169 0 → AS w2 m → Q (.inl none) w2) : ∀ k i : Nat, i + k = 843 → ∀ w1, MqF w w1 → gI w1 169 0 = gI w 169 0 → (∀ j, j < i → gI w1 171 j = m j) → pX 219 2 [some (.ref 169), some (iv (i : Nat))] [] w1 Q := by
  intro k
  induction k with
  | zero =>
    intro i hi w1 F1 t1 hA
    have e : i = 843 := by omega
    subst e
    exact v219_2 F1.1 (bdk (by omega)) ⟨fun _ => h w1 F1 t1 hA, fun q => by omega⟩
  | succ k ih =>
    intro i hi w1 F1 t1 hA
    refine v219_2 F1.1 (bdk (by omega)) ⟨fun q => by omega, fun _ => ⟨⟨by omega, by omega⟩, ⟨by omega, by omega⟩, fun w2 e2 => ?_⟩⟩
    rw [Int.toNat_natCast, (F1.mr hM).2 i (by omega)] at e2
    obtain ⟨s2, g2, -, k2⟩ := stI e2 F1.1 (by omega) (slt_a tbC_171) (by rw [← (F1.mr hM).2 i (by omega)]; exact bd_gI _ _ _)
    have h9 : ∀ j, gI w2 169 j = gI w1 169 j := fun j => gI_cell (k2 169 (by omega)) j
    refine ih (i + 1) (by omega) w2 (F1.tr ⟨s2, fun c h1 h2 => k2 c (by omega), fun j _ => gI_cell (k2 170 (by omega)) j, h9 6, h9 8, h9 12, h9 15, h9 30⟩) ((h9 0).trans t1) (fun j hj => ?_)
    rw [g2]
    by_cases q : j = i
    · rw [if_pos ⟨rfl, q⟩, q]
    · rw [if_neg (fun z => q z.2)]
      exact hA j (by omega)
theorem l241_2 {w : PW} {Q : PO → PW → Prop} {m : Row} {x1 : Int} (hs : Sh w) (hx1 : bd x1) (hA : AS w m) (hok : RowOK m) (h : ∀ w2, MG w w2 → MR w2 m → Q (.inl (some (iv x1))) w2) : ∀ k i : Nat, i + k = 843 → ∀ w1, MG w w1 → (∀ j, j < i → gI w1 170 j = m j) → pX 241 2 [some (.ref 169), some (iv x1), some (iv (i : Nat))] [] w1 Q := by
  intro k
  induction k with
  | zero =>
    intro i hi w1 G1 hR
    have e : i = 843 := by omega
    subst e
    exact v241_2 G1.1 hx1 (bdk (by omega)) ⟨fun _ => h w1 G1 ⟨hok, hR⟩, fun q => by omega⟩
  | succ k ih =>
    intro i hi w1 G1 hR
    refine v241_2 G1.1 hx1 (bdk (by omega)) ⟨fun q => by omega, fun _ => ⟨⟨by omega, by omega⟩, ⟨by omega, by omega⟩, fun w2 e2 => ?_⟩⟩
    rw [Int.toNat_natCast, (hA.mg G1) i (by omega)] at e2
    obtain ⟨G2, g2⟩ := MG.put G1.1 e2 (by rw [← (hA.mg G1) i (by omega)]; exact bd_gI _ _ _)
    refine ih (i + 1) (by omega) w2 (G1.tr G2) (fun j hj => ?_)
    rw [g2]
    by_cases q : j = i
    · rw [if_pos q, q]
    · rw [if_neg q]
      exact hR j (by omega)
theorem c219 (hs : Sh w) (hM : MR w m) (h : ∀ w2, MqF w w2 → gI w2 169 0 = gI w 169 0 → AS w2 m → Q (.inl none) w2) : pC 219 [.ref 169] w Q :=
  e219 hs (l219_2 hs hM h _ 0 (Nat.zero_add _) w (MqF.rf hs) rfl (fun j hj => absurd hj (Nat.not_lt_zero _)))
theorem c241 (hs : Sh w) (hx1 : bd x1) (hA : AS w m) (hok : RowOK m) (h : ∀ w2, MG w w2 → MR w2 m → Q (.inl (some (iv x1))) w2) : pC 241 [.ref 169, iv x1] w Q :=
  e241 hs hx1 (l241_2 hs hx1 hA hok h _ 0 (Nat.zero_add _) w (MG.rf hs) (fun j hj => absurd hj (Nat.not_lt_zero _)))
theorem c231 {p r : Int} (hs : Sh w) (hM : MR w m) (h12 : m 4 < 12) (hp : 0 ≤ p ∧ p < 24) (hr : 1 ≤ r ∧ r ≤ 12) (h : ∀ w2, MW w w2 → MR w2 (rTooth m p r) → Q (.inl none) w2) : pC 231 [.ref 169, iv p, iv r] w Q := by
  have h4 := hM.ok.t
  obtain ⟨T, hT⟩ := nat_of h4.1
  refine e231 hs ⟨by omega, by omega⟩ ⟨by omega, by omega⟩ ?_
  rw [hM.g (k := 4) rfl, hT]
  refine ⟨⟨by omega, by omega⟩, fun w1 e1 => ⟨⟨by omega, by omega⟩, fun w2 e2 => ⟨⟨by omega, by omega⟩, fun w3 e3 => ⟨⟨by omega, by omega⟩, fun w4 e4 => ⟨⟨by omega, by omega⟩, fun w5 e5 w6 e6 => ?_⟩⟩⟩⟩⟩
  rw [show ((11 + 5 * (T : Int)) + 0).toNat = 11 + 5 * T from by omega] at e1
  rw [show ((11 + 5 * (T : Int)) + 1).toNat = 11 + 5 * T + 1 from by omega] at e2
  rw [show ((11 + 5 * (T : Int)) + 2).toNat = 11 + 5 * T + 2 from by omega] at e3
  rw [show ((11 + 5 * (T : Int)) + 3).toNat = 11 + 5 * T + 3 from by omega] at e4
  rw [show ((11 + 5 * (T : Int)) + 4).toNat = 11 + 5 * T + 4 from by omega] at e5
  obtain ⟨G1, g1⟩ := MW.put hs e1 ⟨by omega, by omega⟩
  obtain ⟨G2, g2⟩ := MW.put G1.1 e2 ⟨by omega, by omega⟩
  obtain ⟨G3, g3⟩ := MW.put G2.1 e3 bd0
  obtain ⟨G4, g4⟩ := MW.put G3.1 e4 bd0
  obtain ⟨G5, g5⟩ := MW.put G4.1 e5 ⟨by decide, by decide⟩
  have e4' : gI w5 170 4 = (T : Int) := by
    rw [g5, if_neg (by omega), g4, if_neg (by omega), g3, if_neg (by omega), g2, if_neg (by omega), g1, if_neg (by omega), hM.g (k := 4) rfl, hT]
  rw [e4'] at e6
  obtain ⟨G6, g6⟩ := MW.put G5.1 e6 ⟨by omega, by omega⟩
  refine h w6 (G1.tr (G2.tr (G3.tr (G4.tr (G5.tr G6))))) ⟨rTooth_ok hM.ok h12 hp hr, fun j hj => ?_⟩
  have hTT : (m 4).toNat = T := by omega
  have hj2 := hM.2 j hj
  rw [g6, g5, g4, g3, g2, g1, hj2]
  unfold rTooth
  rw [hTT]
  by_cases q4 : j = 4
  · rw [if_pos q4, if_pos q4, hT]
  · rw [if_neg q4, if_neg q4]
    by_cases q0 : j = 11 + 5 * T
    · rw [if_neg (by omega), if_neg (by omega), if_neg (by omega), if_neg (by omega), if_pos q0, if_pos q0]
    · by_cases q1 : j = 11 + 5 * T + 1
      · rw [if_neg (by omega), if_neg (by omega), if_neg (by omega), if_pos q1, if_neg q0, if_pos q1]
      · by_cases q2 : j = 11 + 5 * T + 2
        · rw [if_neg (by omega), if_neg (by omega), if_pos q2, if_neg q0, if_neg q1, if_pos q2]
        · by_cases q3 : j = 11 + 5 * T + 3
          · rw [if_neg (by omega), if_pos q3, if_neg q0, if_neg q1, if_neg q2, if_pos q3]
          · by_cases q5 : j = 11 + 5 * T + 4
            · rw [if_pos q5, if_neg q0, if_neg q1, if_neg q2, if_neg q3, if_pos q5]
            · rw [if_neg q5, if_neg q3, if_neg q2, if_neg q1, if_neg q0, if_neg q0, if_neg q1, if_neg q2, if_neg q3, if_neg q5]
theorem moJ {z : Int} (h : ∀ w3, MqF w2 w3 → gI w3 169 0 = moE (rI z) → Q (moV (rI z)) w3) (g2 : gI w2 169 0 = 0) : ∀ w3, MqF w2 w3 → gI w3 169 0 = gI w2 169 0 → Q (.inl (some (iv z))) w3 := fun w3 F3 e => h w3 F3 (e.trans g2)
theorem sFast_bd (m : Row) (u : Int) : ∀ v, -1 ≤ sFast m u v ∧ sFast m u v ≤ v := by
  intro v
  induction v with
  | zero => exact ⟨Int.le_refl _, by show (-1 : Int) ≤ 0; decide⟩
  | succ v ih =>
    unfold sFast
    split <;> omega
theorem l304_22 {w : PW} {Q : PO → PW → Prop} {u : Nat} {m : Row} (hs : Sh w) (hM : MR w m) (hu : (u : Int) < m 1) (h : ∀ w2, MF w w2 → Q (.inl (some (iv (sFast m u 4)))) w2) : ∀ k i : Nat, i + k = 4 → ∀ w1, MG w w1 → (∃ z, MR w1 (mset m 3 z)) → pX 304 22 [some (.ref 169), some (iv (u : Nat)), some (iv (m 3)), some (iv (sFast m u i)), some (iv ((i : Int) + 1))] [] w1 Q := by
  have h1 := hM.ok.u
  have h3 := hM.ok.v
  intro k
  induction k with
  | zero =>
    intro i hi w1 G1 hz
    have hb := sFast_bd m u i
    obtain ⟨z, hz⟩ := hz
    have e : i = 4 := by omega
    subst e
    refine v304_22 G1.1 (bdk (by omega)) ⟨by omega, by omega⟩ ⟨by omega, by omega⟩ ⟨by omega, by omega⟩ ⟨fun _ w2 e2 => ?_, fun q => by omega⟩
    have em : mset (mset m 3 z) 3 (m 3) = m := by
      rw [mset_mset]
      funext j
      unfold mset
      split
      · rename_i e; rw [e]
      · rfl
    obtain ⟨G2, M2⟩ := MR.sto G1.1 hz e2 ⟨by omega, by omega⟩ (by rw [em]; exact hM.ok)
    rw [em] at M2
    exact h w2 ((G1.tr G2).fin hM M2)
  | succ k ih =>
    intro i hi w1 G1 hz
    have hb := sFast_bd m u i
    obtain ⟨z, hz⟩ := hz
    refine v304_22 G1.1 (bdk (by omega)) ⟨by omega, by omega⟩ ⟨by omega, by omega⟩ ⟨by omega, by omega⟩ ⟨fun q => by omega, fun _ w3 e3 => ?_⟩
    have hok : RowOK (mset (mset m 3 z) 3 ((i + 1 : Nat) : Int)) := mset_ok hz.ok (Or.inr (Or.inl ⟨rfl, by omega, by omega⟩))
    obtain ⟨G3, M3⟩ := MR.sto G1.1 hz e3 ⟨by omega, by omega⟩ hok
    have em : mset (mset m 3 z) 3 ((i : Int) + 1) = mset m 3 ((i + 1 : Nat) : Int) := mset_mset
    rw [em] at M3
    have hu2 : (u : Int) < mset m 3 ((i + 1 : Nat) : Int) 1 := by rw [mset_ne (by decide)]; exact hu
    refine c299 G3.1 M3 hu2 (fun w4 F4 hK => kI_iv (sSeek_b _ u (-1)) ⟨F4.1, fun q => ?_, fun q => ?_⟩)
    · have e : sFast m u (i + 1) = sFast m u i := if_neg q
      have := ih (i + 1) (by omega) w4 (G1.tr (G3.tr F4.mg)) ⟨_, F4.mr M3⟩
      rw [e] at this
      exact this
    · have e : sFast m u (i + 1) = ((i + 1 : Nat) : Int) := if_pos q
      have := ih (i + 1) (by omega) w4 (G1.tr (G3.tr F4.mg)) ⟨_, F4.mr M3⟩
      rw [e] at this
      exact this
theorem l305_23 {w : PW} {Q : PO → PW → Prop} {u : Nat} {m : Row} (hs : Sh w) (hM : MR w m) (hu : (u : Int) < m 1) (h : ∀ w2, MF w w2 → Q (.inl (some (iv (if fnd (fun t => decide ((sSeek m u (t : Nat)).1 ≠ 1)) (m 4).toNat < (m 4).toNat then (fnd (fun t => decide ((sSeek m u (t : Nat)).1 ≠ 1)) (m 4).toNat : Int) else -1)))) w2) : ∀ k i : Nat, i + k = (m 4).toNat → ∀ w1, MF w w1 → (∀ j, j < i → (sSeek m u (j : Nat)).1 = 1) → pX 305 23 [some (.ref 169), some (iv (u : Nat)), some (iv (i : Nat))] [] w1 Q := by
  have h1 := hM.ok.u
  have h4 := hM.ok.t
  intro k
  induction k with
  | zero =>
    intro i hi w1 F1 hI
    refine v305_23 F1.1 (bdk (by omega)) (bdk (by omega)) ?_
    rw [(F1.mr hM).g (k := 4) rfl]
    refine ⟨fun _ => ?_, fun q => by omega⟩
    have e : fnd (fun t => decide ((sSeek m u (t : Nat)).1 ≠ 1)) (m 4).toNat = i := fnd_eq (fun j hj => decide_eq_false (fun z => z (hI j hj))) (fun q => absurd q (by omega)) (by omega)
    have := h w1 F1
    rw [e, if_neg (by omega)] at this
    exact this
  | succ k ih =>
    intro i hi w1 F1 hI
    refine v305_23 F1.1 (bdk (by omega)) (bdk (by omega)) ?_
    rw [(F1.mr hM).g (k := 4) rfl]
    refine ⟨fun q => by omega, fun _ => c298 F1.1 (F1.mr hM) hu (bdk (by omega)) (fun w2 F2 hK => kI_iv (sSeek_b m u i) ⟨F2.1, fun q => ?_, fun q => ?_⟩)⟩
    · exact ih (i + 1) (by omega) w2 (F1.tr F2) (fun j hj => by
        by_cases e : j = i
        · rw [e]; exact q
        · exact hI j (by omega))
    · have e : fnd (fun t => decide ((sSeek m u (t : Nat)).1 ≠ 1)) (m 4).toNat = i := fnd_eq (fun j hj => decide_eq_false (fun z => z (hI j hj))) (fun _ => decide_eq_true q) (by omega)
      have := h w2 (F1.tr F2)
      rw [e, if_pos (by omega)] at this
      exact this
theorem rTooth_set {z p : Int} : mset (rTooth m z 1) (11 + 5 * (m 4).toNat) p = rTooth m p 1 := by
  funext j
  unfold mset
  by_cases q : j = 11 + 5 * (m 4).toNat
  · rw [if_pos q, q]
    exact rTooth_new.1.symm
  · rw [if_neg q]
    unfold rTooth
    rw [if_neg q, if_neg q]
theorem l306_35 {w : PW} {Q : PO → PW → Prop} {u : Nat} {m : Row} (hs : Sh w) (hok : RowOK m) (h12 : m 4 < 12) (hu : (u : Int) < m 1) (h : ∀ w2, MG w w2 → MR w2 m → Q (.inl (some (iv (if fnd (fun p => decide ((sSeek (rTooth m (p : Nat) 1) u (-1)).1 = 1)) 24 < 24 then (fnd (fun p => decide ((sSeek (rTooth m (p : Nat) 1) u (-1)).1 = 1)) 24 : Int) else -1)))) w2) : ∀ k i : Nat, i + k = 24 → ∀ w1, MG w w1 → AS w1 m → (∃ z, MR w1 (rTooth m z 1)) → (∀ j, j < i → ¬ (sSeek (rTooth m (j : Nat) 1) u (-1)).1 = 1) → pX 306 35 [some (.ref 169), some (iv (u : Nat)), some (iv (i : Nat))] [] w1 Q := by
  have h1 := hok.u
  have h4 := hok.t
  intro k
  induction k with
  | zero =>
    intro i hi w1 G1 hA hz hI
    have ei : i = 24 := by omega
    refine v306_35 G1.1 (bdk (by omega)) (bdk (by omega)) ⟨fun _ => c241 G1.1 (by decide) hA hok (fun w2 G2 M2 => kI_iv (by decide) ⟨G2.1, ?_⟩), fun q => by omega⟩
    have e : fnd (fun p => decide ((sSeek (rTooth m (p : Nat) 1) u (-1)).1 = 1)) 24 = i := fnd_eq (fun j hj => decide_eq_false (hI j hj)) (fun q => absurd q (by omega)) (by omega)
    have := h w2 (G1.tr G2) M2
    rw [e, if_neg (by omega)] at this
    exact this
  | succ k ih =>
    intro i hi w1 G1 hA hz hI
    obtain ⟨z, hz⟩ := hz
    have e4 : gI w1 170 4 = m 4 + 1 := by rw [hz.g (k := 4) rfl, rTooth_4]
    refine v306_35 G1.1 (bdk (by omega)) (bdk (by omega)) ⟨fun q => by omega, fun _ => ?_⟩
    rw [e4, show ((11 + 5 * (m 4 + 1 - 1)) + 0).toNat = 11 + 5 * (m 4).toNat from by omega]
    refine ⟨⟨by omega, by omega⟩, ⟨by omega, by omega⟩, fun w4 e4 => ?_⟩
    obtain ⟨G4, M4⟩ := MR.sto G1.1 hz e4 (bdk (by omega)) (by rw [rTooth_set]; exact rTooth_ok hok h12 ⟨by omega, by omega⟩ (by decide))
    rw [rTooth_set] at M4
    refine c299 G4.1 M4 (by rw [rTooth_lo (by decide) (by decide)]; exact hu) (fun w5 F5 hK => kI_iv (sSeek_b _ u (-1)) ⟨F5.1, fun q => ?_, fun q => ?_⟩)
    · exact ih (i + 1) (by omega) w5 (G1.tr (G4.tr F5.mg)) ((hA.mg G4).mg F5.mg) ⟨_, F5.mr M4⟩ (fun j hj => by
        by_cases e : j = i
        · rw [e]; exact q
        · exact hI j (by omega))
    · refine c241 F5.1 (bdk (by omega)) ((hA.mg G4).mg F5.mg) hok (fun w8 G8 M8 => kI_iv (bdk (by omega)) ⟨G8.1, ?_⟩)
      have e : fnd (fun p => decide ((sSeek (rTooth m (p : Nat) 1) u (-1)).1 = 1)) 24 = i := fnd_eq (fun j hj => decide_eq_false (hI j hj)) (fun _ => decide_eq_true q) (by omega)
      have := h w8 (G1.tr (G4.tr (F5.mg.tr G8))) M8
      rw [e, if_pos (by omega)] at this
      exact this
theorem c304 (hs : Sh w) (hM : MR w m) (hx1 : bd x1) (h : ∀ w2, MqF w w2 → gI w2 169 0 = moE (sp136 m x1) → Q (moV (sp136 m x1)) w2) : pC 304 [.ref 169, iv x1] w Q := by
  have h1 := hM.ok.u
  refine e304 hs hx1 ?_
  rw [hM.g (k := 1) rfl]
  refine ⟨⟨by omega, by omega⟩, fun q w2 e2 => ?_, (moG hs (by decide) h).2⟩
  obtain ⟨F2, g2, h2⟩ := (moG hs (by decide) h).1 q w2 e2
  have hM2 := F2.mr hM
  obtain ⟨u, rfl⟩ := nat_of q.1
  rw [hM2.g (k := 3) rfl]
  have em : mset m 3 (m 3) = m := by
    funext j
    unfold mset
    split
    · rename_i e; rw [e]
    · rfl
  exact l304_22 F2.1 hM2 q.2 (moI h2 g2) 4 0 rfl w2 (MG.rf F2.1) ⟨m 3, by rw [em]; exact hM2⟩
theorem c305 (hs : Sh w) (hM : MR w m) (hx1 : bd x1) (h : ∀ w2, MqF w w2 → gI w2 169 0 = moE (sp138 m x1) → Q (moV (sp138 m x1)) w2) : pC 305 [.ref 169, iv x1] w Q := by
  have h1 := hM.ok.u
  refine e305 hs hx1 ?_
  rw [hM.g (k := 1) rfl]
  refine ⟨⟨by omega, by omega⟩, fun q w2 e2 => ?_, (moG hs (by decide) h).2⟩
  obtain ⟨F2, g2, h2⟩ := (moG hs (by decide) h).1 q w2 e2
  have hM2 := F2.mr hM
  have h3 := moI h2 g2
  obtain ⟨u, rfl⟩ := nat_of q.1
  refine c299 F2.1 hM2 q.2 (fun w3 F3 hK => kI_iv (sSeek_b m u (-1)) ⟨F3.1, fun q4 => ?_, fun q4 => ?_⟩)
  · exact l305_23 F3.1 (F3.mr hM2) q.2 (fun w4 F4 => by
      have := h3 w4 (F3.tr F4)
      rw [if_pos q4, sNeed_eq hM.ok q4 (fun k hk => (hK.2.2.2 q4 k hk).2)] at this
      exact this) _ 0 (Nat.zero_add _) w3 (MF.rf F3.1) (fun j hj => absurd hj (Nat.not_lt_zero _))
  · have := h3 w3 F3
    rw [if_neg q4] at this
    exact this
theorem c306 (hs : Sh w) (hM : MR w m) (hx1 : bd x1) (h : ∀ w2, MqF w w2 → gI w2 169 0 = moE (sp141 m x1) → Q (moV (sp141 m x1)) w2) : pC 306 [.ref 169, iv x1] w Q := by
  have h1 := hM.ok.u
  have h4 := hM.ok.t
  refine e306 hs hx1 ?_
  rw [hM.g (k := 1) rfl]
  refine ⟨⟨by omega, by omega⟩, fun q w2 e2 => ?_, (moG hs (by decide) h).2⟩
  obtain ⟨F2, g2, h2⟩ := (moG hs (by decide) h).1 q w2 e2
  have hM2 := F2.mr hM
  have h3 := moJ h2 g2
  obtain ⟨u, rfl⟩ := nat_of q.1
  rw [hM2.g (k := 4) rfl]
  refine ⟨fun q4 => c219 F2.1 hM2 (fun w3 F3 t3 hA => ⟨F3.1, c231 F3.1 (F3.mr hM2) (by omega) (by decide) (by decide) (fun w5 G5 M5 => ⟨G5.1, ?_⟩)⟩), fun q4 => ?_⟩
  · refine l306_35 G5.1 hM.ok (by omega) q.2 (fun w9 G9 M9 => ?_) _ 0 (Nat.zero_add _) w5 (MG.rf G5.1) (hA.mg G5.mg) ⟨0, M5⟩ (fun j hj => absurd hj (Nat.not_lt_zero _))
    have F9 := (G5.mg.tr G9).fin (F3.mr hM2) M9
    have := h3 w9 (F3.tr F9.2.1) (F9.2.2.1.trans t3)
    rw [if_pos (by omega), sWant_eq hM.ok (by omega)] at this
    exact this
  · have := h3 w2 (MqF.rf F2.1) rfl
    rw [if_neg (by omega)] at this
    exact this
end MRW
