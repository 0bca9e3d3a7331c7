/-! THE MODEL's ACTIONS -/
/-! 234: PinBarrelModel.comesNote(III)V -/
theorem b234 : mB 234 = cX9_comesNote := rfl
theorem r234 : mR 234 = none := rfl
theorem p234 (a b : Nat) : phi 234 a ≤ phi 234 b := Nat.le_refl 0
theorem d234_0 : decode cX9_comesNote 0 = .ok (.aload_n 0, 1) := by decide +kernel
theorem d234_1 : decode cX9_comesNote 1 = .ok (.getfield 9, 3) := by decide +kernel
theorem d234_4 : decode cX9_comesNote 4 = .ok (.iconst 5, 1) := by decide +kernel
theorem d234_5 : decode cX9_comesNote 5 = .ok (.iaload, 1) := by decide +kernel
theorem d234_6 : decode cX9_comesNote 6 = .ok (.istore 4, 2) := by decide +kernel
theorem d234_8 : decode cX9_comesNote 8 = .ok (.aload_n 0, 1) := by decide +kernel
theorem d234_9 : decode cX9_comesNote 9 = .ok (.getfield 9, 3) := by decide +kernel
theorem d234_12 : decode cX9_comesNote 12 = .ok (.iload 4, 2) := by decide +kernel
theorem d234_14 : decode cX9_comesNote 14 = .ok (.iconst 0, 1) := by decide +kernel
theorem d234_15 : decode cX9_comesNote 15 = .ok (.invokestatic 210, 3) := by decide +kernel
theorem d234_18 : decode cX9_comesNote 18 = .ok (.iload_n 1, 1) := by decide +kernel
theorem d234_19 : decode cX9_comesNote 19 = .ok (.iastore, 1) := by decide +kernel
theorem d234_20 : decode cX9_comesNote 20 = .ok (.aload_n 0, 1) := by decide +kernel
theorem d234_21 : decode cX9_comesNote 21 = .ok (.getfield 9, 3) := by decide +kernel
theorem d234_24 : decode cX9_comesNote 24 = .ok (.iload 4, 2) := by decide +kernel
theorem d234_26 : decode cX9_comesNote 26 = .ok (.iconst 1, 1) := by decide +kernel
theorem d234_27 : decode cX9_comesNote 27 = .ok (.invokestatic 210, 3) := by decide +kernel
theorem d234_30 : decode cX9_comesNote 30 = .ok (.iload_n 2, 1) := by decide +kernel
theorem d234_31 : decode cX9_comesNote 31 = .ok (.iastore, 1) := by decide +kernel
theorem d234_32 : decode cX9_comesNote 32 = .ok (.aload_n 0, 1) := by decide +kernel
theorem d234_33 : decode cX9_comesNote 33 = .ok (.getfield 9, 3) := by decide +kernel
theorem d234_36 : decode cX9_comesNote 36 = .ok (.iload 4, 2) := by decide +kernel
theorem d234_38 : decode cX9_comesNote 38 = .ok (.iconst 2, 1) := by decide +kernel
theorem d234_39 : decode cX9_comesNote 39 = .ok (.invokestatic 210, 3) := by decide +kernel
theorem d234_42 : decode cX9_comesNote 42 = .ok (.iload_n 3, 1) := by decide +kernel
theorem d234_43 : decode cX9_comesNote 43 = .ok (.iastore, 1) := by decide +kernel
theorem d234_44 : decode cX9_comesNote 44 = .ok (.aload_n 0, 1) := by decide +kernel
theorem d234_45 : decode cX9_comesNote 45 = .ok (.getfield 9, 3) := by decide +kernel
theorem d234_48 : decode cX9_comesNote 48 = .ok (.iconst 5, 1) := by decide +kernel
theorem d234_49 : decode cX9_comesNote 49 = .ok (.dup2, 1) := by decide +kernel
theorem d234_50 : decode cX9_comesNote 50 = .ok (.iaload, 1) := by decide +kernel
theorem d234_51 : decode cX9_comesNote 51 = .ok (.iconst 1, 1) := by decide +kernel
theorem d234_52 : decode cX9_comesNote 52 = .ok (.iadd, 1) := by decide +kernel
theorem d234_53 : decode cX9_comesNote 53 = .ok (.iastore, 1) := by decide +kernel
theorem d234_54 : decode cX9_comesNote 54 = .ok (.return_, 1) := by decide +kernel
theorem v234_0 {w : PW} {Q : PO → PW → Prop} {x1 : Int} {x2 : Int} {x3 : Int} (hs : Sh w) (hx1 : bd x1) (hx2 : bd x2) (hx3 : bd x3) (h : (0 ≤ ((71 + 3 * (gI w 170 5)) + 0) ∧ ((71 + 3 * (gI w 170 5)) + 0) < 843) ∧ ∀ w1 : PW, w1 = sI w 170 ((71 + 3 * (gI w 170 5)) + 0).toNat x1 → (0 ≤ ((71 + 3 * (gI w 170 5)) + 1) ∧ ((71 + 3 * (gI w 170 5)) + 1) < 843) ∧ ∀ w2 : PW, w2 = sI w1 170 ((71 + 3 * (gI w 170 5)) + 1).toNat x2 → (0 ≤ ((71 + 3 * (gI w 170 5)) + 2) ∧ ((71 + 3 * (gI w 170 5)) + 2) < 843) ∧ ∀ w3 : PW, w3 = sI w2 170 ((71 + 3 * (gI w 170 5)) + 2).toNat x3 → ∀ w4 : PW, w4 = sI w3 170 5 ((gI w3 170 5) + 1) → Q (.inl none) w4) : pX 234 0 [some (.ref 169), some (iv x1), some (iv x2), some (iv x3), none] [] w Q :=
  w_f b234 d234_0 rfl rfl rfl <| w_gr b234 d234_1 rfl rfl hs (tlt 169 rfl) tbC_169 rfl (by decide) <| w_f b234 d234_4 rfl rfl rfl <| w_ial b234 d234_5 rfl hs (tlt 170 rfl) tbC_170 (bdix (n := 843) ⟨by decide, by decide⟩ rfl) ⟨by decide, by decide⟩ <| w_f b234 d234_6 rfl rfl rfl <| w_f b234 d234_8 rfl rfl rfl <| w_gr b234 d234_9 rfl rfl hs (tlt 169 rfl) tbC_169 rfl (by decide) <| w_f b234 d234_12 rfl rfl rfl <| w_f b234 d234_14 rfl rfl rfl <| w_cc b234 d234_15 rfl (pcl_s1 (n := 2) rfl rfl rfl (by decide +kernel) rfl rfl) rfl <| c233 hs (bd_gI _ _ _) ⟨by decide, by decide⟩ <| w_f b234 d234_18 rfl rfl rfl <| w_ias b234 d234_19 rfl hs (tlt 170 rfl) tbC_170 (bdix (n := 843) h.1 rfl) h.1 <| w_f b234 d234_20 rfl rfl rfl <| w_gr b234 d234_21 rfl rfl (Sh_sI hs (slt_a tbC_170)) (tlt 169 rfl) tbC_169 rfl (by decide) <| w_f b234 d234_24 rfl rfl rfl <| w_f b234 d234_26 rfl rfl rfl <| w_cc b234 d234_27 rfl (pcl_s1 (n := 2) rfl rfl rfl (by decide +kernel) rfl rfl) rfl <| c233 (Sh_sI hs (slt_a tbC_170)) (bd_gI _ _ _) ⟨by decide, by decide⟩ <| w_f b234 d234_30 rfl rfl rfl <| w_ias b234 d234_31 rfl (Sh_sI hs (slt_a tbC_170)) (tlt 170 rfl) tbC_170 (bdix (n := 843) (h.2 _ rfl).1 rfl) (h.2 _ rfl).1 <| w_f b234 d234_32 rfl rfl rfl <| w_gr b234 d234_33 rfl rfl (Sh_sI (Sh_sI hs (slt_a tbC_170)) (slt_a tbC_170)) (tlt 169 rfl) tbC_169 rfl (by decide) <| w_f b234 d234_36 rfl rfl rfl <| w_f b234 d234_38 rfl rfl rfl <| w_cc b234 d234_39 rfl (pcl_s1 (n := 2) rfl rfl rfl (by decide +kernel) rfl rfl) rfl <| c233 (Sh_sI (Sh_sI hs (slt_a tbC_170)) (slt_a tbC_170)) (bd_gI _ _ _) ⟨by decide, by decide⟩ <| w_f b234 d234_42 rfl rfl rfl <| w_ias b234 d234_43 rfl (Sh_sI (Sh_sI hs (slt_a tbC_170)) (slt_a tbC_170)) (tlt 170 rfl) tbC_170 (bdix (n := 843) ((h.2 _ rfl).2 _ rfl).1 rfl) ((h.2 _ rfl).2 _ rfl).1 <| w_f b234 d234_44 rfl rfl rfl <| w_gr b234 d234_45 rfl rfl (Sh_sI (Sh_sI (Sh_sI hs (slt_a tbC_170)) (slt_a tbC_170)) (slt_a tbC_170)) (tlt 169 rfl) tbC_169 rfl (by decide) <| w_f b234 d234_48 rfl rfl rfl <| w_f b234 d234_49 rfl rfl rfl <| w_ial b234 d234_50 rfl (Sh_sI (Sh_sI (Sh_sI hs (slt_a tbC_170)) (slt_a tbC_170)) (slt_a tbC_170)) (tlt 170 rfl) tbC_170 (bdix (n := 843) ⟨by decide, by decide⟩ rfl) ⟨by decide, by decide⟩ <| w_f b234 d234_51 rfl rfl rfl <| w_f b234 d234_52 rfl (pf_iadd _ 1) rfl <| w_ias b234 d234_53 rfl (Sh_sI (Sh_sI (Sh_sI hs (slt_a tbC_170)) (slt_a tbC_170)) (slt_a tbC_170)) (tlt 170 rfl) tbC_170 (bdix (n := 843) ⟨by decide, by decide⟩ rfl) ⟨by decide, by decide⟩ <| w_rv b234 d234_54 r234 ((((h.2 _ rfl).2 _ rfl).2 _ rfl) _ rfl)
theorem e234 {w : PW} {Q : PO → PW → Prop} {x1 : Int} {x2 : Int} {x3 : Int} (hs : Sh w) (hx1 : bd x1) (hx2 : bd x2) (hx3 : bd x3) (h : (0 ≤ ((71 + 3 * (gI w 170 5)) + 0) ∧ ((71 + 3 * (gI w 170 5)) + 0) < 843) ∧ ∀ w1 : PW, w1 = sI w 170 ((71 + 3 * (gI w 170 5)) + 0).toNat x1 → (0 ≤ ((71 + 3 * (gI w 170 5)) + 1) ∧ ((71 + 3 * (gI w 170 5)) + 1) < 843) ∧ ∀ w2 : PW, w2 = sI w1 170 ((71 + 3 * (gI w 170 5)) + 1).toNat x2 → (0 ≤ ((71 + 3 * (gI w 170 5)) + 2) ∧ ((71 + 3 * (gI w 170 5)) + 2) < 843) ∧ ∀ w3 : PW, w3 = sI w2 170 ((71 + 3 * (gI w 170 5)) + 2).toNat x3 → ∀ w4 : PW, w4 = sI w3 170 5 ((gI w3 170 5) + 1) → Q (.inl none) w4) : pC 234 [.ref 169, iv x1, iv x2, iv x3] w Q :=
  (pC_in (Nat.le_of_ble_eq_true rfl) rfl Q).mpr (v234_0 hs hx1 hx2 hx3 h)
/-! 237: PinBarrelModel.pins(IIIZ)V -/
theorem b237 : mB 237 = cX9_pins := rfl
theorem r237 : mR 237 = none := rfl
theorem p237 (a b : Nat) : phi 237 a ≤ phi 237 b := Nat.le_refl 0
theorem d237_0 : decode cX9_pins 0 = .ok (.aload_n 0, 1) := by decide +kernel
theorem d237_1 : decode cX9_pins 1 = .ok (.getfield 9, 3) := by decide +kernel
theorem d237_4 : decode cX9_pins 4 = .ok (.iload_n 1, 1) := by decide +kernel
theorem d237_5 : decode cX9_pins 5 = .ok (.iload_n 2, 1) := by decide +kernel
theorem d237_6 : decode cX9_pins 6 = .ok (.invokestatic 213, 3) := by decide +kernel
theorem d237_9 : decode cX9_pins 9 = .ok (.iaload, 1) := by decide +kernel
theorem d237_10 : decode cX9_pins 10 = .ok (.istore 5, 2) := by decide +kernel
theorem d237_12 : decode cX9_pins 12 = .ok (.aload_n 0, 1) := by decide +kernel
theorem d237_13 : decode cX9_pins 13 = .ok (.getfield 9, 3) := by decide +kernel
theorem d237_16 : decode cX9_pins 16 = .ok (.iload_n 1, 1) := by decide +kernel
theorem d237_17 : decode cX9_pins 17 = .ok (.iload_n 2, 1) := by decide +kernel
theorem d237_18 : decode cX9_pins 18 = .ok (.invokestatic 213, 3) := by decide +kernel
theorem d237_21 : decode cX9_pins 21 = .ok (.iload 4, 2) := by decide +kernel
theorem d237_23 : decode cX9_pins 23 = .ok (.ifCond .eq 12, 3) := by decide +kernel
theorem d237_26 : decode cX9_pins 26 = .ok (.iload 5, 2) := by decide +kernel
theorem d237_28 : decode cX9_pins 28 = .ok (.iconst 1, 1) := by decide +kernel
theorem d237_29 : decode cX9_pins 29 = .ok (.iload_n 3, 1) := by decide +kernel
theorem d237_30 : decode cX9_pins 30 = .ok (.ishl, 1) := by decide +kernel
theorem d237_31 : decode cX9_pins 31 = .ok (.ior, 1) := by decide +kernel
theorem d237_32 : decode cX9_pins 32 = .ok (.goto 11, 3) := by decide +kernel
theorem d237_35 : decode cX9_pins 35 = .ok (.iload 5, 2) := by decide +kernel
theorem d237_37 : decode cX9_pins 37 = .ok (.iconst 1, 1) := by decide +kernel
theorem d237_38 : decode cX9_pins 38 = .ok (.iload_n 3, 1) := by decide +kernel
theorem d237_39 : decode cX9_pins 39 = .ok (.ishl, 1) := by decide +kernel
theorem d237_40 : decode cX9_pins 40 = .ok (.iconst (-1), 1) := by decide +kernel
theorem d237_41 : decode cX9_pins 41 = .ok (.ixor, 1) := by decide +kernel
theorem d237_42 : decode cX9_pins 42 = .ok (.iand, 1) := by decide +kernel
theorem d237_43 : decode cX9_pins 43 = .ok (.iastore, 1) := by decide +kernel
theorem d237_44 : decode cX9_pins 44 = .ok (.return_, 1) := by decide +kernel
theorem v237_0 {w : PW} {Q : PO → PW → Prop} {x1 : Int} {x2 : Int} {x3 : Int} {x4 : Int} (hs : Sh w) (hx1 : bd x1) (hx2 : bd x2) (hx3 : bd x3) (hx4 : bd x4) (h : (0 ≤ ((251 + 64 * x1) + x2) ∧ ((251 + 64 * x1) + x2) < 843) ∧ (x4 = 0 → (0 ≤ ((251 + 64 * x1) + x2) ∧ ((251 + 64 * x1) + x2) < 843) ∧ ∀ w2 : PW, w2 = sI w 170 ((251 + 64 * x1) + x2).toNat (iAnd (gI w 170 ((251 + 64 * x1) + x2).toNat) (iXor (iShl 1 x3) ((-1)))) → Q (.inl none) w2) ∧ (x4 ≠ 0 → (0 ≤ ((251 + 64 * x1) + x2) ∧ ((251 + 64 * x1) + x2) < 843) ∧ ∀ w3 : PW, w3 = sI w 170 ((251 + 64 * x1) + x2).toNat (iOr (gI w 170 ((251 + 64 * x1) + x2).toNat) (iShl 1 x3)) → Q (.inl none) w3)) : pX 237 0 [some (.ref 169), some (iv x1), some (iv x2), some (iv x3), some (iv x4), none] [] w Q :=
  w_f b237 d237_0 rfl rfl rfl <| w_gr b237 d237_1 rfl rfl hs (tlt 169 rfl) tbC_169 rfl (by decide) <| w_f b237 d237_4 rfl rfl rfl <| w_f b237 d237_5 rfl rfl rfl <| w_cc b237 d237_6 rfl (pcl_s1 (n := 2) rfl rfl rfl (by decide +kernel) rfl rfl) rfl <| c236 hs hx1 hx2 <| w_ial b237 d237_9 rfl hs (tlt 170 rfl) tbC_170 (bdix (n := 843) h.1 rfl) h.1 <| w_f b237 d237_10 rfl rfl rfl <| w_f b237 d237_12 rfl rfl rfl <| w_gr b237 d237_13 rfl rfl hs (tlt 169 rfl) tbC_169 rfl (by decide) <| w_f b237 d237_16 rfl rfl rfl <| w_f b237 d237_17 rfl rfl rfl <| w_cc b237 d237_18 rfl (pcl_s1 (n := 2) rfl rfl rfl (by decide +kernel) rfl rfl) rfl <| c236 hs hx1 hx2 <| w_f b237 d237_21 rfl rfl rfl <| w_ifeq b237 d237_23 rfl rfl (p237 _ _) hx4 (fun c1 => w_f b237 d237_35 rfl rfl rfl <| w_f b237 d237_37 rfl rfl rfl <| w_f b237 d237_38 rfl rfl rfl <| w_f b237 d237_39 rfl (pf_ishl 1 x3) rfl <| w_f b237 d237_40 rfl rfl rfl <| w_f b237 d237_41 rfl (pf_ixor (iShl 1 x3) ((-1))) rfl <| w_f b237 d237_42 rfl (pf_iand (gI w 170 ((251 + 64 * x1) + x2).toNat) (iXor (iShl 1 x3) ((-1)))) rfl <| w_ias b237 d237_43 rfl hs (tlt 170 rfl) tbC_170 (bdix (n := 843) (h.2.1 c1).1 rfl) (h.2.1 c1).1 <| w_rv b237 d237_44 r237 ((h.2.1 c1).2 _ rfl)) (fun c1 => w_f b237 d237_26 rfl rfl rfl <| w_f b237 d237_28 rfl rfl rfl <| w_f b237 d237_29 rfl rfl rfl <| w_f b237 d237_30 rfl (pf_ishl 1 x3) rfl <| w_f b237 d237_31 rfl (pf_ior (gI w 170 ((251 + 64 * x1) + x2).toNat) (iShl 1 x3)) rfl <| w_j b237 d237_32 rfl (p237 _ _) <| w_ias b237 d237_43 rfl hs (tlt 170 rfl) tbC_170 (bdix (n := 843) (h.2.2 c1).1 rfl) (h.2.2 c1).1 <| w_rv b237 d237_44 r237 ((h.2.2 c1).2 _ rfl))
theorem e237 {w : PW} {Q : PO → PW → Prop} {x1 : Int} {x2 : Int} {x3 : Int} {x4 : Int} (hs : Sh w) (hx1 : bd x1) (hx2 : bd x2) (hx3 : bd x3) (hx4 : bd x4) (h : (0 ≤ ((251 + 64 * x1) + x2) ∧ ((251 + 64 * x1) + x2) < 843) ∧ (x4 = 0 → (0 ≤ ((251 + 64 * x1) + x2) ∧ ((251 + 64 * x1) + x2) < 843) ∧ ∀ w2 : PW, w2 = sI w 170 ((251 + 64 * x1) + x2).toNat (iAnd (gI w 170 ((251 + 64 * x1) + x2).toNat) (iXor (iShl 1 x3) ((-1)))) → Q (.inl none) w2) ∧ (x4 ≠ 0 → (0 ≤ ((251 + 64 * x1) + x2) ∧ ((251 + 64 * x1) + x2) < 843) ∧ ∀ w3 : PW, w3 = sI w 170 ((251 + 64 * x1) + x2).toNat (iOr (gI w 170 ((251 + 64 * x1) + x2).toNat) (iShl 1 x3)) → Q (.inl none) w3)) : pC 237 [.ref 169, iv x1, iv x2, iv x3, iv x4] w Q :=
  (pC_in (Nat.le_of_ble_eq_true rfl) rfl Q).mpr (v237_0 hs hx1 hx2 hx3 hx4 h)
/-! 327: PinBarrelModel.addNote(III)I -/
theorem b327 : mB 327 = cX9_addNote := rfl
theorem r327 : mR 327 = (some .int) := rfl
theorem p327 (a b : Nat) : phi 327 a ≤ phi 327 b := Nat.le_refl 0
theorem d327_0 : decode cX9_addNote 0 = .ok (.aload_n 0, 1) := by decide +kernel
theorem d327_1 : decode cX9_addNote 1 = .ok (.aload_n 0, 1) := by decide +kernel
theorem d327_2 : decode cX9_addNote 2 = .ok (.iload_n 1, 1) := by decide +kernel
theorem d327_3 : decode cX9_addNote 3 = .ok (.invokevirtual 340, 3) := by decide +kernel
theorem d327_6 : decode cX9_addNote 6 = .ok (.ifCond .eq 18, 3) := by decide +kernel
theorem d327_9 : decode cX9_addNote 9 = .ok (.aload_n 0, 1) := by decide +kernel
theorem d327_10 : decode cX9_addNote 10 = .ok (.iload_n 2, 1) := by decide +kernel
theorem d327_11 : decode cX9_addNote 11 = .ok (.invokevirtual 371, 3) := by decide +kernel
theorem d327_14 : decode cX9_addNote 14 = .ok (.ifCond .eq 10, 3) := by decide +kernel
theorem d327_17 : decode cX9_addNote 17 = .ok (.iload_n 3, 1) := by decide +kernel
theorem d327_18 : decode cX9_addNote 18 = .ok (.invokestatic 396, 3) := by decide +kernel
theorem d327_21 : decode cX9_addNote 21 = .ok (.ifCond .ne 7, 3) := by decide +kernel
theorem d327_24 : decode cX9_addNote 24 = .ok (.iconst 1, 1) := by decide +kernel
theorem d327_25 : decode cX9_addNote 25 = .ok (.goto 4, 3) := by decide +kernel
theorem d327_28 : decode cX9_addNote 28 = .ok (.iconst 0, 1) := by decide +kernel
theorem d327_29 : decode cX9_addNote 29 = .ok (.invokevirtual 328, 3) := by decide +kernel
theorem d327_32 : decode cX9_addNote 32 = .ok (.ifCond .eq 5, 3) := by decide +kernel
theorem d327_35 : decode cX9_addNote 35 = .ok (.iconst 0, 1) := by decide +kernel
theorem d327_36 : decode cX9_addNote 36 = .ok (.ireturn, 1) := by decide +kernel
theorem d327_37 : decode cX9_addNote 37 = .ok (.aload_n 0, 1) := by decide +kernel
theorem d327_38 : decode cX9_addNote 38 = .ok (.getfield 9, 3) := by decide +kernel
theorem d327_41 : decode cX9_addNote 41 = .ok (.iconst 5, 1) := by decide +kernel
theorem d327_42 : decode cX9_addNote 42 = .ok (.iaload, 1) := by decide +kernel
theorem d327_43 : decode cX9_addNote 43 = .ok (.bipush 60, 2) := by decide +kernel
theorem d327_45 : decode cX9_addNote 45 = .ok (.if_icmp .ne 6, 3) := by decide +kernel
theorem d327_48 : decode cX9_addNote 48 = .ok (.bipush (-2), 2) := by decide +kernel
theorem d327_50 : decode cX9_addNote 50 = .ok (.ireturn, 1) := by decide +kernel
theorem d327_51 : decode cX9_addNote 51 = .ok (.aload_n 0, 1) := by decide +kernel
theorem d327_52 : decode cX9_addNote 52 = .ok (.invokevirtual 419, 3) := by decide +kernel
theorem d327_55 : decode cX9_addNote 55 = .ok (.aload_n 0, 1) := by decide +kernel
theorem d327_56 : decode cX9_addNote 56 = .ok (.iload_n 1, 1) := by decide +kernel
theorem d327_57 : decode cX9_addNote 57 = .ok (.iload_n 2, 1) := by decide +kernel
theorem d327_58 : decode cX9_addNote 58 = .ok (.iload_n 3, 1) := by decide +kernel
theorem d327_59 : decode cX9_addNote 59 = .ok (.invokevirtual 157, 3) := by decide +kernel
theorem d327_62 : decode cX9_addNote 62 = .ok (.aload_n 0, 1) := by decide +kernel
theorem d327_63 : decode cX9_addNote 63 = .ok (.getfield 9, 3) := by decide +kernel
theorem d327_66 : decode cX9_addNote 66 = .ok (.iconst 5, 1) := by decide +kernel
theorem d327_67 : decode cX9_addNote 67 = .ok (.iaload, 1) := by decide +kernel
theorem d327_68 : decode cX9_addNote 68 = .ok (.iconst 1, 1) := by decide +kernel
theorem d327_69 : decode cX9_addNote 69 = .ok (.isub, 1) := by decide +kernel
theorem d327_70 : decode cX9_addNote 70 = .ok (.ireturn, 1) := by decide +kernel
theorem v327_0 {w : PW} {Q : PO → PW → Prop} {x1 : Int} {x2 : Int} {x3 : Int} (hs : Sh w) (hx1 : bd x1) (hx2 : bd x2) (hx3 : bd x3) (h : (bd ((gI w 170 1) - 1)) ∧ ((¬ (0 ≤ x1 ∧ x1 < gI w 170 1)) → ∀ w2 : PW, w2 = sI w 169 0 1 → Q (.inl (some (iv 0))) w2) ∧ ((0 ≤ x1 ∧ x1 < gI w 170 1) → (bd ((gI w 170 0) - 1)) ∧ ((¬ (0 ≤ x2 ∧ x2 < gI w 170 0)) → ∀ w4 : PW, w4 = sI w 169 0 1 → Q (.inl (some (iv 0))) w4) ∧ ((0 ≤ x2 ∧ x2 < gI w 170 0) → ((0 ≤ x3 ∧ x3 ≤ 23) → ∀ w6 : PW, w6 = sI w 169 0 0 → ((gI w6 170 5) ≠ 60 → pC 326 [.ref 169] w6 (kV fun w8 => Sh w8 ∧ pC 234 [.ref 169, iv x1, iv x2, iv x3] w8 (kV fun w10 => Sh w10 ∧ Q (.inl (some (iv ((gI w10 170 5) - 1)))) w10))) ∧ ((gI w6 170 5) = 60 → Q (.inl (some (iv ((-2))))) w6)) ∧ ((¬ (0 ≤ x3 ∧ x3 ≤ 23)) → ∀ w12 : PW, w12 = sI w 169 0 1 → Q (.inl (some (iv 0))) w12)))) : pX 327 0 [some (.ref 169), some (iv x1), some (iv x2), some (iv x3)] [] w Q :=
  w_f b327 d327_0 rfl rfl rfl <| w_f b327 d327_1 rfl rfl rfl <| w_f b327 d327_2 rfl rfl rfl <| w_cc b327 d327_3 rfl (pcl_v (n := 1) rfl rfl rfl (by decide +kernel) (sh_isOb hs (tlt 169 rfl) tbC_169) rfl rfl) rfl <| c271 hs hx1 h.1 <| w_ifeqZ b327 d327_6 rfl rfl (p327 _ _) (fun c1 => w_f b327 d327_24 rfl rfl rfl <| w_j b327 d327_25 rfl (p327 _ _) <| w_cc b327 d327_29 rfl (pcl_v (n := 1) rfl rfl rfl (by decide +kernel) (sh_isOb hs (tlt 169 rfl) tbC_169) rfl rfl) rfl <| c245 hs ⟨by decide, by decide⟩ (by decide) <| w_ifeq b327 d327_32 rfl rfl (p327 _ _) ⟨by decide, by decide⟩ (fun c => absurd c (by decide)) (fun _ => w_f b327 d327_35 rfl rfl rfl <| w_ri b327 d327_36 r327 ((h.2.1 c1) _ rfl))) (fun c1 => w_f b327 d327_9 rfl rfl rfl <| w_f b327 d327_10 rfl rfl rfl <| w_cc b327 d327_11 rfl (pcl_v (n := 1) rfl rfl rfl (by decide +kernel) (sh_isOb hs (tlt 169 rfl) tbC_169) rfl rfl) rfl <| c272 hs hx2 (h.2.2 c1).1 <| w_ifeqZ b327 d327_14 rfl rfl (p327 _ _) (fun c3 => w_f b327 d327_24 rfl rfl rfl <| w_j b327 d327_25 rfl (p327 _ _) <| w_cc b327 d327_29 rfl (pcl_v (n := 1) rfl rfl rfl (by decide +kernel) (sh_isOb hs (tlt 169 rfl) tbC_169) rfl rfl) rfl <| c245 hs ⟨by decide, by decide⟩ (by decide) <| w_ifeq b327 d327_32 rfl rfl (p327 _ _) ⟨by decide, by decide⟩ (fun c => absurd c (by decide)) (fun _ => w_f b327 d327_35 rfl rfl rfl <| w_ri b327 d327_36 r327 (((h.2.2 c1).2.1 c3) _ rfl))) (fun c3 => w_f b327 d327_17 rfl rfl rfl <| w_cc b327 d327_18 rfl (pcl_s1 (n := 1) rfl rfl rfl (by decide +kernel) rfl rfl) rfl <| c309 hs hx3 <| w_ifneZ b327 d327_21 rfl rfl (p327 _ _) (fun c5 => w_f b327 d327_28 rfl rfl rfl <| w_cc b327 d327_29 rfl (pcl_v (n := 1) rfl rfl rfl (by decide +kernel) (sh_isOb hs (tlt 169 rfl) tbC_169) rfl rfl) rfl <| c245 hs ⟨by decide, by decide⟩ (by decide) <| w_ifeq b327 d327_32 rfl rfl (p327 _ _) ⟨by decide, by decide⟩ (fun _ => w_f b327 d327_37 rfl rfl rfl <| w_gr b327 d327_38 rfl rfl (Sh_sI hs (slt_o tbC_169 rfl)) (tlt 169 rfl) tbC_169 rfl (by decide) <| w_f b327 d327_41 rfl rfl rfl <| w_ial b327 d327_42 rfl (Sh_sI hs (slt_o tbC_169 rfl)) (tlt 170 rfl) tbC_170 (bdix (n := 843) ⟨by decide, by decide⟩ rfl) ⟨by decide, by decide⟩ <| w_f b327 d327_43 rfl rfl rfl <| w_icne b327 d327_45 rfl rfl (p327 _ _) (bd_gI _ _ _) ⟨by decide, by decide⟩ (fun c7 => w_f b327 d327_51 rfl rfl rfl <| w_c b327 d327_52 rfl (pcl_v (n := 0) rfl rfl rfl (by decide +kernel) (sh_isOb (Sh_sI hs (slt_o tbC_169 rfl)) (tlt 169 rfl) tbC_169) rfl rfl) rfl _ (hK_V fun w8 hkw8 => w_f b327 d327_55 rfl rfl rfl <| w_f b327 d327_56 rfl rfl rfl <| w_f b327 d327_57 rfl rfl rfl <| w_f b327 d327_58 rfl rfl rfl <| w_c b327 d327_59 rfl (pcl_v (n := 3) rfl rfl rfl (by decide +kernel) (sh_isOb hkw8.1 (tlt 169 rfl) tbC_169) rfl rfl) rfl _ (hK_V fun w10 hkw10 => w_f b327 d327_62 rfl rfl rfl <| w_gr b327 d327_63 rfl rfl hkw10.1 (tlt 169 rfl) tbC_169 rfl (by decide) <| w_f b327 d327_66 rfl rfl rfl <| w_ial b327 d327_67 rfl hkw10.1 (tlt 170 rfl) tbC_170 (bdix (n := 843) ⟨by decide, by decide⟩ rfl) ⟨by decide, by decide⟩ <| w_f b327 d327_68 rfl rfl rfl <| w_f b327 d327_69 rfl (pf_isub _ 1) rfl <| w_ri b327 d327_70 r327 hkw10.2) hkw8.2) (((((h.2.2 c1).2.2 c3).1 c5) _ rfl).1 c7)) (fun c7 => w_f b327 d327_48 rfl rfl rfl <| w_ri b327 d327_50 r327 (((((h.2.2 c1).2.2 c3).1 c5) _ rfl).2 c7))) (fun c => absurd c (by decide))) (fun c5 => w_f b327 d327_24 rfl rfl rfl <| w_j b327 d327_25 rfl (p327 _ _) <| w_cc b327 d327_29 rfl (pcl_v (n := 1) rfl rfl rfl (by decide +kernel) (sh_isOb hs (tlt 169 rfl) tbC_169) rfl rfl) rfl <| c245 hs ⟨by decide, by decide⟩ (by decide) <| w_ifeq b327 d327_32 rfl rfl (p327 _ _) ⟨by decide, by decide⟩ (fun c => absurd c (by decide)) (fun _ => w_f b327 d327_35 rfl rfl rfl <| w_ri b327 d327_36 r327 ((((h.2.2 c1).2.2 c3).2 c5) _ rfl)))))
theorem e327 {w : PW} {Q : PO → PW → Prop} {x1 : Int} {x2 : Int} {x3 : Int} (hs : Sh w) (hx1 : bd x1) (hx2 : bd x2) (hx3 : bd x3) (h : (bd ((gI w 170 1) - 1)) ∧ ((¬ (0 ≤ x1 ∧ x1 < gI w 170 1)) → ∀ w2 : PW, w2 = sI w 169 0 1 → Q (.inl (some (iv 0))) w2) ∧ ((0 ≤ x1 ∧ x1 < gI w 170 1) → (bd ((gI w 170 0) - 1)) ∧ ((¬ (0 ≤ x2 ∧ x2 < gI w 170 0)) → ∀ w4 : PW, w4 = sI w 169 0 1 → Q (.inl (some (iv 0))) w4) ∧ ((0 ≤ x2 ∧ x2 < gI w 170 0) → ((0 ≤ x3 ∧ x3 ≤ 23) → ∀ w6 : PW, w6 = sI w 169 0 0 → ((gI w6 170 5) ≠ 60 → pC 326 [.ref 169] w6 (kV fun w8 => Sh w8 ∧ pC 234 [.ref 169, iv x1, iv x2, iv x3] w8 (kV fun w10 => Sh w10 ∧ Q (.inl (some (iv ((gI w10 170 5) - 1)))) w10))) ∧ ((gI w6 170 5) = 60 → Q (.inl (some (iv ((-2))))) w6)) ∧ ((¬ (0 ≤ x3 ∧ x3 ≤ 23)) → ∀ w12 : PW, w12 = sI w 169 0 1 → Q (.inl (some (iv 0))) w12)))) : pC 327 [.ref 169, iv x1, iv x2, iv x3] w Q :=
  (pC_in (Nat.le_of_ble_eq_true rfl) rfl Q).mpr (v327_0 hs hx1 hx2 hx3 h)
/-! 328: PinBarrelModel.dropNote(I)I -/
theorem b328 : mB 328 = cX9_dropNote := rfl
theorem r328 : mR 328 = (some .int) := rfl
theorem p328 (a b : Nat) : phi 328 a ≤ phi 328 b := Nat.le_refl 0
theorem d328_0 : decode cX9_dropNote 0 = .ok (.aload_n 0, 1) := by decide +kernel
theorem d328_1 : decode cX9_dropNote 1 = .ok (.iload_n 1, 1) := by decide +kernel
theorem d328_2 : decode cX9_dropNote 2 = .ok (.invokevirtual 366, 3) := by decide +kernel
theorem d328_5 : decode cX9_dropNote 5 = .ok (.ifCond .eq 5, 3) := by decide +kernel
theorem d328_8 : decode cX9_dropNote 8 = .ok (.iconst 0, 1) := by decide +kernel
theorem d328_9 : decode cX9_dropNote 9 = .ok (.ireturn, 1) := by decide +kernel
theorem d328_10 : decode cX9_dropNote 10 = .ok (.aload_n 0, 1) := by decide +kernel
theorem d328_11 : decode cX9_dropNote 11 = .ok (.invokevirtual 419, 3) := by decide +kernel
theorem d328_14 : decode cX9_dropNote 14 = .ok (.aload_n 0, 1) := by decide +kernel
theorem d328_15 : decode cX9_dropNote 15 = .ok (.getfield 9, 3) := by decide +kernel
theorem d328_18 : decode cX9_dropNote 18 = .ok (.iconst 5, 1) := by decide +kernel
theorem d328_19 : decode cX9_dropNote 19 = .ok (.dup2, 1) := by decide +kernel
theorem d328_20 : decode cX9_dropNote 20 = .ok (.iaload, 1) := by decide +kernel
theorem d328_21 : decode cX9_dropNote 21 = .ok (.iconst 1, 1) := by decide +kernel
theorem d328_22 : decode cX9_dropNote 22 = .ok (.isub, 1) := by decide +kernel
theorem d328_23 : decode cX9_dropNote 23 = .ok (.iastore, 1) := by decide +kernel
theorem d328_24 : decode cX9_dropNote 24 = .ok (.iload_n 1, 1) := by decide +kernel
theorem d328_25 : decode cX9_dropNote 25 = .ok (.iconst 0, 1) := by decide +kernel
theorem d328_26 : decode cX9_dropNote 26 = .ok (.invokestatic 210, 3) := by decide +kernel
theorem d328_29 : decode cX9_dropNote 29 = .ok (.istore_n 2, 1) := by decide +kernel
theorem d328_30 : decode cX9_dropNote 30 = .ok (.iload_n 2, 1) := by decide +kernel
theorem d328_31 : decode cX9_dropNote 31 = .ok (.aload_n 0, 1) := by decide +kernel
theorem d328_32 : decode cX9_dropNote 32 = .ok (.getfield 9, 3) := by decide +kernel
theorem d328_35 : decode cX9_dropNote 35 = .ok (.iconst 5, 1) := by decide +kernel
theorem d328_36 : decode cX9_dropNote 36 = .ok (.iaload, 1) := by decide +kernel
theorem d328_37 : decode cX9_dropNote 37 = .ok (.iconst 0, 1) := by decide +kernel
theorem d328_38 : decode cX9_dropNote 38 = .ok (.invokestatic 210, 3) := by decide +kernel
theorem d328_41 : decode cX9_dropNote 41 = .ok (.if_icmp .ge 23, 3) := by decide +kernel
theorem d328_44 : decode cX9_dropNote 44 = .ok (.aload_n 0, 1) := by decide +kernel
theorem d328_45 : decode cX9_dropNote 45 = .ok (.getfield 9, 3) := by decide +kernel
theorem d328_48 : decode cX9_dropNote 48 = .ok (.iload_n 2, 1) := by decide +kernel
theorem d328_49 : decode cX9_dropNote 49 = .ok (.aload_n 0, 1) := by decide +kernel
theorem d328_50 : decode cX9_dropNote 50 = .ok (.getfield 9, 3) := by decide +kernel
theorem d328_53 : decode cX9_dropNote 53 = .ok (.iload_n 2, 1) := by decide +kernel
theorem d328_54 : decode cX9_dropNote 54 = .ok (.iconst 3, 1) := by decide +kernel
theorem d328_55 : decode cX9_dropNote 55 = .ok (.iadd, 1) := by decide +kernel
theorem d328_56 : decode cX9_dropNote 56 = .ok (.iaload, 1) := by decide +kernel
theorem d328_57 : decode cX9_dropNote 57 = .ok (.iastore, 1) := by decide +kernel
theorem d328_58 : decode cX9_dropNote 58 = .ok (.iinc 2 1, 3) := by decide +kernel
theorem d328_61 : decode cX9_dropNote 61 = .ok (.goto (-31), 3) := by decide +kernel
theorem d328_64 : decode cX9_dropNote 64 = .ok (.aload_n 0, 1) := by decide +kernel
theorem d328_65 : decode cX9_dropNote 65 = .ok (.getfield 9, 3) := by decide +kernel
theorem d328_68 : decode cX9_dropNote 68 = .ok (.iconst 5, 1) := by decide +kernel
theorem d328_69 : decode cX9_dropNote 69 = .ok (.iaload, 1) := by decide +kernel
theorem d328_70 : decode cX9_dropNote 70 = .ok (.ireturn, 1) := by decide +kernel
theorem v328_0 {w : PW} {Q : PO → PW → Prop} {x1 : Int} (hs : Sh w) (hx1 : bd x1) (h : (bd ((gI w 170 5) - 1)) ∧ ((0 ≤ x1 ∧ x1 < gI w 170 5) → ∀ w2 : PW, w2 = sI w 169 0 0 → pC 326 [.ref 169] w2 (kV fun w3 => Sh w3 ∧ ∀ w5 : PW, w5 = sI w3 170 5 ((gI w3 170 5) - 1) → pX 328 30 [some (.ref 169), some (iv x1), some (iv ((71 + 3 * x1) + 0))] [] w5 Q)) ∧ ((¬ (0 ≤ x1 ∧ x1 < gI w 170 5)) → ∀ w7 : PW, w7 = sI w 169 0 1 → Q (.inl (some (iv 0))) w7)) : pX 328 0 [some (.ref 169), some (iv x1), none] [] w Q :=
  w_f b328 d328_0 rfl rfl rfl <| w_f b328 d328_1 rfl rfl rfl <| w_cc b328 d328_2 rfl (pcl_v (n := 1) rfl rfl rfl (by decide +kernel) (sh_isOb hs (tlt 169 rfl) tbC_169) rfl rfl) rfl <| c266 hs hx1 h.1 (fun c1 => w_ifeq b328 d328_5 rfl rfl (p328 _ _) ⟨by decide, by decide⟩ (fun _ => w_f b328 d328_10 rfl rfl rfl <| w_c b328 d328_11 rfl (pcl_v (n := 0) rfl rfl rfl (by decide +kernel) (sh_isOb (Sh_sI hs (slt_o tbC_169 rfl)) (tlt 169 rfl) tbC_169) rfl rfl) rfl _ (hK_V fun w3 hkw3 => w_f b328 d328_14 rfl rfl rfl <| w_gr b328 d328_15 rfl rfl hkw3.1 (tlt 169 rfl) tbC_169 rfl (by decide) <| w_f b328 d328_18 rfl rfl rfl <| w_f b328 d328_19 rfl rfl rfl <| w_ial b328 d328_20 rfl hkw3.1 (tlt 170 rfl) tbC_170 (bdix (n := 843) ⟨by decide, by decide⟩ rfl) ⟨by decide, by decide⟩ <| w_f b328 d328_21 rfl rfl rfl <| w_f b328 d328_22 rfl (pf_isub _ 1) rfl <| w_ias b328 d328_23 rfl hkw3.1 (tlt 170 rfl) tbC_170 (bdix (n := 843) ⟨by decide, by decide⟩ rfl) ⟨by decide, by decide⟩ <| w_f b328 d328_24 rfl rfl rfl <| w_f b328 d328_25 rfl rfl rfl <| w_cc b328 d328_26 rfl (pcl_s1 (n := 2) rfl rfl rfl (by decide +kernel) rfl rfl) rfl <| c233 (Sh_sI hkw3.1 (slt_a tbC_170)) hx1 ⟨by decide, by decide⟩ <| w_f b328 d328_29 rfl rfl rfl <| (hkw3.2 _ rfl)) (h.2.1 c1 _ rfl)) (fun c => absurd c (by decide))) (fun c6 => w_ifeq b328 d328_5 rfl rfl (p328 _ _) ⟨by decide, by decide⟩ (fun c => absurd c (by decide)) (fun _ => w_f b328 d328_8 rfl rfl rfl <| w_ri b328 d328_9 r328 (h.2.2 c6 _ rfl)))
theorem e328 {w : PW} {Q : PO → PW → Prop} {x1 : Int} (hs : Sh w) (hx1 : bd x1) (h : (bd ((gI w 170 5) - 1)) ∧ ((0 ≤ x1 ∧ x1 < gI w 170 5) → ∀ w2 : PW, w2 = sI w 169 0 0 → pC 326 [.ref 169] w2 (kV fun w3 => Sh w3 ∧ ∀ w5 : PW, w5 = sI w3 170 5 ((gI w3 170 5) - 1) → pX 328 30 [some (.ref 169), some (iv x1), some (iv ((71 + 3 * x1) + 0))] [] w5 Q)) ∧ ((¬ (0 ≤ x1 ∧ x1 < gI w 170 5)) → ∀ w7 : PW, w7 = sI w 169 0 1 → Q (.inl (some (iv 0))) w7)) : pC 328 [.ref 169, iv x1] w Q :=
  (pC_in (Nat.le_of_ble_eq_true rfl) rfl Q).mpr (v328_0 hs hx1 h)
theorem v328_30 {w : PW} {Q : PO → PW → Prop} {x1 : Int} {x2 : Int} (hs : Sh w) (hx1 : bd x1) (hx2 : bd x2) (h : (bd ((71 + 3 * (gI w 170 5)) + 0)) ∧ (((71 + 3 * (gI w 170 5)) + 0) ≤ x2 → Q (.inl (some (iv (gI w 170 5)))) w) ∧ (x2 < ((71 + 3 * (gI w 170 5)) + 0) → (0 ≤ (x2 + 3) ∧ (x2 + 3) < 843) ∧ (0 ≤ x2 ∧ x2 < 843) ∧ ∀ w2 : PW, w2 = sI w 170 x2.toNat (gI w 170 (x2 + 3).toNat) → pX 328 30 [some (.ref 169), some (iv x1), some (iv (x2 + 1))] [] w2 Q)) : pX 328 30 [some (.ref 169), some (iv x1), some (iv x2)] [] w Q :=
  w_f b328 d328_30 rfl rfl rfl <| w_f b328 d328_31 rfl rfl rfl <| w_gr b328 d328_32 rfl rfl hs (tlt 169 rfl) tbC_169 rfl (by decide) <| w_f b328 d328_35 rfl rfl rfl <| w_ial b328 d328_36 rfl hs (tlt 170 rfl) tbC_170 (bdix (n := 843) ⟨by decide, by decide⟩ rfl) ⟨by decide, by decide⟩ <| w_f b328 d328_37 rfl rfl rfl <| w_cc b328 d328_38 rfl (pcl_s1 (n := 2) rfl rfl rfl (by decide +kernel) rfl rfl) rfl <| c233 hs (bd_gI _ _ _) ⟨by decide, by decide⟩ <| w_icge b328 d328_41 rfl rfl (p328 _ _) hx2 h.1 (fun c1 => w_f b328 d328_64 rfl rfl rfl <| w_gr b328 d328_65 rfl rfl hs (tlt 169 rfl) tbC_169 rfl (by decide) <| w_f b328 d328_68 rfl rfl rfl <| w_ial b328 d328_69 rfl hs (tlt 170 rfl) tbC_170 (bdix (n := 843) ⟨by decide, by decide⟩ rfl) ⟨by decide, by decide⟩ <| w_ri b328 d328_70 r328 (h.2.1 c1)) (fun c1 => w_f b328 d328_44 rfl rfl rfl <| w_gr b328 d328_45 rfl rfl hs (tlt 169 rfl) tbC_169 rfl (by decide) <| w_f b328 d328_48 rfl rfl rfl <| w_f b328 d328_49 rfl rfl rfl <| w_gr b328 d328_50 rfl rfl hs (tlt 169 rfl) tbC_169 rfl (by decide) <| w_f b328 d328_53 rfl rfl rfl <| w_f b328 d328_54 rfl rfl rfl <| w_f b328 d328_55 rfl (pf_iadd x2 3) rfl <| w_ial b328 d328_56 rfl hs (tlt 170 rfl) tbC_170 (bdix (n := 843) (h.2.2 c1).1 rfl) (h.2.2 c1).1 <| w_ias b328 d328_57 rfl hs (tlt 170 rfl) tbC_170 (bdix (n := 843) (h.2.2 c1).2.1 rfl) (h.2.2 c1).2.1 <| w_f b328 d328_58 rfl (pf_iinc rfl rfl) rfl <| w_j b328 d328_61 rfl (p328 _ _) <| ((h.2.2 c1).2.2 _ rfl))
/-! 330: PinBarrelModel.addTooth(II)I -/
theorem b330 : mB 330 = cX9_addTooth := rfl
theorem r330 : mR 330 = (some .int) := rfl
theorem p330 (a b : Nat) : phi 330 a ≤ phi 330 b := Nat.le_refl 0
theorem d330_0 : decode cX9_addTooth 0 = .ok (.aload_n 0, 1) := by decide +kernel
theorem d330_1 : decode cX9_addTooth 1 = .ok (.iload_n 1, 1) := by decide +kernel
theorem d330_2 : decode cX9_addTooth 2 = .ok (.invokestatic 396, 3) := by decide +kernel
theorem d330_5 : decode cX9_addTooth 5 = .ok (.ifCond .eq 10, 3) := by decide +kernel
theorem d330_8 : decode cX9_addTooth 8 = .ok (.iload_n 2, 1) := by decide +kernel
theorem d330_9 : decode cX9_addTooth 9 = .ok (.invokestatic 424, 3) := by decide +kernel
theorem d330_12 : decode cX9_addTooth 12 = .ok (.ifCond .ne 7, 3) := by decide +kernel
theorem d330_15 : decode cX9_addTooth 15 = .ok (.iconst 1, 1) := by decide +kernel
theorem d330_16 : decode cX9_addTooth 16 = .ok (.goto 4, 3) := by decide +kernel
theorem d330_19 : decode cX9_addTooth 19 = .ok (.iconst 0, 1) := by decide +kernel
theorem d330_20 : decode cX9_addTooth 20 = .ok (.invokevirtual 328, 3) := by decide +kernel
theorem d330_23 : decode cX9_addTooth 23 = .ok (.ifCond .eq 5, 3) := by decide +kernel
theorem d330_26 : decode cX9_addTooth 26 = .ok (.iconst 0, 1) := by decide +kernel
theorem d330_27 : decode cX9_addTooth 27 = .ok (.ireturn, 1) := by decide +kernel
theorem d330_28 : decode cX9_addTooth 28 = .ok (.aload_n 0, 1) := by decide +kernel
theorem d330_29 : decode cX9_addTooth 29 = .ok (.getfield 9, 3) := by decide +kernel
theorem d330_32 : decode cX9_addTooth 32 = .ok (.iconst 4, 1) := by decide +kernel
theorem d330_33 : decode cX9_addTooth 33 = .ok (.iaload, 1) := by decide +kernel
theorem d330_34 : decode cX9_addTooth 34 = .ok (.bipush 12, 2) := by decide +kernel
theorem d330_36 : decode cX9_addTooth 36 = .ok (.if_icmp .ne 6, 3) := by decide +kernel
theorem d330_39 : decode cX9_addTooth 39 = .ok (.bipush (-2), 2) := by decide +kernel
theorem d330_41 : decode cX9_addTooth 41 = .ok (.ireturn, 1) := by decide +kernel
theorem d330_42 : decode cX9_addTooth 42 = .ok (.aload_n 0, 1) := by decide +kernel
theorem d330_43 : decode cX9_addTooth 43 = .ok (.invokevirtual 419, 3) := by decide +kernel
theorem d330_46 : decode cX9_addTooth 46 = .ok (.aload_n 0, 1) := by decide +kernel
theorem d330_47 : decode cX9_addTooth 47 = .ok (.iload_n 1, 1) := by decide +kernel
theorem d330_48 : decode cX9_addTooth 48 = .ok (.iload_n 2, 1) := by decide +kernel
theorem d330_49 : decode cX9_addTooth 49 = .ok (.invokevirtual 153, 3) := by decide +kernel
theorem d330_52 : decode cX9_addTooth 52 = .ok (.aload_n 0, 1) := by decide +kernel
theorem d330_53 : decode cX9_addTooth 53 = .ok (.getfield 9, 3) := by decide +kernel
theorem d330_56 : decode cX9_addTooth 56 = .ok (.iconst 4, 1) := by decide +kernel
theorem d330_57 : decode cX9_addTooth 57 = .ok (.iaload, 1) := by decide +kernel
theorem d330_58 : decode cX9_addTooth 58 = .ok (.iconst 1, 1) := by decide +kernel
theorem d330_59 : decode cX9_addTooth 59 = .ok (.isub, 1) := by decide +kernel
theorem d330_60 : decode cX9_addTooth 60 = .ok (.ireturn, 1) := by decide +kernel
theorem v330_0 {w : PW} {Q : PO → PW → Prop} {x1 : Int} {x2 : Int} (hs : Sh w) (hx1 : bd x1) (hx2 : bd x2) (h : ((¬ (0 ≤ x1 ∧ x1 ≤ 23)) → ∀ w2 : PW, w2 = sI w 169 0 1 → Q (.inl (some (iv 0))) w2) ∧ ((0 ≤ x1 ∧ x1 ≤ 23) → ((1 ≤ x2 ∧ x2 ≤ 12) → ∀ w4 : PW, w4 = sI w 169 0 0 → ((gI w4 170 4) ≠ 12 → pC 326 [.ref 169] w4 (kV fun w6 => Sh w6 ∧ pC 231 [.ref 169, iv x1, iv x2] w6 (kV fun w8 => Sh w8 ∧ Q (.inl (some (iv ((gI w8 170 4) - 1)))) w8))) ∧ ((gI w4 170 4) = 12 → Q (.inl (some (iv ((-2))))) w4)) ∧ ((¬ (1 ≤ x2 ∧ x2 ≤ 12)) → ∀ w10 : PW, w10 = sI w 169 0 1 → Q (.inl (some (iv 0))) w10))) : pX 330 0 [some (.ref 169), some (iv x1), some (iv x2)] [] w Q :=
  w_f b330 d330_0 rfl rfl rfl <| w_f b330 d330_1 rfl rfl rfl <| w_cc b330 d330_2 rfl (pcl_s1 (n := 1) rfl rfl rfl (by decide +kernel) rfl rfl) rfl <| c309 hs hx1 <| w_ifeqZ b330 d330_5 rfl rfl (p330 _ _) (fun c1 => w_f b330 d330_15 rfl rfl rfl <| w_j b330 d330_16 rfl (p330 _ _) <| w_cc b330 d330_20 rfl (pcl_v (n := 1) rfl rfl rfl (by decide +kernel) (sh_isOb hs (tlt 169 rfl) tbC_169) rfl rfl) rfl <| c245 hs ⟨by decide, by decide⟩ (by decide) <| w_ifeq b330 d330_23 rfl rfl (p330 _ _) ⟨by decide, by decide⟩ (fun c => absurd c (by decide)) (fun _ => w_f b330 d330_26 rfl rfl rfl <| w_ri b330 d330_27 r330 ((h.1 c1) _ rfl))) (fun c1 => w_f b330 d330_8 rfl rfl rfl <| w_cc b330 d330_9 rfl (pcl_s1 (n := 1) rfl rfl rfl (by decide +kernel) rfl rfl) rfl <| c329 hs hx2 <| w_ifneZ b330 d330_12 rfl rfl (p330 _ _) (fun c3 => w_f b330 d330_19 rfl rfl rfl <| w_cc b330 d330_20 rfl (pcl_v (n := 1) rfl rfl rfl (by decide +kernel) (sh_isOb hs (tlt 169 rfl) tbC_169) rfl rfl) rfl <| c245 hs ⟨by decide, by decide⟩ (by decide) <| w_ifeq b330 d330_23 rfl rfl (p330 _ _) ⟨by decide, by decide⟩ (fun _ => w_f b330 d330_28 rfl rfl rfl <| w_gr b330 d330_29 rfl rfl (Sh_sI hs (slt_o tbC_169 rfl)) (tlt 169 rfl) tbC_169 rfl (by decide) <| w_f b330 d330_32 rfl rfl rfl <| w_ial b330 d330_33 rfl (Sh_sI hs (slt_o tbC_169 rfl)) (tlt 170 rfl) tbC_170 (bdix (n := 843) ⟨by decide, by decide⟩ rfl) ⟨by decide, by decide⟩ <| w_f b330 d330_34 rfl rfl rfl <| w_icne b330 d330_36 rfl rfl (p330 _ _) (bd_gI _ _ _) ⟨by decide, by decide⟩ (fun c5 => w_f b330 d330_42 rfl rfl rfl <| w_c b330 d330_43 rfl (pcl_v (n := 0) rfl rfl rfl (by decide +kernel) (sh_isOb (Sh_sI hs (slt_o tbC_169 rfl)) (tlt 169 rfl) tbC_169) rfl rfl) rfl _ (hK_V fun w6 hkw6 => w_f b330 d330_46 rfl rfl rfl <| w_f b330 d330_47 rfl rfl rfl <| w_f b330 d330_48 rfl rfl rfl <| w_c b330 d330_49 rfl (pcl_v (n := 2) rfl rfl rfl (by decide +kernel) (sh_isOb hkw6.1 (tlt 169 rfl) tbC_169) rfl rfl) rfl _ (hK_V fun w8 hkw8 => w_f b330 d330_52 rfl rfl rfl <| w_gr b330 d330_53 rfl rfl hkw8.1 (tlt 169 rfl) tbC_169 rfl (by decide) <| w_f b330 d330_56 rfl rfl rfl <| w_ial b330 d330_57 rfl hkw8.1 (tlt 170 rfl) tbC_170 (bdix (n := 843) ⟨by decide, by decide⟩ rfl) ⟨by decide, by decide⟩ <| w_f b330 d330_58 rfl rfl rfl <| w_f b330 d330_59 rfl (pf_isub _ 1) rfl <| w_ri b330 d330_60 r330 hkw8.2) hkw6.2) ((((h.2 c1).1 c3) _ rfl).1 c5)) (fun c5 => w_f b330 d330_39 rfl rfl rfl <| w_ri b330 d330_41 r330 ((((h.2 c1).1 c3) _ rfl).2 c5))) (fun c => absurd c (by decide))) (fun c3 => w_f b330 d330_15 rfl rfl rfl <| w_j b330 d330_16 rfl (p330 _ _) <| w_cc b330 d330_20 rfl (pcl_v (n := 1) rfl rfl rfl (by decide +kernel) (sh_isOb hs (tlt 169 rfl) tbC_169) rfl rfl) rfl <| c245 hs ⟨by decide, by decide⟩ (by decide) <| w_ifeq b330 d330_23 rfl rfl (p330 _ _) ⟨by decide, by decide⟩ (fun c => absurd c (by decide)) (fun _ => w_f b330 d330_26 rfl rfl rfl <| w_ri b330 d330_27 r330 (((h.2 c1).2 c3) _ rfl))))
theorem e330 {w : PW} {Q : PO → PW → Prop} {x1 : Int} {x2 : Int} (hs : Sh w) (hx1 : bd x1) (hx2 : bd x2) (h : ((¬ (0 ≤ x1 ∧ x1 ≤ 23)) → ∀ w2 : PW, w2 = sI w 169 0 1 → Q (.inl (some (iv 0))) w2) ∧ ((0 ≤ x1 ∧ x1 ≤ 23) → ((1 ≤ x2 ∧ x2 ≤ 12) → ∀ w4 : PW, w4 = sI w 169 0 0 → ((gI w4 170 4) ≠ 12 → pC 326 [.ref 169] w4 (kV fun w6 => Sh w6 ∧ pC 231 [.ref 169, iv x1, iv x2] w6 (kV fun w8 => Sh w8 ∧ Q (.inl (some (iv ((gI w8 170 4) - 1)))) w8))) ∧ ((gI w4 170 4) = 12 → Q (.inl (some (iv ((-2))))) w4)) ∧ ((¬ (1 ≤ x2 ∧ x2 ≤ 12)) → ∀ w10 : PW, w10 = sI w 169 0 1 → Q (.inl (some (iv 0))) w10))) : pC 330 [.ref 169, iv x1, iv x2] w Q :=
  (pC_in (Nat.le_of_ble_eq_true rfl) rfl Q).mpr (v330_0 hs hx1 hx2 h)
/-! 331: PinBarrelModel.sets(II)I -/
theorem b331 : mB 331 = cX9_sets := rfl
theorem r331 : mR 331 = (some .int) := rfl
theorem p331 (a b : Nat) : phi 331 a ≤ phi 331 b := Nat.le_refl 0
theorem d331_0 : decode cX9_sets 0 = .ok (.aload_n 0, 1) := by decide +kernel
theorem d331_1 : decode cX9_sets 1 = .ok (.invokevirtual 419, 3) := by decide +kernel
theorem d331_4 : decode cX9_sets 4 = .ok (.aload_n 0, 1) := by decide +kernel
theorem d331_5 : decode cX9_sets 5 = .ok (.getfield 9, 3) := by decide +kernel
theorem d331_8 : decode cX9_sets 8 = .ok (.iload_n 1, 1) := by decide +kernel
theorem d331_9 : decode cX9_sets 9 = .ok (.iaload, 1) := by decide +kernel
theorem d331_10 : decode cX9_sets 10 = .ok (.istore_n 3, 1) := by decide +kernel
theorem d331_11 : decode cX9_sets 11 = .ok (.aload_n 0, 1) := by decide +kernel
theorem d331_12 : decode cX9_sets 12 = .ok (.getfield 9, 3) := by decide +kernel
theorem d331_15 : decode cX9_sets 15 = .ok (.iload_n 1, 1) := by decide +kernel
theorem d331_16 : decode cX9_sets 16 = .ok (.iload_n 2, 1) := by decide +kernel
theorem d331_17 : decode cX9_sets 17 = .ok (.iastore, 1) := by decide +kernel
theorem d331_18 : decode cX9_sets 18 = .ok (.iload_n 3, 1) := by decide +kernel
theorem d331_19 : decode cX9_sets 19 = .ok (.ireturn, 1) := by decide +kernel
theorem v331_0 {w : PW} {Q : PO → PW → Prop} {x1 : Int} {x2 : Int} (hs : Sh w) (hx1 : bd x1) (hx2 : bd x2) (h : pC 326 [.ref 169] w (kV fun w1 => Sh w1 ∧ (0 ≤ x1 ∧ x1 < 843) ∧ (0 ≤ x1 ∧ x1 < 843) ∧ ∀ w3 : PW, w3 = sI w1 170 x1.toNat x2 → Q (.inl (some (iv (gI w1 170 x1.toNat)))) w3)) : pX 331 0 [some (.ref 169), some (iv x1), some (iv x2), none] [] w Q :=
  w_f b331 d331_0 rfl rfl rfl <| w_c b331 d331_1 rfl (pcl_v (n := 0) rfl rfl rfl (by decide +kernel) (sh_isOb hs (tlt 169 rfl) tbC_169) rfl rfl) rfl _ (hK_V fun w1 hkw1 => w_f b331 d331_4 rfl rfl rfl <| w_gr b331 d331_5 rfl rfl hkw1.1 (tlt 169 rfl) tbC_169 rfl (by decide) <| w_f b331 d331_8 rfl rfl rfl <| w_ial b331 d331_9 rfl hkw1.1 (tlt 170 rfl) tbC_170 (bdix (n := 843) hkw1.2.1 rfl) hkw1.2.1 <| w_f b331 d331_10 rfl rfl rfl <| w_f b331 d331_11 rfl rfl rfl <| w_gr b331 d331_12 rfl rfl hkw1.1 (tlt 169 rfl) tbC_169 rfl (by decide) <| w_f b331 d331_15 rfl rfl rfl <| w_f b331 d331_16 rfl rfl rfl <| w_ias b331 d331_17 rfl hkw1.1 (tlt 170 rfl) tbC_170 (bdix (n := 843) hkw1.2.2.1 rfl) hkw1.2.2.1 <| w_f b331 d331_18 rfl rfl rfl <| w_ri b331 d331_19 r331 (hkw1.2.2.2 _ rfl)) h
theorem e331 {w : PW} {Q : PO → PW → Prop} {x1 : Int} {x2 : Int} (hs : Sh w) (hx1 : bd x1) (hx2 : bd x2) (h : pC 326 [.ref 169] w (kV fun w1 => Sh w1 ∧ (0 ≤ x1 ∧ x1 < 843) ∧ (0 ≤ x1 ∧ x1 < 843) ∧ ∀ w3 : PW, w3 = sI w1 170 x1.toNat x2 → Q (.inl (some (iv (gI w1 170 x1.toNat)))) w3)) : pC 331 [.ref 169, iv x1, iv x2] w Q :=
  (pC_in (Nat.le_of_ble_eq_true rfl) rfl Q).mpr (v331_0 hs hx1 hx2 h)
/-! 332: PinBarrelModel.setRest(II)I -/
theorem b332 : mB 332 = cX9_setRest := rfl
theorem r332 : mR 332 = (some .int) := rfl
theorem p332 (a b : Nat) : phi 332 a ≤ phi 332 b := Nat.le_refl 0
theorem d332_0 : decode cX9_setRest 0 = .ok (.aload_n 0, 1) := by decide +kernel
theorem d332_1 : decode cX9_setRest 1 = .ok (.iload_n 1, 1) := by decide +kernel
theorem d332_2 : decode cX9_setRest 2 = .ok (.invokevirtual 351, 3) := by decide +kernel
theorem d332_5 : decode cX9_setRest 5 = .ok (.ifCond .ne 23, 3) := by decide +kernel
theorem d332_8 : decode cX9_setRest 8 = .ok (.aload_n 0, 1) := by decide +kernel
theorem d332_9 : decode cX9_setRest 9 = .ok (.iload_n 2, 1) := by decide +kernel
theorem d332_10 : decode cX9_setRest 10 = .ok (.invokestatic 424, 3) := by decide +kernel
theorem d332_13 : decode cX9_setRest 13 = .ok (.ifCond .ne 7, 3) := by decide +kernel
theorem d332_16 : decode cX9_setRest 16 = .ok (.iconst 1, 1) := by decide +kernel
theorem d332_17 : decode cX9_setRest 17 = .ok (.goto 4, 3) := by decide +kernel
theorem d332_20 : decode cX9_setRest 20 = .ok (.iconst 0, 1) := by decide +kernel
theorem d332_21 : decode cX9_setRest 21 = .ok (.iconst 2, 1) := by decide +kernel
theorem d332_22 : decode cX9_setRest 22 = .ok (.invokevirtual 356, 3) := by decide +kernel
theorem d332_25 : decode cX9_setRest 25 = .ok (.ifCond .eq 7, 3) := by decide +kernel
theorem d332_28 : decode cX9_setRest 28 = .ok (.iconst 0, 1) := by decide +kernel
theorem d332_29 : decode cX9_setRest 29 = .ok (.goto 13, 3) := by decide +kernel
theorem d332_32 : decode cX9_setRest 32 = .ok (.aload_n 0, 1) := by decide +kernel
theorem d332_33 : decode cX9_setRest 33 = .ok (.iload_n 1, 1) := by decide +kernel
theorem d332_34 : decode cX9_setRest 34 = .ok (.iconst 1, 1) := by decide +kernel
theorem d332_35 : decode cX9_setRest 35 = .ok (.invokestatic 206, 3) := by decide +kernel
theorem d332_38 : decode cX9_setRest 38 = .ok (.iload_n 2, 1) := by decide +kernel
theorem d332_39 : decode cX9_setRest 39 = .ok (.invokevirtual 427, 3) := by decide +kernel
theorem d332_42 : decode cX9_setRest 42 = .ok (.ireturn, 1) := by decide +kernel
theorem v332_0 {w : PW} {Q : PO → PW → Prop} {x1 : Int} {x2 : Int} (hs : Sh w) (hx1 : bd x1) (hx2 : bd x2) (h : (bd ((gI w 170 4) - 1)) ∧ ((0 ≤ x1 ∧ x1 < gI w 170 4) → ∀ w2 : PW, w2 = sI w 169 0 0 → ((1 ≤ x2 ∧ x2 ≤ 12) → pC 331 [.ref 169, iv ((11 + 5 * x1) + 1), iv x2] w2 (kI fun u5 w4 => Sh w4 ∧ Q (.inl (some (iv u5))) w4)) ∧ ((¬ (1 ≤ x2 ∧ x2 ≤ 12)) → ∀ w6 : PW, w6 = sI w2 169 0 2 → Q (.inl (some (iv 0))) w6)) ∧ ((¬ (0 ≤ x1 ∧ x1 < gI w 170 4)) → ∀ w8 : PW, w8 = sI w 169 0 1 → Q (.inl (some (iv 0))) w8)) : pX 332 0 [some (.ref 169), some (iv x1), some (iv x2)] [] w Q :=
  w_f b332 d332_0 rfl rfl rfl <| w_f b332 d332_1 rfl rfl rfl <| w_cc b332 d332_2 rfl (pcl_v (n := 1) rfl rfl rfl (by decide +kernel) (sh_isOb hs (tlt 169 rfl) tbC_169) rfl rfl) rfl <| c259 hs hx1 h.1 (fun c1 => w_ifne b332 d332_5 rfl rfl (p332 _ _) ⟨by decide, by decide⟩ (fun c => absurd c (by decide)) (fun _ => w_f b332 d332_8 rfl rfl rfl <| w_f b332 d332_9 rfl rfl rfl <| w_cc b332 d332_10 rfl (pcl_s1 (n := 1) rfl rfl rfl (by decide +kernel) rfl rfl) rfl <| c329 (Sh_sI hs (slt_o tbC_169 rfl)) hx2 <| w_ifneZ b332 d332_13 rfl rfl (p332 _ _) (fun c3 => w_f b332 d332_20 rfl rfl rfl <| w_f b332 d332_21 rfl rfl rfl <| w_cc b332 d332_22 rfl (pcl_v (n := 2) rfl rfl rfl (by decide +kernel) (sh_isOb (Sh_sI hs (slt_o tbC_169 rfl)) (tlt 169 rfl) tbC_169) rfl rfl) rfl <| c260a (Sh_sI hs (slt_o tbC_169 rfl)) ⟨by decide, by decide⟩ ⟨by decide, by decide⟩ <| w_ifeq b332 d332_25 rfl rfl (p332 _ _) ⟨by decide, by decide⟩ (fun _ => w_f b332 d332_32 rfl rfl rfl <| w_f b332 d332_33 rfl rfl rfl <| w_f b332 d332_34 rfl rfl rfl <| w_cc b332 d332_35 rfl (pcl_s1 (n := 2) rfl rfl rfl (by decide +kernel) rfl rfl) rfl <| c230 (Sh_sI hs (slt_o tbC_169 rfl)) hx1 ⟨by decide, by decide⟩ <| w_f b332 d332_38 rfl rfl rfl <| w_c b332 d332_39 rfl (pcl_v (n := 2) rfl rfl rfl (by decide +kernel) (sh_isOb (Sh_sI hs (slt_o tbC_169 rfl)) (tlt 169 rfl) tbC_169) rfl rfl) rfl _ (hK_I fun u5 w4 hbu5 hkw4 => w_ri b332 d332_42 r332 hkw4.2) ((h.2.1 c1 _ rfl).1 c3)) (fun c => absurd c (by decide))) (fun c3 => w_f b332 d332_16 rfl rfl rfl <| w_j b332 d332_17 rfl (p332 _ _) <| w_f b332 d332_21 rfl rfl rfl <| w_cc b332 d332_22 rfl (pcl_v (n := 2) rfl rfl rfl (by decide +kernel) (sh_isOb (Sh_sI hs (slt_o tbC_169 rfl)) (tlt 169 rfl) tbC_169) rfl rfl) rfl <| c260b (Sh_sI hs (slt_o tbC_169 rfl)) ⟨by decide, by decide⟩ ⟨by decide, by decide⟩ <| w_ifeq b332 d332_25 rfl rfl (p332 _ _) ⟨by decide, by decide⟩ (fun c => absurd c (by decide)) (fun _ => w_f b332 d332_28 rfl rfl rfl <| w_j b332 d332_29 rfl (p332 _ _) <| w_ri b332 d332_42 r332 (((h.2.1 c1 _ rfl).2 c3) _ rfl))))) (fun c7 => w_ifne b332 d332_5 rfl rfl (p332 _ _) ⟨by decide, by decide⟩ (fun _ => w_f b332 d332_28 rfl rfl rfl <| w_j b332 d332_29 rfl (p332 _ _) <| w_ri b332 d332_42 r332 (h.2.2 c7 _ rfl)) (fun c => absurd c (by decide)))
theorem e332 {w : PW} {Q : PO → PW → Prop} {x1 : Int} {x2 : Int} (hs : Sh w) (hx1 : bd x1) (hx2 : bd x2) (h : (bd ((gI w 170 4) - 1)) ∧ ((0 ≤ x1 ∧ x1 < gI w 170 4) → ∀ w2 : PW, w2 = sI w 169 0 0 → ((1 ≤ x2 ∧ x2 ≤ 12) → pC 331 [.ref 169, iv ((11 + 5 * x1) + 1), iv x2] w2 (kI fun u5 w4 => Sh w4 ∧ Q (.inl (some (iv u5))) w4)) ∧ ((¬ (1 ≤ x2 ∧ x2 ≤ 12)) → ∀ w6 : PW, w6 = sI w2 169 0 2 → Q (.inl (some (iv 0))) w6)) ∧ ((¬ (0 ≤ x1 ∧ x1 < gI w 170 4)) → ∀ w8 : PW, w8 = sI w 169 0 1 → Q (.inl (some (iv 0))) w8)) : pC 332 [.ref 169, iv x1, iv x2] w Q :=
  (pC_in (Nat.le_of_ble_eq_true rfl) rfl Q).mpr (v332_0 hs hx1 hx2 h)
/-! 333: PinBarrelModel.retune(II)I -/
theorem b333 : mB 333 = cX9_retune := rfl
theorem r333 : mR 333 = (some .int) := rfl
theorem p333 (a b : Nat) : phi 333 a ≤ phi 333 b := Nat.le_refl 0
theorem d333_0 : decode cX9_retune 0 = .ok (.aload_n 0, 1) := by decide +kernel
theorem d333_1 : decode cX9_retune 1 = .ok (.iload_n 1, 1) := by decide +kernel
theorem d333_2 : decode cX9_retune 2 = .ok (.invokevirtual 351, 3) := by decide +kernel
theorem d333_5 : decode cX9_retune 5 = .ok (.ifCond .ne 23, 3) := by decide +kernel
theorem d333_8 : decode cX9_retune 8 = .ok (.aload_n 0, 1) := by decide +kernel
theorem d333_9 : decode cX9_retune 9 = .ok (.iload_n 2, 1) := by decide +kernel
theorem d333_10 : decode cX9_retune 10 = .ok (.invokestatic 396, 3) := by decide +kernel
theorem d333_13 : decode cX9_retune 13 = .ok (.ifCond .ne 7, 3) := by decide +kernel
theorem d333_16 : decode cX9_retune 16 = .ok (.iconst 1, 1) := by decide +kernel
theorem d333_17 : decode cX9_retune 17 = .ok (.goto 4, 3) := by decide +kernel
theorem d333_20 : decode cX9_retune 20 = .ok (.iconst 0, 1) := by decide +kernel
theorem d333_21 : decode cX9_retune 21 = .ok (.iconst 2, 1) := by decide +kernel
theorem d333_22 : decode cX9_retune 22 = .ok (.invokevirtual 356, 3) := by decide +kernel
theorem d333_25 : decode cX9_retune 25 = .ok (.ifCond .eq 7, 3) := by decide +kernel
theorem d333_28 : decode cX9_retune 28 = .ok (.iconst 0, 1) := by decide +kernel
theorem d333_29 : decode cX9_retune 29 = .ok (.goto 13, 3) := by decide +kernel
theorem d333_32 : decode cX9_retune 32 = .ok (.aload_n 0, 1) := by decide +kernel
theorem d333_33 : decode cX9_retune 33 = .ok (.iload_n 1, 1) := by decide +kernel
theorem d333_34 : decode cX9_retune 34 = .ok (.iconst 0, 1) := by decide +kernel
theorem d333_35 : decode cX9_retune 35 = .ok (.invokestatic 206, 3) := by decide +kernel
theorem d333_38 : decode cX9_retune 38 = .ok (.iload_n 2, 1) := by decide +kernel
theorem d333_39 : decode cX9_retune 39 = .ok (.invokevirtual 427, 3) := by decide +kernel
theorem d333_42 : decode cX9_retune 42 = .ok (.ireturn, 1) := by decide +kernel
theorem v333_0 {w : PW} {Q : PO → PW → Prop} {x1 : Int} {x2 : Int} (hs : Sh w) (hx1 : bd x1) (hx2 : bd x2) (h : (bd ((gI w 170 4) - 1)) ∧ ((0 ≤ x1 ∧ x1 < gI w 170 4) → ∀ w2 : PW, w2 = sI w 169 0 0 → ((0 ≤ x2 ∧ x2 ≤ 23) → pC 331 [.ref 169, iv ((11 + 5 * x1) + 0), iv x2] w2 (kI fun u5 w4 => Sh w4 ∧ Q (.inl (some (iv u5))) w4)) ∧ ((¬ (0 ≤ x2 ∧ x2 ≤ 23)) → ∀ w6 : PW, w6 = sI w2 169 0 2 → Q (.inl (some (iv 0))) w6)) ∧ ((¬ (0 ≤ x1 ∧ x1 < gI w 170 4)) → ∀ w8 : PW, w8 = sI w 169 0 1 → Q (.inl (some (iv 0))) w8)) : pX 333 0 [some (.ref 169), some (iv x1), some (iv x2)] [] w Q :=
  w_f b333 d333_0 rfl rfl rfl <| w_f b333 d333_1 rfl rfl rfl <| w_cc b333 d333_2 rfl (pcl_v (n := 1) rfl rfl rfl (by decide +kernel) (sh_isOb hs (tlt 169 rfl) tbC_169) rfl rfl) rfl <| c259 hs hx1 h.1 (fun c1 => w_ifne b333 d333_5 rfl rfl (p333 _ _) ⟨by decide, by decide⟩ (fun c => absurd c (by decide)) (fun _ => w_f b333 d333_8 rfl rfl rfl <| w_f b333 d333_9 rfl rfl rfl <| w_cc b333 d333_10 rfl (pcl_s1 (n := 1) rfl rfl rfl (by decide +kernel) rfl rfl) rfl <| c309 (Sh_sI hs (slt_o tbC_169 rfl)) hx2 <| w_ifneZ b333 d333_13 rfl rfl (p333 _ _) (fun c3 => w_f b333 d333_20 rfl rfl rfl <| w_f b333 d333_21 rfl rfl rfl <| w_cc b333 d333_22 rfl (pcl_v (n := 2) rfl rfl rfl (by decide +kernel) (sh_isOb (Sh_sI hs (slt_o tbC_169 rfl)) (tlt 169 rfl) tbC_169) rfl rfl) rfl <| c260a (Sh_sI hs (slt_o tbC_169 rfl)) ⟨by decide, by decide⟩ ⟨by decide, by decide⟩ <| w_ifeq b333 d333_25 rfl rfl (p333 _ _) ⟨by decide, by decide⟩ (fun _ => w_f b333 d333_32 rfl rfl rfl <| w_f b333 d333_33 rfl rfl rfl <| w_f b333 d333_34 rfl rfl rfl <| w_cc b333 d333_35 rfl (pcl_s1 (n := 2) rfl rfl rfl (by decide +kernel) rfl rfl) rfl <| c230 (Sh_sI hs (slt_o tbC_169 rfl)) hx1 ⟨by decide, by decide⟩ <| w_f b333 d333_38 rfl rfl rfl <| w_c b333 d333_39 rfl (pcl_v (n := 2) rfl rfl rfl (by decide +kernel) (sh_isOb (Sh_sI hs (slt_o tbC_169 rfl)) (tlt 169 rfl) tbC_169) rfl rfl) rfl _ (hK_I fun u5 w4 hbu5 hkw4 => w_ri b333 d333_42 r333 hkw4.2) ((h.2.1 c1 _ rfl).1 c3)) (fun c => absurd c (by decide))) (fun c3 => w_f b333 d333_16 rfl rfl rfl <| w_j b333 d333_17 rfl (p333 _ _) <| w_f b333 d333_21 rfl rfl rfl <| w_cc b333 d333_22 rfl (pcl_v (n := 2) rfl rfl rfl (by decide +kernel) (sh_isOb (Sh_sI hs (slt_o tbC_169 rfl)) (tlt 169 rfl) tbC_169) rfl rfl) rfl <| c260b (Sh_sI hs (slt_o tbC_169 rfl)) ⟨by decide, by decide⟩ ⟨by decide, by decide⟩ <| w_ifeq b333 d333_25 rfl rfl (p333 _ _) ⟨by decide, by decide⟩ (fun c => absurd c (by decide)) (fun _ => w_f b333 d333_28 rfl rfl rfl <| w_j b333 d333_29 rfl (p333 _ _) <| w_ri b333 d333_42 r333 (((h.2.1 c1 _ rfl).2 c3) _ rfl))))) (fun c7 => w_ifne b333 d333_5 rfl rfl (p333 _ _) ⟨by decide, by decide⟩ (fun _ => w_f b333 d333_28 rfl rfl rfl <| w_j b333 d333_29 rfl (p333 _ _) <| w_ri b333 d333_42 r333 (h.2.2 c7 _ rfl)) (fun c => absurd c (by decide)))
theorem e333 {w : PW} {Q : PO → PW → Prop} {x1 : Int} {x2 : Int} (hs : Sh w) (hx1 : bd x1) (hx2 : bd x2) (h : (bd ((gI w 170 4) - 1)) ∧ ((0 ≤ x1 ∧ x1 < gI w 170 4) → ∀ w2 : PW, w2 = sI w 169 0 0 → ((0 ≤ x2 ∧ x2 ≤ 23) → pC 331 [.ref 169, iv ((11 + 5 * x1) + 0), iv x2] w2 (kI fun u5 w4 => Sh w4 ∧ Q (.inl (some (iv u5))) w4)) ∧ ((¬ (0 ≤ x2 ∧ x2 ≤ 23)) → ∀ w6 : PW, w6 = sI w2 169 0 2 → Q (.inl (some (iv 0))) w6)) ∧ ((¬ (0 ≤ x1 ∧ x1 < gI w 170 4)) → ∀ w8 : PW, w8 = sI w 169 0 1 → Q (.inl (some (iv 0))) w8)) : pC 333 [.ref 169, iv x1, iv x2] w Q :=
  (pC_in (Nat.le_of_ble_eq_true rfl) rfl Q).mpr (v333_0 hs hx1 hx2 h)
/-! 334: PinBarrelModel.setPin(IIIZ)Z -/
theorem b334 : mB 334 = cX9_setPin := rfl
theorem r334 : mR 334 = (some .boolean) := rfl
theorem p334 (a b : Nat) : phi 334 a ≤ phi 334 b := Nat.le_refl 0
theorem d334_0 : decode cX9_setPin 0 = .ok (.aload_n 0, 1) := by decide +kernel
theorem d334_1 : decode cX9_setPin 1 = .ok (.iload_n 1, 1) := by decide +kernel
theorem d334_2 : decode cX9_setPin 2 = .ok (.iload_n 2, 1) := by decide +kernel
theorem d334_3 : decode cX9_setPin 3 = .ok (.invokevirtual 374, 3) := by decide +kernel
theorem d334_6 : decode cX9_setPin 6 = .ok (.ifCond .ne 24, 3) := by decide +kernel
theorem d334_9 : decode cX9_setPin 9 = .ok (.aload_n 0, 1) := by decide +kernel
theorem d334_10 : decode cX9_setPin 10 = .ok (.aload_n 0, 1) := by decide +kernel
theorem d334_11 : decode cX9_setPin 11 = .ok (.iload_n 3, 1) := by decide +kernel
theorem d334_12 : decode cX9_setPin 12 = .ok (.invokevirtual 343, 3) := by decide +kernel
theorem d334_15 : decode cX9_setPin 15 = .ok (.ifCond .ne 7, 3) := by decide +kernel
theorem d334_18 : decode cX9_setPin 18 = .ok (.iconst 1, 1) := by decide +kernel
theorem d334_19 : decode cX9_setPin 19 = .ok (.goto 4, 3) := by decide +kernel
theorem d334_22 : decode cX9_setPin 22 = .ok (.iconst 0, 1) := by decide +kernel
theorem d334_23 : decode cX9_setPin 23 = .ok (.iconst 2, 1) := by decide +kernel
theorem d334_24 : decode cX9_setPin 24 = .ok (.invokevirtual 356, 3) := by decide +kernel
theorem d334_27 : decode cX9_setPin 27 = .ok (.ifCond .eq 5, 3) := by decide +kernel
theorem d334_30 : decode cX9_setPin 30 = .ok (.iconst 0, 1) := by decide +kernel
theorem d334_31 : decode cX9_setPin 31 = .ok (.ireturn, 1) := by decide +kernel
theorem d334_32 : decode cX9_setPin 32 = .ok (.aload_n 0, 1) := by decide +kernel
theorem d334_33 : decode cX9_setPin 33 = .ok (.invokevirtual 419, 3) := by decide +kernel
theorem d334_36 : decode cX9_setPin 36 = .ok (.aload_n 0, 1) := by decide +kernel
theorem d334_37 : decode cX9_setPin 37 = .ok (.iload_n 1, 1) := by decide +kernel
theorem d334_38 : decode cX9_setPin 38 = .ok (.iload_n 2, 1) := by decide +kernel
theorem d334_39 : decode cX9_setPin 39 = .ok (.iload_n 3, 1) := by decide +kernel
theorem d334_40 : decode cX9_setPin 40 = .ok (.invokevirtual 228, 3) := by decide +kernel
theorem d334_43 : decode cX9_setPin 43 = .ok (.istore 5, 2) := by decide +kernel
theorem d334_45 : decode cX9_setPin 45 = .ok (.aload_n 0, 1) := by decide +kernel
theorem d334_46 : decode cX9_setPin 46 = .ok (.iload_n 1, 1) := by decide +kernel
theorem d334_47 : decode cX9_setPin 47 = .ok (.iload_n 2, 1) := by decide +kernel
theorem d334_48 : decode cX9_setPin 48 = .ok (.iload_n 3, 1) := by decide +kernel
theorem d334_49 : decode cX9_setPin 49 = .ok (.iload 4, 2) := by decide +kernel
theorem d334_51 : decode cX9_setPin 51 = .ok (.invokevirtual 160, 3) := by decide +kernel
theorem d334_54 : decode cX9_setPin 54 = .ok (.iload 5, 2) := by decide +kernel
theorem d334_56 : decode cX9_setPin 56 = .ok (.ireturn, 1) := by decide +kernel
theorem v334_0 {w : PW} {Q : PO → PW → Prop} {x1 : Int} {x2 : Int} {x3 : Int} {x4 : Int} (hs : Sh w) (hx1 : bd x1) (hx2 : bd x2) (hx3 : bd x3) (hx4 : bd x4) (h : (bd ((gI w 170 1) - 1)) ∧ (bd ((gI w 170 0) - 1)) ∧ (((0 ≤ x1 ∧ x1 < gI w 170 1) ∧ (0 ≤ x2 ∧ x2 < gI w 170 0)) → ∀ w2 : PW, w2 = sI w 169 0 0 → (bd ((gI w2 170 4) - 1)) ∧ ((0 ≤ x3 ∧ x3 < gI w2 170 4) → pC 326 [.ref 169] w2 (kV fun w4 => Sh w4 ∧ (bd ((251 + 64 * x1) + x2)) ∧ (0 ≤ (251 + 64 * x1) + x2 ∧ (251 + 64 * x1) + x2 < 843) ∧ (0 ≤ x3 ∧ x3 < 32) ∧ pC 237 [.ref 169, iv x1, iv x2, iv x3, iv x4] w4 (kV fun w6 => Sh w6 ∧ Q (.inl (some (iv (if tI (gI w4 170 ((251 + 64 * x1) + x2).toNat) (x3).toNat = true then 1 else 0)))) w6))) ∧ ((¬ (0 ≤ x3 ∧ x3 < gI w2 170 4)) → ∀ w8 : PW, w8 = sI w2 169 0 2 → Q (.inl (some (iv 0))) w8)) ∧ ((¬ ((0 ≤ x1 ∧ x1 < gI w 170 1) ∧ (0 ≤ x2 ∧ x2 < gI w 170 0))) → ∀ w10 : PW, w10 = sI w 169 0 1 → Q (.inl (some (iv 0))) w10)) : pX 334 0 [some (.ref 169), some (iv x1), some (iv x2), some (iv x3), some (iv x4), none] [] w Q :=
  w_f b334 d334_0 rfl rfl rfl <| w_f b334 d334_1 rfl rfl rfl <| w_f b334 d334_2 rfl rfl rfl <| w_cc b334 d334_3 rfl (pcl_v (n := 2) rfl rfl rfl (by decide +kernel) (sh_isOb hs (tlt 169 rfl) tbC_169) rfl rfl) rfl <| c273 hs hx1 hx2 h.1 h.2.1 (fun c1 => w_ifne b334 d334_6 rfl rfl (p334 _ _) ⟨by decide, by decide⟩ (fun c => absurd c (by decide)) (fun _ => w_f b334 d334_9 rfl rfl rfl <| w_f b334 d334_10 rfl rfl rfl <| w_f b334 d334_11 rfl rfl rfl <| w_cc b334 d334_12 rfl (pcl_v (n := 1) rfl rfl rfl (by decide +kernel) (sh_isOb (Sh_sI hs (slt_o tbC_169 rfl)) (tlt 169 rfl) tbC_169) rfl rfl) rfl <| c258 (Sh_sI hs (slt_o tbC_169 rfl)) hx3 (h.2.2.1 c1 _ rfl).1 <| w_ifneZ b334 d334_15 rfl rfl (p334 _ _) (fun c3 => w_f b334 d334_22 rfl rfl rfl <| w_f b334 d334_23 rfl rfl rfl <| w_cc b334 d334_24 rfl (pcl_v (n := 2) rfl rfl rfl (by decide +kernel) (sh_isOb (Sh_sI hs (slt_o tbC_169 rfl)) (tlt 169 rfl) tbC_169) rfl rfl) rfl <| c260a (Sh_sI hs (slt_o tbC_169 rfl)) ⟨by decide, by decide⟩ ⟨by decide, by decide⟩ <| w_ifeq b334 d334_27 rfl rfl (p334 _ _) ⟨by decide, by decide⟩ (fun _ => w_f b334 d334_32 rfl rfl rfl <| w_c b334 d334_33 rfl (pcl_v (n := 0) rfl rfl rfl (by decide +kernel) (sh_isOb (Sh_sI hs (slt_o tbC_169 rfl)) (tlt 169 rfl) tbC_169) rfl rfl) rfl _ (hK_V fun w4 hkw4 => w_f b334 d334_36 rfl rfl rfl <| w_f b334 d334_37 rfl rfl rfl <| w_f b334 d334_38 rfl rfl rfl <| w_f b334 d334_39 rfl rfl rfl <| w_cc b334 d334_40 rfl (pcl_v (n := 3) rfl rfl rfl (by decide +kernel) (sh_isOb hkw4.1 (tlt 169 rfl) tbC_169) rfl rfl) rfl <| c251 hkw4.1 hx1 hx2 hx3 hkw4.2.1 hkw4.2.2.1 hkw4.2.2.2.1 <| w_f b334 d334_43 rfl rfl rfl <| w_f b334 d334_45 rfl rfl rfl <| w_f b334 d334_46 rfl rfl rfl <| w_f b334 d334_47 rfl rfl rfl <| w_f b334 d334_48 rfl rfl rfl <| w_f b334 d334_49 rfl rfl rfl <| w_c b334 d334_51 rfl (pcl_v (n := 4) rfl rfl rfl (by decide +kernel) (sh_isOb hkw4.1 (tlt 169 rfl) tbC_169) rfl rfl) rfl _ (hK_V fun w6 hkw6 => w_f b334 d334_54 rfl rfl rfl <| w_rz b334 d334_56 r334 (zor _) hkw6.2) hkw4.2.2.2.2) ((h.2.2.1 c1 _ rfl).2.1 c3)) (fun c => absurd c (by decide))) (fun c3 => w_f b334 d334_18 rfl rfl rfl <| w_j b334 d334_19 rfl (p334 _ _) <| w_f b334 d334_23 rfl rfl rfl <| w_cc b334 d334_24 rfl (pcl_v (n := 2) rfl rfl rfl (by decide +kernel) (sh_isOb (Sh_sI hs (slt_o tbC_169 rfl)) (tlt 169 rfl) tbC_169) rfl rfl) rfl <| c260b (Sh_sI hs (slt_o tbC_169 rfl)) ⟨by decide, by decide⟩ ⟨by decide, by decide⟩ <| w_ifeq b334 d334_27 rfl rfl (p334 _ _) ⟨by decide, by decide⟩ (fun c => absurd c (by decide)) (fun _ => w_f b334 d334_30 rfl rfl rfl <| w_rz b334 d334_31 r334 (by decide) (((h.2.2.1 c1 _ rfl).2.2 c3) _ rfl))))) (fun c9 => w_ifne b334 d334_6 rfl rfl (p334 _ _) ⟨by decide, by decide⟩ (fun _ => w_f b334 d334_30 rfl rfl rfl <| w_rz b334 d334_31 r334 (by decide) (h.2.2.2 c9 _ rfl)) (fun c => absurd c (by decide)))
theorem e334 {w : PW} {Q : PO → PW → Prop} {x1 : Int} {x2 : Int} {x3 : Int} {x4 : Int} (hs : Sh w) (hx1 : bd x1) (hx2 : bd x2) (hx3 : bd x3) (hx4 : bd x4) (h : (bd ((gI w 170 1) - 1)) ∧ (bd ((gI w 170 0) - 1)) ∧ (((0 ≤ x1 ∧ x1 < gI w 170 1) ∧ (0 ≤ x2 ∧ x2 < gI w 170 0)) → ∀ w2 : PW, w2 = sI w 169 0 0 → (bd ((gI w2 170 4) - 1)) ∧ ((0 ≤ x3 ∧ x3 < gI w2 170 4) → pC 326 [.ref 169] w2 (kV fun w4 => Sh w4 ∧ (bd ((251 + 64 * x1) + x2)) ∧ (0 ≤ (251 + 64 * x1) + x2 ∧ (251 + 64 * x1) + x2 < 843) ∧ (0 ≤ x3 ∧ x3 < 32) ∧ pC 237 [.ref 169, iv x1, iv x2, iv x3, iv x4] w4 (kV fun w6 => Sh w6 ∧ Q (.inl (some (iv (if tI (gI w4 170 ((251 + 64 * x1) + x2).toNat) (x3).toNat = true then 1 else 0)))) w6))) ∧ ((¬ (0 ≤ x3 ∧ x3 < gI w2 170 4)) → ∀ w8 : PW, w8 = sI w2 169 0 2 → Q (.inl (some (iv 0))) w8)) ∧ ((¬ ((0 ≤ x1 ∧ x1 < gI w 170 1) ∧ (0 ≤ x2 ∧ x2 < gI w 170 0))) → ∀ w10 : PW, w10 = sI w 169 0 1 → Q (.inl (some (iv 0))) w10)) : pC 334 [.ref 169, iv x1, iv x2, iv x3, iv x4] w Q :=
  (pC_in (Nat.le_of_ble_eq_true rfl) rfl Q).mpr (v334_0 hs hx1 hx2 hx3 hx4 h)
/-! 335: PinBarrelModel.clears(I)V -/
theorem b335 : mB 335 = cX9_clears := rfl
theorem r335 : mR 335 = none := rfl
theorem p335 (a b : Nat) : phi 335 a ≤ phi 335 b := Nat.le_refl 0
theorem d335_0 : decode cX9_clears 0 = .ok (.iconst 0, 1) := by decide +kernel
theorem d335_1 : decode cX9_clears 1 = .ok (.istore_n 2, 1) := by decide +kernel
theorem d335_2 : decode cX9_clears 2 = .ok (.iload_n 2, 1) := by decide +kernel
theorem d335_3 : decode cX9_clears 3 = .ok (.aload_n 0, 1) := by decide +kernel
theorem d335_4 : decode cX9_clears 4 = .ok (.getfield 9, 3) := by decide +kernel
theorem d335_7 : decode cX9_clears 7 = .ok (.iconst 0, 1) := by decide +kernel
theorem d335_8 : decode cX9_clears 8 = .ok (.iaload, 1) := by decide +kernel
theorem d335_9 : decode cX9_clears 9 = .ok (.if_icmp .ge 20, 3) := by decide +kernel
theorem d335_12 : decode cX9_clears 12 = .ok (.aload_n 0, 1) := by decide +kernel
theorem d335_13 : decode cX9_clears 13 = .ok (.getfield 9, 3) := by decide +kernel
theorem d335_16 : decode cX9_clears 16 = .ok (.iload_n 1, 1) := by decide +kernel
theorem d335_17 : decode cX9_clears 17 = .ok (.iload_n 2, 1) := by decide +kernel
theorem d335_18 : decode cX9_clears 18 = .ok (.invokestatic 213, 3) := by decide +kernel
theorem d335_21 : decode cX9_clears 21 = .ok (.iconst 0, 1) := by decide +kernel
theorem d335_22 : decode cX9_clears 22 = .ok (.iastore, 1) := by decide +kernel
theorem d335_23 : decode cX9_clears 23 = .ok (.iinc 2 1, 3) := by decide +kernel
theorem d335_26 : decode cX9_clears 26 = .ok (.goto (-24), 3) := by decide +kernel
theorem d335_29 : decode cX9_clears 29 = .ok (.return_, 1) := by decide +kernel
theorem v335_0 {w : PW} {Q : PO → PW → Prop} {x1 : Int} (hs : Sh w) (hx1 : bd x1) (h : pX 335 2 [some (.ref 169), some (iv x1), some (iv 0)] [] w Q) : pX 335 0 [some (.ref 169), some (iv x1), none] [] w Q :=
  w_f b335 d335_0 rfl rfl rfl <| w_f b335 d335_1 rfl rfl rfl <| h
theorem e335 {w : PW} {Q : PO → PW → Prop} {x1 : Int} (hs : Sh w) (hx1 : bd x1) (h : pX 335 2 [some (.ref 169), some (iv x1), some (iv 0)] [] w Q) : pC 335 [.ref 169, iv x1] w Q :=
  (pC_in (Nat.le_of_ble_eq_true rfl) rfl Q).mpr (v335_0 hs hx1 h)
theorem v335_2 {w : PW} {Q : PO → PW → Prop} {x1 : Int} {x2 : Int} (hs : Sh w) (hx1 : bd x1) (hx2 : bd x2) (h : ((gI w 170 0) ≤ x2 → Q (.inl none) w) ∧ (x2 < (gI w 170 0) → (0 ≤ ((251 + 64 * x1) + x2) ∧ ((251 + 64 * x1) + x2) < 843) ∧ ∀ w2 : PW, w2 = sI w 170 ((251 + 64 * x1) + x2).toNat 0 → pX 335 2 [some (.ref 169), some (iv x1), some (iv (x2 + 1))] [] w2 Q)) : pX 335 2 [some (.ref 169), some (iv x1), some (iv x2)] [] w Q :=
  w_f b335 d335_2 rfl rfl rfl <| w_f b335 d335_3 rfl rfl rfl <| w_gr b335 d335_4 rfl rfl hs (tlt 169 rfl) tbC_169 rfl (by decide) <| w_f b335 d335_7 rfl rfl rfl <| w_ial b335 d335_8 rfl hs (tlt 170 rfl) tbC_170 (bdix (n := 843) ⟨by decide, by decide⟩ rfl) ⟨by decide, by decide⟩ <| w_icge b335 d335_9 rfl rfl (p335 _ _) hx2 (bd_gI _ _ _) (fun c1 => w_rv b335 d335_29 r335 (h.1 c1)) (fun c1 => w_f b335 d335_12 rfl rfl rfl <| w_gr b335 d335_13 rfl rfl hs (tlt 169 rfl) tbC_169 rfl (by decide) <| w_f b335 d335_16 rfl rfl rfl <| w_f b335 d335_17 rfl rfl rfl <| w_cc b335 d335_18 rfl (pcl_s1 (n := 2) rfl rfl rfl (by decide +kernel) rfl rfl) rfl <| c236 hs hx1 hx2 <| w_f b335 d335_21 rfl rfl rfl <| w_ias b335 d335_22 rfl hs (tlt 170 rfl) tbC_170 (bdix (n := 843) (h.2 c1).1 rfl) (h.2 c1).1 <| w_f b335 d335_23 rfl (pf_iinc rfl rfl) rfl <| w_j b335 d335_26 rfl (p335 _ _) <| ((h.2 c1).2 _ rfl))
/-! 336: PinBarrelModel.clear(I)I -/
theorem b336 : mB 336 = cX9_clear := rfl
theorem r336 : mR 336 = (some .int) := rfl
theorem p336 (a b : Nat) : phi 336 a ≤ phi 336 b := Nat.le_refl 0
theorem d336_0 : decode cX9_clear 0 = .ok (.aload_n 0, 1) := by decide +kernel
theorem d336_1 : decode cX9_clear 1 = .ok (.iload_n 1, 1) := by decide +kernel
theorem d336_2 : decode cX9_clear 2 = .ok (.invokevirtual 377, 3) := by decide +kernel
theorem d336_5 : decode cX9_clear 5 = .ok (.ifCond .eq 5, 3) := by decide +kernel
theorem d336_8 : decode cX9_clear 8 = .ok (.iconst 0, 1) := by decide +kernel
theorem d336_9 : decode cX9_clear 9 = .ok (.ireturn, 1) := by decide +kernel
theorem d336_10 : decode cX9_clear 10 = .ok (.aload_n 0, 1) := by decide +kernel
theorem d336_11 : decode cX9_clear 11 = .ok (.invokevirtual 419, 3) := by decide +kernel
theorem d336_14 : decode cX9_clear 14 = .ok (.aload_n 0, 1) := by decide +kernel
theorem d336_15 : decode cX9_clear 15 = .ok (.iload_n 1, 1) := by decide +kernel
theorem d336_16 : decode cX9_clear 16 = .ok (.invokevirtual 225, 3) := by decide +kernel
theorem d336_19 : decode cX9_clear 19 = .ok (.istore_n 2, 1) := by decide +kernel
theorem d336_20 : decode cX9_clear 20 = .ok (.aload_n 0, 1) := by decide +kernel
theorem d336_21 : decode cX9_clear 21 = .ok (.iload_n 1, 1) := by decide +kernel
theorem d336_22 : decode cX9_clear 22 = .ok (.invokevirtual 430, 3) := by decide +kernel
theorem d336_25 : decode cX9_clear 25 = .ok (.iload_n 2, 1) := by decide +kernel
theorem d336_26 : decode cX9_clear 26 = .ok (.ireturn, 1) := by decide +kernel
theorem v336_0 {w : PW} {Q : PO → PW → Prop} {x1 : Int} (hs : Sh w) (hx1 : bd x1) (h : (bd ((gI w 170 1) - 1)) ∧ ((0 ≤ x1 ∧ x1 < gI w 170 1) → ∀ w2 : PW, w2 = sI w 169 0 0 → pC 326 [.ref 169] w2 (kV fun w3 => Sh w3 ∧ pC 247 [.ref 169, iv x1] w3 (kI fun u6 w5 => Sh w5 ∧ pC 335 [.ref 169, iv x1] w5 (kV fun w7 => Sh w7 ∧ Q (.inl (some (iv u6))) w7)))) ∧ ((¬ (0 ≤ x1 ∧ x1 < gI w 170 1)) → ∀ w10 : PW, w10 = sI w 169 0 1 → Q (.inl (some (iv 0))) w10)) : pX 336 0 [some (.ref 169), some (iv x1), none] [] w Q :=
  w_f b336 d336_0 rfl rfl rfl <| w_f b336 d336_1 rfl rfl rfl <| w_cc b336 d336_2 rfl (pcl_v (n := 1) rfl rfl rfl (by decide +kernel) (sh_isOb hs (tlt 169 rfl) tbC_169) rfl rfl) rfl <| c275 hs hx1 h.1 (fun c1 => w_ifeq b336 d336_5 rfl rfl (p336 _ _) ⟨by decide, by decide⟩ (fun _ => w_f b336 d336_10 rfl rfl rfl <| w_c b336 d336_11 rfl (pcl_v (n := 0) rfl rfl rfl (by decide +kernel) (sh_isOb (Sh_sI hs (slt_o tbC_169 rfl)) (tlt 169 rfl) tbC_169) rfl rfl) rfl _ (hK_V fun w3 hkw3 => w_f b336 d336_14 rfl rfl rfl <| w_f b336 d336_15 rfl rfl rfl <| w_c b336 d336_16 rfl (pcl_v (n := 1) rfl rfl rfl (by decide +kernel) (sh_isOb hkw3.1 (tlt 169 rfl) tbC_169) rfl rfl) rfl _ (hK_I fun u6 w5 hbu6 hkw5 => w_f b336 d336_19 rfl rfl rfl <| w_f b336 d336_20 rfl rfl rfl <| w_f b336 d336_21 rfl rfl rfl <| w_c b336 d336_22 rfl (pcl_v (n := 1) rfl rfl rfl (by decide +kernel) (sh_isOb hkw5.1 (tlt 169 rfl) tbC_169) rfl rfl) rfl _ (hK_V fun w7 hkw7 => w_f b336 d336_25 rfl rfl rfl <| w_ri b336 d336_26 r336 hkw7.2) hkw5.2) hkw3.2) (h.2.1 c1 _ rfl)) (fun c => absurd c (by decide))) (fun c9 => w_ifeq b336 d336_5 rfl rfl (p336 _ _) ⟨by decide, by decide⟩ (fun c => absurd c (by decide)) (fun _ => w_f b336 d336_8 rfl rfl rfl <| w_ri b336 d336_9 r336 (h.2.2 c9 _ rfl)))
theorem e336 {w : PW} {Q : PO → PW → Prop} {x1 : Int} (hs : Sh w) (hx1 : bd x1) (h : (bd ((gI w 170 1) - 1)) ∧ ((0 ≤ x1 ∧ x1 < gI w 170 1) → ∀ w2 : PW, w2 = sI w 169 0 0 → pC 326 [.ref 169] w2 (kV fun w3 => Sh w3 ∧ pC 247 [.ref 169, iv x1] w3 (kI fun u6 w5 => Sh w5 ∧ pC 335 [.ref 169, iv x1] w5 (kV fun w7 => Sh w7 ∧ Q (.inl (some (iv u6))) w7)))) ∧ ((¬ (0 ≤ x1 ∧ x1 < gI w 170 1)) → ∀ w10 : PW, w10 = sI w 169 0 1 → Q (.inl (some (iv 0))) w10)) : pC 336 [.ref 169, iv x1] w Q :=
  (pC_in (Nat.le_of_ble_eq_true rfl) rfl Q).mpr (v336_0 hs hx1 h)
/-! 341: PinBarrelModel.setSpeed(I)I -/
theorem b341 : mB 341 = cX9_setSpeed := rfl
theorem r341 : mR 341 = (some .int) := rfl
theorem p341 (a b : Nat) : phi 341 a ≤ phi 341 b := Nat.le_refl 0
theorem d341_0 : decode cX9_setSpeed 0 = .ok (.aload_n 0, 1) := by decide +kernel
theorem d341_1 : decode cX9_setSpeed 1 = .ok (.iload_n 1, 1) := by decide +kernel
theorem d341_2 : decode cX9_setSpeed 2 = .ok (.i2l, 1) := by decide +kernel
theorem d341_3 : decode cX9_setSpeed 3 = .ok (.lconst 1, 1) := by decide +kernel
theorem d341_4 : decode cX9_setSpeed 4 = .ok (.ldc2_w 435, 3) := by decide +kernel
theorem d341_7 : decode cX9_setSpeed 7 = .ok (.invokestatic 81, 3) := by decide +kernel
theorem d341_10 : decode cX9_setSpeed 10 = .ok (.ifCond .ne 7, 3) := by decide +kernel
theorem d341_13 : decode cX9_setSpeed 13 = .ok (.iconst 1, 1) := by decide +kernel
theorem d341_14 : decode cX9_setSpeed 14 = .ok (.goto 4, 3) := by decide +kernel
theorem d341_17 : decode cX9_setSpeed 17 = .ok (.iconst 0, 1) := by decide +kernel
theorem d341_18 : decode cX9_setSpeed 18 = .ok (.invokevirtual 328, 3) := by decide +kernel
theorem d341_21 : decode cX9_setSpeed 21 = .ok (.ifCond .eq 7, 3) := by decide +kernel
theorem d341_24 : decode cX9_setSpeed 24 = .ok (.iconst 0, 1) := by decide +kernel
theorem d341_25 : decode cX9_setSpeed 25 = .ok (.goto 9, 3) := by decide +kernel
theorem d341_28 : decode cX9_setSpeed 28 = .ok (.aload_n 0, 1) := by decide +kernel
theorem d341_29 : decode cX9_setSpeed 29 = .ok (.iconst 3, 1) := by decide +kernel
theorem d341_30 : decode cX9_setSpeed 30 = .ok (.iload_n 1, 1) := by decide +kernel
theorem d341_31 : decode cX9_setSpeed 31 = .ok (.invokevirtual 427, 3) := by decide +kernel
theorem d341_34 : decode cX9_setSpeed 34 = .ok (.ireturn, 1) := by decide +kernel
theorem v341_0 {w : PW} {Q : PO → PW → Prop} {x1 : Int} (hs : Sh w) (hx1 : bd x1) (h : ((((1 : Int64)).toInt ≤ (i2L x1).toInt ∧ (i2L x1).toInt ≤ ((4 : Int64)).toInt) → ∀ w2 : PW, w2 = sI w 169 0 0 → pC 331 [.ref 169, iv 3, iv x1] w2 (kI fun u4 w3 => Sh w3 ∧ Q (.inl (some (iv u4))) w3)) ∧ ((¬ (((1 : Int64)).toInt ≤ (i2L x1).toInt ∧ (i2L x1).toInt ≤ ((4 : Int64)).toInt)) → ∀ w5 : PW, w5 = sI w 169 0 1 → Q (.inl (some (iv 0))) w5)) : pX 341 0 [some (.ref 169), some (iv x1)] [] w Q :=
  w_f b341 d341_0 rfl rfl rfl <| w_f b341 d341_1 rfl rfl rfl <| w_f b341 d341_2 rfl rfl rfl <| w_f b341 d341_3 rfl rfl rfl <| w_ldcL b341 d341_4 rfl rfl <| w_cc b341 d341_7 rfl (pcl_s1 (n := 3) rfl rfl rfl (by decide +kernel) rfl rfl) rfl <| c221 hs <| w_ifneZ b341 d341_10 rfl rfl (p341 _ _) (fun c1 => w_f b341 d341_17 rfl rfl rfl <| w_cc b341 d341_18 rfl (pcl_v (n := 1) rfl rfl rfl (by decide +kernel) (sh_isOb hs (tlt 169 rfl) tbC_169) rfl rfl) rfl <| c245 hs ⟨by decide, by decide⟩ (by decide) <| w_ifeq b341 d341_21 rfl rfl (p341 _ _) ⟨by decide, by decide⟩ (fun _ => w_f b341 d341_28 rfl rfl rfl <| w_f b341 d341_29 rfl rfl rfl <| w_f b341 d341_30 rfl rfl rfl <| w_c b341 d341_31 rfl (pcl_v (n := 2) rfl rfl rfl (by decide +kernel) (sh_isOb (Sh_sI hs (slt_o tbC_169 rfl)) (tlt 169 rfl) tbC_169) rfl rfl) rfl _ (hK_I fun u4 w3 hbu4 hkw3 => w_ri b341 d341_34 r341 hkw3.2) ((h.1 c1) _ rfl)) (fun c => absurd c (by decide))) (fun c1 => w_f b341 d341_13 rfl rfl rfl <| w_j b341 d341_14 rfl (p341 _ _) <| w_cc b341 d341_18 rfl (pcl_v (n := 1) rfl rfl rfl (by decide +kernel) (sh_isOb hs (tlt 169 rfl) tbC_169) rfl rfl) rfl <| c245 hs ⟨by decide, by decide⟩ (by decide) <| w_ifeq b341 d341_21 rfl rfl (p341 _ _) ⟨by decide, by decide⟩ (fun c => absurd c (by decide)) (fun _ => w_f b341 d341_24 rfl rfl rfl <| w_j b341 d341_25 rfl (p341 _ _) <| w_ri b341 d341_34 r341 ((h.2 c1) _ rfl)))
theorem e341 {w : PW} {Q : PO → PW → Prop} {x1 : Int} (hs : Sh w) (hx1 : bd x1) (h : ((((1 : Int64)).toInt ≤ (i2L x1).toInt ∧ (i2L x1).toInt ≤ ((4 : Int64)).toInt) → ∀ w2 : PW, w2 = sI w 169 0 0 → pC 331 [.ref 169, iv 3, iv x1] w2 (kI fun u4 w3 => Sh w3 ∧ Q (.inl (some (iv u4))) w3)) ∧ ((¬ (((1 : Int64)).toInt ≤ (i2L x1).toInt ∧ (i2L x1).toInt ≤ ((4 : Int64)).toInt)) → ∀ w5 : PW, w5 = sI w 169 0 1 → Q (.inl (some (iv 0))) w5)) : pC 341 [.ref 169, iv x1] w Q :=
  (pC_in (Nat.le_of_ble_eq_true rfl) rfl Q).mpr (v341_0 hs hx1 h)
/-! 342: PinBarrelModel.setGap(I)I -/
theorem b342 : mB 342 = cX9_setGap := rfl
theorem r342 : mR 342 = (some .int) := rfl
theorem p342 (a b : Nat) : phi 342 a ≤ phi 342 b := Nat.le_refl 0
theorem d342_0 : decode cX9_setGap 0 = .ok (.aload_n 0, 1) := by decide +kernel
theorem d342_1 : decode cX9_setGap 1 = .ok (.iload_n 1, 1) := by decide +kernel
theorem d342_2 : decode cX9_setGap 2 = .ok (.i2l, 1) := by decide +kernel
theorem d342_3 : decode cX9_setGap 3 = .ok (.lconst 0, 1) := by decide +kernel
theorem d342_4 : decode cX9_setGap 4 = .ok (.ldc2_w 369, 3) := by decide +kernel
theorem d342_7 : decode cX9_setGap 7 = .ok (.invokestatic 81, 3) := by decide +kernel
theorem d342_10 : decode cX9_setGap 10 = .ok (.ifCond .ne 7, 3) := by decide +kernel
theorem d342_13 : decode cX9_setGap 13 = .ok (.iconst 1, 1) := by decide +kernel
theorem d342_14 : decode cX9_setGap 14 = .ok (.goto 4, 3) := by decide +kernel
theorem d342_17 : decode cX9_setGap 17 = .ok (.iconst 0, 1) := by decide +kernel
theorem d342_18 : decode cX9_setGap 18 = .ok (.invokevirtual 328, 3) := by decide +kernel
theorem d342_21 : decode cX9_setGap 21 = .ok (.ifCond .eq 7, 3) := by decide +kernel
theorem d342_24 : decode cX9_setGap 24 = .ok (.iconst 0, 1) := by decide +kernel
theorem d342_25 : decode cX9_setGap 25 = .ok (.goto 9, 3) := by decide +kernel
theorem d342_28 : decode cX9_setGap 28 = .ok (.aload_n 0, 1) := by decide +kernel
theorem d342_29 : decode cX9_setGap 29 = .ok (.iconst 2, 1) := by decide +kernel
theorem d342_30 : decode cX9_setGap 30 = .ok (.iload_n 1, 1) := by decide +kernel
theorem d342_31 : decode cX9_setGap 31 = .ok (.invokevirtual 427, 3) := by decide +kernel
theorem d342_34 : decode cX9_setGap 34 = .ok (.ireturn, 1) := by decide +kernel
theorem v342_0 {w : PW} {Q : PO → PW → Prop} {x1 : Int} (hs : Sh w) (hx1 : bd x1) (h : ((((0 : Int64)).toInt ≤ (i2L x1).toInt ∧ (i2L x1).toInt ≤ ((3 : Int64)).toInt) → ∀ w2 : PW, w2 = sI w 169 0 0 → pC 331 [.ref 169, iv 2, iv x1] w2 (kI fun u4 w3 => Sh w3 ∧ Q (.inl (some (iv u4))) w3)) ∧ ((¬ (((0 : Int64)).toInt ≤ (i2L x1).toInt ∧ (i2L x1).toInt ≤ ((3 : Int64)).toInt)) → ∀ w5 : PW, w5 = sI w 169 0 1 → Q (.inl (some (iv 0))) w5)) : pX 342 0 [some (.ref 169), some (iv x1)] [] w Q :=
  w_f b342 d342_0 rfl rfl rfl <| w_f b342 d342_1 rfl rfl rfl <| w_f b342 d342_2 rfl rfl rfl <| w_f b342 d342_3 rfl rfl rfl <| w_ldcL b342 d342_4 rfl rfl <| w_cc b342 d342_7 rfl (pcl_s1 (n := 3) rfl rfl rfl (by decide +kernel) rfl rfl) rfl <| c221 hs <| w_ifneZ b342 d342_10 rfl rfl (p342 _ _) (fun c1 => w_f b342 d342_17 rfl rfl rfl <| w_cc b342 d342_18 rfl (pcl_v (n := 1) rfl rfl rfl (by decide +kernel) (sh_isOb hs (tlt 169 rfl) tbC_169) rfl rfl) rfl <| c245 hs ⟨by decide, by decide⟩ (by decide) <| w_ifeq b342 d342_21 rfl rfl (p342 _ _) ⟨by decide, by decide⟩ (fun _ => w_f b342 d342_28 rfl rfl rfl <| w_f b342 d342_29 rfl rfl rfl <| w_f b342 d342_30 rfl rfl rfl <| w_c b342 d342_31 rfl (pcl_v (n := 2) rfl rfl rfl (by decide +kernel) (sh_isOb (Sh_sI hs (slt_o tbC_169 rfl)) (tlt 169 rfl) tbC_169) rfl rfl) rfl _ (hK_I fun u4 w3 hbu4 hkw3 => w_ri b342 d342_34 r342 hkw3.2) ((h.1 c1) _ rfl)) (fun c => absurd c (by decide))) (fun c1 => w_f b342 d342_13 rfl rfl rfl <| w_j b342 d342_14 rfl (p342 _ _) <| w_cc b342 d342_18 rfl (pcl_v (n := 1) rfl rfl rfl (by decide +kernel) (sh_isOb hs (tlt 169 rfl) tbC_169) rfl rfl) rfl <| c245 hs ⟨by decide, by decide⟩ (by decide) <| w_ifeq b342 d342_21 rfl rfl (p342 _ _) ⟨by decide, by decide⟩ (fun c => absurd c (by decide)) (fun _ => w_f b342 d342_24 rfl rfl rfl <| w_j b342 d342_25 rfl (p342 _ _) <| w_ri b342 d342_34 r342 ((h.2 c1) _ rfl)))
theorem e342 {w : PW} {Q : PO → PW → Prop} {x1 : Int} (hs : Sh w) (hx1 : bd x1) (h : ((((0 : Int64)).toInt ≤ (i2L x1).toInt ∧ (i2L x1).toInt ≤ ((3 : Int64)).toInt) → ∀ w2 : PW, w2 = sI w 169 0 0 → pC 331 [.ref 169, iv 2, iv x1] w2 (kI fun u4 w3 => Sh w3 ∧ Q (.inl (some (iv u4))) w3)) ∧ ((¬ (((0 : Int64)).toInt ≤ (i2L x1).toInt ∧ (i2L x1).toInt ≤ ((3 : Int64)).toInt)) → ∀ w5 : PW, w5 = sI w 169 0 1 → Q (.inl (some (iv 0))) w5)) : pC 342 [.ref 169, iv x1] w Q :=
  (pC_in (Nat.le_of_ble_eq_true rfl) rfl Q).mpr (v342_0 hs hx1 h)
/-! 343: PinBarrelModel.shift(I)I -/
theorem b343 : mB 343 = cX9_shift := rfl
theorem r343 : mR 343 = (some .int) := rfl
theorem p343 (a b : Nat) : phi 343 a ≤ phi 343 b := Nat.le_refl 0
theorem d343_0 : decode cX9_shift 0 = .ok (.aload_n 0, 1) := by decide +kernel
theorem d343_1 : decode cX9_shift 1 = .ok (.iload_n 1, 1) := by decide +kernel
theorem d343_2 : decode cX9_shift 2 = .ok (.invokevirtual 377, 3) := by decide +kernel
theorem d343_5 : decode cX9_shift 5 = .ok (.ifCond .eq 7, 3) := by decide +kernel
theorem d343_8 : decode cX9_shift 8 = .ok (.iconst 0, 1) := by decide +kernel
theorem d343_9 : decode cX9_shift 9 = .ok (.goto 10, 3) := by decide +kernel
theorem d343_12 : decode cX9_shift 12 = .ok (.aload_n 0, 1) := by decide +kernel
theorem d343_13 : decode cX9_shift 13 = .ok (.bipush 6, 2) := by decide +kernel
theorem d343_15 : decode cX9_shift 15 = .ok (.iload_n 1, 1) := by decide +kernel
theorem d343_16 : decode cX9_shift 16 = .ok (.invokevirtual 427, 3) := by decide +kernel
theorem d343_19 : decode cX9_shift 19 = .ok (.ireturn, 1) := by decide +kernel
theorem v343_0 {w : PW} {Q : PO → PW → Prop} {x1 : Int} (hs : Sh w) (hx1 : bd x1) (h : (bd ((gI w 170 1) - 1)) ∧ ((0 ≤ x1 ∧ x1 < gI w 170 1) → ∀ w2 : PW, w2 = sI w 169 0 0 → pC 331 [.ref 169, iv 6, iv x1] w2 (kI fun u4 w3 => Sh w3 ∧ Q (.inl (some (iv u4))) w3)) ∧ ((¬ (0 ≤ x1 ∧ x1 < gI w 170 1)) → ∀ w6 : PW, w6 = sI w 169 0 1 → Q (.inl (some (iv 0))) w6)) : pX 343 0 [some (.ref 169), some (iv x1)] [] w Q :=
  w_f b343 d343_0 rfl rfl rfl <| w_f b343 d343_1 rfl rfl rfl <| w_cc b343 d343_2 rfl (pcl_v (n := 1) rfl rfl rfl (by decide +kernel) (sh_isOb hs (tlt 169 rfl) tbC_169) rfl rfl) rfl <| c275 hs hx1 h.1 (fun c1 => w_ifeq b343 d343_5 rfl rfl (p343 _ _) ⟨by decide, by decide⟩ (fun _ => w_f b343 d343_12 rfl rfl rfl <| w_f b343 d343_13 rfl rfl rfl <| w_f b343 d343_15 rfl rfl rfl <| w_c b343 d343_16 rfl (pcl_v (n := 2) rfl rfl rfl (by decide +kernel) (sh_isOb (Sh_sI hs (slt_o tbC_169 rfl)) (tlt 169 rfl) tbC_169) rfl rfl) rfl _ (hK_I fun u4 w3 hbu4 hkw3 => w_ri b343 d343_19 r343 hkw3.2) (h.2.1 c1 _ rfl)) (fun c => absurd c (by decide))) (fun c5 => w_ifeq b343 d343_5 rfl rfl (p343 _ _) ⟨by decide, by decide⟩ (fun c => absurd c (by decide)) (fun _ => w_f b343 d343_8 rfl rfl rfl <| w_j b343 d343_9 rfl (p343 _ _) <| w_ri b343 d343_19 r343 (h.2.2 c5 _ rfl)))
theorem e343 {w : PW} {Q : PO → PW → Prop} {x1 : Int} (hs : Sh w) (hx1 : bd x1) (h : (bd ((gI w 170 1) - 1)) ∧ ((0 ≤ x1 ∧ x1 < gI w 170 1) → ∀ w2 : PW, w2 = sI w 169 0 0 → pC 331 [.ref 169, iv 6, iv x1] w2 (kI fun u4 w3 => Sh w3 ∧ Q (.inl (some (iv u4))) w3)) ∧ ((¬ (0 ≤ x1 ∧ x1 < gI w 170 1)) → ∀ w6 : PW, w6 = sI w 169 0 1 → Q (.inl (some (iv 0))) w6)) : pC 343 [.ref 169, iv x1] w Q :=
  (pC_in (Nat.le_of_ble_eq_true rfl) rfl Q).mpr (v343_0 hs hx1 h)
/-! 344: PinBarrelModel.run(I)I -/
theorem b344 : mB 344 = cX9_run := rfl
theorem r344 : mR 344 = (some .int) := rfl
theorem p344 (a b : Nat) : phi 344 a ≤ phi 344 b := Nat.le_refl 0
theorem d344_0 : decode cX9_run 0 = .ok (.aload_n 0, 1) := by decide +kernel
theorem d344_1 : decode cX9_run 1 = .ok (.iload_n 1, 1) := by decide +kernel
theorem d344_2 : decode cX9_run 2 = .ok (.invokestatic 413, 3) := by decide +kernel
theorem d344_5 : decode cX9_run 5 = .ok (.ifCond .ne 7, 3) := by decide +kernel
theorem d344_8 : decode cX9_run 8 = .ok (.iconst 1, 1) := by decide +kernel
theorem d344_9 : decode cX9_run 9 = .ok (.goto 4, 3) := by decide +kernel
theorem d344_12 : decode cX9_run 12 = .ok (.iconst 0, 1) := by decide +kernel
theorem d344_13 : decode cX9_run 13 = .ok (.invokevirtual 328, 3) := by decide +kernel
theorem d344_16 : decode cX9_run 16 = .ok (.ifCond .eq 5, 3) := by decide +kernel
theorem d344_19 : decode cX9_run 19 = .ok (.iconst 0, 1) := by decide +kernel
theorem d344_20 : decode cX9_run 20 = .ok (.ireturn, 1) := by decide +kernel
theorem d344_21 : decode cX9_run 21 = .ok (.aload_n 0, 1) := by decide +kernel
theorem d344_22 : decode cX9_run 22 = .ok (.getfield 9, 3) := by decide +kernel
theorem d344_25 : decode cX9_run 25 = .ok (.bipush 8, 2) := by decide +kernel
theorem d344_27 : decode cX9_run 27 = .ok (.iaload, 1) := by decide +kernel
theorem d344_28 : decode cX9_run 28 = .ok (.iload_n 1, 1) := by decide +kernel
theorem d344_29 : decode cX9_run 29 = .ok (.iadd, 1) := by decide +kernel
theorem d344_30 : decode cX9_run 30 = .ok (.ldc_w 437, 3) := by decide +kernel
theorem d344_33 : decode cX9_run 33 = .ok (.if_icmp .le 6, 3) := by decide +kernel
theorem d344_36 : decode cX9_run 36 = .ok (.bipush (-2), 2) := by decide +kernel
theorem d344_38 : decode cX9_run 38 = .ok (.ireturn, 1) := by decide +kernel
theorem d344_39 : decode cX9_run 39 = .ok (.aload_n 0, 1) := by decide +kernel
theorem d344_40 : decode cX9_run 40 = .ok (.invokevirtual 419, 3) := by decide +kernel
theorem d344_43 : decode cX9_run 43 = .ok (.aload_n 0, 1) := by decide +kernel
theorem d344_44 : decode cX9_run 44 = .ok (.iload_n 1, 1) := by decide +kernel
theorem d344_45 : decode cX9_run 45 = .ok (.invokevirtual 416, 3) := by decide +kernel
theorem d344_48 : decode cX9_run 48 = .ok (.ireturn, 1) := by decide +kernel
theorem v344_0 {w : PW} {Q : PO → PW → Prop} {x1 : Int} (hs : Sh w) (hx1 : bd x1) (h : ((1 ≤ x1 ∧ x1 ≤ 200) → ∀ w2 : PW, w2 = sI w 169 0 0 → (bd ((gI w2 170 8) + x1)) ∧ (((gI w2 170 8) + x1) ≤ 100000 → pC 326 [.ref 169] w2 (kV fun w4 => Sh w4 ∧ pC 320 [.ref 169, iv x1] w4 (kI fun u7 w6 => Sh w6 ∧ Q (.inl (some (iv u7))) w6))) ∧ (100000 < ((gI w2 170 8) + x1) → Q (.inl (some (iv ((-2))))) w2)) ∧ ((¬ (1 ≤ x1 ∧ x1 ≤ 200)) → ∀ w8 : PW, w8 = sI w 169 0 1 → Q (.inl (some (iv 0))) w8)) : pX 344 0 [some (.ref 169), some (iv x1)] [] w Q :=
  w_f b344 d344_0 rfl rfl rfl <| w_f b344 d344_1 rfl rfl rfl <| w_cc b344 d344_2 rfl (pcl_s1 (n := 1) rfl rfl rfl (by decide +kernel) rfl rfl) rfl <| c317 hs hx1 <| w_ifneZ b344 d344_5 rfl rfl (p344 _ _) (fun c1 => w_f b344 d344_12 rfl rfl rfl <| w_cc b344 d344_13 rfl (pcl_v (n := 1) rfl rfl rfl (by decide +kernel) (sh_isOb hs (tlt 169 rfl) tbC_169) rfl rfl) rfl <| c245 hs ⟨by decide, by decide⟩ (by decide) <| w_ifeq b344 d344_16 rfl rfl (p344 _ _) ⟨by decide, by decide⟩ (fun _ => w_f b344 d344_21 rfl rfl rfl <| w_gr b344 d344_22 rfl rfl (Sh_sI hs (slt_o tbC_169 rfl)) (tlt 169 rfl) tbC_169 rfl (by decide) <| w_f b344 d344_25 rfl rfl rfl <| w_ial b344 d344_27 rfl (Sh_sI hs (slt_o tbC_169 rfl)) (tlt 170 rfl) tbC_170 (bdix (n := 843) ⟨by decide, by decide⟩ rfl) ⟨by decide, by decide⟩ <| w_f b344 d344_28 rfl rfl rfl <| w_f b344 d344_29 rfl (pf_iadd _ x1) rfl <| w_ldcwI b344 d344_30 rfl rfl <| w_icle b344 d344_33 rfl rfl (p344 _ _) ((h.1 c1) _ rfl).1 ⟨by decide, by decide⟩ (fun c3 => w_f b344 d344_39 rfl rfl rfl <| w_c b344 d344_40 rfl (pcl_v (n := 0) rfl rfl rfl (by decide +kernel) (sh_isOb (Sh_sI hs (slt_o tbC_169 rfl)) (tlt 169 rfl) tbC_169) rfl rfl) rfl _ (hK_V fun w4 hkw4 => w_f b344 d344_43 rfl rfl rfl <| w_f b344 d344_44 rfl rfl rfl <| w_c b344 d344_45 rfl (pcl_v (n := 1) rfl rfl rfl (by decide +kernel) (sh_isOb hkw4.1 (tlt 169 rfl) tbC_169) rfl rfl) rfl _ (hK_I fun u7 w6 hbu7 hkw6 => w_ri b344 d344_48 r344 hkw6.2) hkw4.2) (((h.1 c1) _ rfl).2.1 c3)) (fun c3 => w_f b344 d344_36 rfl rfl rfl <| w_ri b344 d344_38 r344 (((h.1 c1) _ rfl).2.2 c3))) (fun c => absurd c (by decide))) (fun c1 => w_f b344 d344_8 rfl rfl rfl <| w_j b344 d344_9 rfl (p344 _ _) <| w_cc b344 d344_13 rfl (pcl_v (n := 1) rfl rfl rfl (by decide +kernel) (sh_isOb hs (tlt 169 rfl) tbC_169) rfl rfl) rfl <| c245 hs ⟨by decide, by decide⟩ (by decide) <| w_ifeq b344 d344_16 rfl rfl (p344 _ _) ⟨by decide, by decide⟩ (fun c => absurd c (by decide)) (fun _ => w_f b344 d344_19 rfl rfl rfl <| w_ri b344 d344_20 r344 ((h.2 c1) _ rfl)))
theorem e344 {w : PW} {Q : PO → PW → Prop} {x1 : Int} (hs : Sh w) (hx1 : bd x1) (h : ((1 ≤ x1 ∧ x1 ≤ 200) → ∀ w2 : PW, w2 = sI w 169 0 0 → (bd ((gI w2 170 8) + x1)) ∧ (((gI w2 170 8) + x1) ≤ 100000 → pC 326 [.ref 169] w2 (kV fun w4 => Sh w4 ∧ pC 320 [.ref 169, iv x1] w4 (kI fun u7 w6 => Sh w6 ∧ Q (.inl (some (iv u7))) w6))) ∧ (100000 < ((gI w2 170 8) + x1) → Q (.inl (some (iv ((-2))))) w2)) ∧ ((¬ (1 ≤ x1 ∧ x1 ≤ 200)) → ∀ w8 : PW, w8 = sI w 169 0 1 → Q (.inl (some (iv 0))) w8)) : pC 344 [.ref 169, iv x1] w Q :=
  (pC_in (Nat.le_of_ble_eq_true rfl) rfl Q).mpr (v344_0 hs hx1 h)
section MAC
variable {w w1 w2 : PW} {Q : PO → PW → Prop} {m : Row} {H : Nat → Row} {n : Nat} {x1 x2 x3 x4 : Int} {u : Nat} {g : Nat → Int}
theorem MW.sto {k : Nat} {z : Int} (hs : Sh w) (hM : MR w m) (e : w2 = sI w 170 k z) (hz : bd z) (hok : RowOK (mset m k z)) : MW w w2 ∧ MR w2 (mset m k z) := ⟨(MW.put hs e hz).1, (MR.sto hs hM e hz hok).2⟩
theorem PS.stepW {i : Nat} {z : Int} (hs : Sh w) (h : PS w m u g i) (e : w2 = sI w 170 (251 + 64 * u + i) z) (hz : bd z) (hg : g i = z) : MW w w2 ∧ PS w2 m u g (i + 1) := ⟨(MW.put hs e hz).1, (PS.step hs h e hz hg).2⟩
theorem c234 {u s p : Int} (hs : Sh w) (hM : MR w m) (h60 : m 5 < 60) (hu : 0 ≤ u ∧ u < m 1) (hss : 0 ≤ s ∧ s < m 0) (hp : 0 ≤ p ∧ p < 24) (h : ∀ w2, MW w w2 → MR w2 (rNote m u s p) → Q (.inl none) w2) : pC 234 [.ref 169, iv u, iv s, iv p] w Q := by
  have h5 := hM.ok.n
  have h0 := hM.ok.s
  have h1 := hM.ok.u
  obtain ⟨N, hN⟩ := nat_of h5.1
  refine e234 hs ⟨by omega, by omega⟩ ⟨by omega, by omega⟩ ⟨by omega, by omega⟩ ?_
  rw [hM.g (k := 5) rfl, hN]
  refine ⟨⟨by omega, by omega⟩, fun w1 e1 => ⟨⟨by omega, by omega⟩, fun w2 e2 => ⟨⟨by omega, by omega⟩, fun w3 e3 w4 e4 => ?_⟩⟩⟩
  rw [show ((71 + 3 * (N : Int)) + 0).toNat = 71 + 3 * N from by omega] at e1
  rw [show ((71 + 3 * (N : Int)) + 1).toNat = 71 + 3 * N + 1 from by omega] at e2
  rw [show ((71 + 3 * (N : Int)) + 2).toNat = 71 + 3 * N + 2 from by omega] at e3
  obtain ⟨G1, g1⟩ := MW.put hs e1 ⟨by omega, by omega⟩
  obtain ⟨G2, g2⟩ := MW.put G1.1 e2 ⟨by omega, by omega⟩
  obtain ⟨G3, g3⟩ := MW.put G2.1 e3 ⟨by omega, by omega⟩
  rw [g3, if_neg (by omega), g2, if_neg (by omega), g1, if_neg (by omega), hM.g (k := 5) rfl, hN] at e4
  obtain ⟨G4, g4⟩ := MW.put G3.1 e4 ⟨by omega, by omega⟩
  refine h w4 (G1.tr (G2.tr (G3.tr G4))) ⟨rNote_ok hM.ok h60 hu hss hp, fun j hj => ?_⟩
  have hj2 := hM.2 j hj
  rw [g4, g3, g2, g1, hj2]
  unfold rNote
  rw [show (m 5).toNat = N from by omega]
  by_cases q4 : j = 5
  · rw [if_pos q4, if_pos q4, hN]
  · rw [if_neg q4, if_neg q4]
    by_cases q0 : j = 71 + 3 * N
    · rw [if_neg (by omega), if_neg (by omega), if_pos q0, if_pos q0]
    · by_cases q1 : j = 71 + 3 * N + 1
      · rw [if_neg (by omega), if_pos q1, if_neg q0, if_pos q1]
      · by_cases q2 : j = 71 + 3 * N + 2
        · rw [if_pos q2, if_neg q0, if_neg q1, if_pos q2]
        · rw [if_neg q2, if_neg q1, if_neg q0, if_neg q0, if_neg q1, if_neg q2]
theorem rPut_eq {s : Nat} {z : Int} (hS : (s : Int) < m 0) : rPut m u s z = mset m (251 + 64 * u + s) z := by
  funext j
  unfold rPut rSetP mset
  by_cases q : j = 251 + 64 * u + s
  · rw [if_pos (by omega), if_pos (by omega)]
    exact if_pos (by omega)
  · rw [if_neg q]
    by_cases q2 : 251 + 64 * u ≤ j ∧ (j : Int) < 251 + 64 * u + m 0
    · rw [if_pos q2]
      show (if j - (251 + 64 * u) = s then z else m (251 + 64 * u + (j - (251 + 64 * u)))) = m j
      rw [if_neg (by omega), show 251 + 64 * u + (j - (251 + 64 * u)) = j from by omega]
    · rw [if_neg q2]
theorem rPutOn_ok {s t : Nat} {on : Int} (hR : RowOK m) (hu : (u : Int) < m 1) (hS : (s : Int) < m 0) (ht : (t : Int) < m 4) : bd (rOn m u s t on) ∧ RowOK (rPut m u s (rOn m u s t on)) := by
  have h4 := hR.t
  have hp := hR.P hu hS
  have hb : bd (rOn m u s t on) := by unfold rOn; split <;> exact bd_toInt _
  refine ⟨hb, rSetP_ok hR (fun r hr => ?_)⟩
  by_cases q : r = s
  · rw [if_pos q]
    refine ⟨hb, fun k hk q2 => ?_⟩
    unfold rOn at q2
    by_cases qo : on = 0
    · rw [if_pos qo, tI_and, Bool.and_eq_true] at q2
      exact hp.2 k hk q2.1
    · rw [if_neg qo, tI_or, Bool.or_eq_true] at q2
      rcases q2 with q2 | q2
      · exact hp.2 k hk q2
      · rw [tI_bit ⟨by omega, by omega⟩ hk, decide_eq_true_eq] at q2
        omega
  · rw [if_neg q]
    exact hR.P hu hr
theorem c237 {s t : Nat} {on : Int} (hs : Sh w) (hM : MR w m) (hu : (u : Int) < m 1) (hS : (s : Int) < m 0) (ht : (t : Int) < m 4) (hon : bd on) (h : ∀ w2, MW w w2 → MR w2 (rPut m u s (rOn m u s t on)) → Q (.inl none) w2) : pC 237 [.ref 169, iv (u : Nat), iv (s : Nat), iv (t : Nat), iv on] w Q := by
  have h0 := hM.ok.s
  have h1 := hM.ok.u
  have h4 := hM.ok.t
  obtain ⟨hb, hok⟩ := rPutOn_ok (on := on) hM.ok hu hS ht
  rw [rPut_eq hS] at h hok
  refine e237 hs (bdk (by omega)) (bdk (by omega)) (bdk (by omega)) hon ?_
  rw [hM.pin (by omega) (by omega), show (251 + 64 * (u : Int) + (s : Int)).toNat = 251 + 64 * u + s from by omega]
  refine ⟨⟨by omega, by omega⟩, fun q => ⟨⟨by omega, by omega⟩, fun w2 e2 => ?_⟩, fun q => ⟨⟨by omega, by omega⟩, fun w2 e2 => ?_⟩⟩
  · rw [show iAnd (m (251 + 64 * u + s)) (iXor (iShl 1 (t : Int)) (-1)) = rOn m u s t on from (if_pos q).symm] at e2
    obtain ⟨G, M⟩ := MW.sto hs hM e2 hb hok
    exact h w2 G M
  · rw [show iOr (m (251 + 64 * u + s)) (iShl 1 (t : Int)) = rOn m u s t on from (if_neg q).symm] at e2
    obtain ⟨G, M⟩ := MW.sto hs hM e2 hb hok
    exact h w2 G M
theorem l335_2 {w : PW} {Q : PO → PW → Prop} {u : Nat} {m : Row} (hs : Sh w) (hR : RowOK m) (hu : (u : Int) < m 1) (h : ∀ w2, MW w w2 → MR w2 (rClrP m u) → Q (.inl none) w2) : ∀ k i : Nat, i + k = (m 0).toNat → ∀ w1, MW w w1 → PS w1 m u (fun _ => 0) i → pX 335 2 [some (.ref 169), some (iv (u : Nat)), some (iv (i : Nat))] [] w1 Q := by
  have h0 := hR.s
  have h1 := hR.u
  intro k
  induction k with
  | zero =>
    intro i hi w1 G1 hP
    refine v335_2 G1.1 (bdk (by omega)) (bdk (by omega)) ?_
    rw [hP.lo (j := 0) (by decide)]
    exact ⟨fun _ => h w1 G1 (hP.done (by omega) (rClrP_ok hR)), fun q => by omega⟩
  | succ k ih =>
    intro i hi w1 G1 hP
    refine v335_2 G1.1 (bdk (by omega)) (bdk (by omega)) ?_
    rw [hP.lo (j := 0) (by decide)]
    refine ⟨fun q => by omega, fun _ => ⟨⟨by omega, by omega⟩, fun w2 e2 => ?_⟩⟩
    rw [show ((251 + 64 * (u : Int)) + (i : Int)).toNat = 251 + 64 * u + i from by omega] at e2
    obtain ⟨G2, P2⟩ := hP.stepW G1.1 e2 bd0 rfl
    exact ih (i + 1) (by omega) w2 (G1.tr G2) P2
theorem c335 (hs : Sh w) (hM : MR w m) (hu : (u : Int) < m 1) (h : ∀ w2, MW w w2 → MR w2 (rClrP m u) → Q (.inl none) w2) : pC 335 [.ref 169, iv (u : Nat)] w Q := by
  have h1 := hM.ok.u
  exact e335 hs (bdk (by omega)) (l335_2 hs hM.ok hu h _ 0 (Nat.zero_add _) w (MW.rf hs) (PS.zero hM))
theorem c331 {J : Nat} {z : Int} (hs : Sh w) (hM : MR w m) (hH : HM w H n) (hJ : J < 843) (hz : bd z) (hok : RowOK (rOne m J z)) (h : ∀ w2, MAF w w2 → gI w2 169 0 = gI w 169 0 → MR w2 (rOne m J z) → HM w2 (hPush H n m) (hLen n) → Q (.inl (some (iv (m J)))) w2) : pC 331 [.ref 169, iv (J : Nat), iv z] w Q := by
  refine e331 hs (bdk (by omega)) hz (c326 hs hM hH (fun w1 F1 H1 => ⟨F1.1, ⟨by omega, by omega⟩, ⟨by omega, by omega⟩, fun w3 e3 => ?_⟩))
  rw [Int.toNat_natCast] at e3
  obtain ⟨G3, M3⟩ := MW.sto F1.1 (F1.mr hM) e3 hz hok
  rw [Int.toNat_natCast, (F1.mr hM).2 J hJ]
  exact h w3 (F1.ma.tr G3.mg.ma) ((G3.g (by decide) 0).trans (F1.2.2 0 (by decide))) M3 (H1.mg G3.mg)
theorem mbd {J : Nat} (hM : MR w m) (hJ : J < 843) : bd (m J) := by
  rw [← hM.2 J hJ]
  exact bd_gI _ _ _
theorem c327 (hs : Sh w) (hM : MR w m) (hH : HM w H n) (hx1 : bd x1) (hx2 : bd x2) (hx3 : bd x3) (h : mA w H n m Q (sa165 m x1 x2 x3)) : pC 327 [.ref 169, iv x1, iv x2, iv x3] w Q := by
  have h0 := hM.ok.s
  have h1 := hM.ok.u
  have h5 := hM.ok.n
  refine e327 hs hx1 hx2 hx3 ?_
  rw [hM.g (k := 1) rfl, hM.g (k := 0) rfl]
  refine ⟨⟨by omega, by omega⟩, (mA_go hs hM hH (by decide) h).2, fun q1 => ⟨⟨by omega, by omega⟩, (mA_go hs hM hH (by decide) (mA_t h q1)).2, fun q2 => ⟨fun q3 w6 e6 => ?_, (mA_go hs hM hH (by decide) (mA_t (mA_t h q1) q2)).2⟩⟩⟩
  obtain ⟨F6, g6, h6⟩ := (mA_go hs hM hH (by decide) (mA_t (mA_t h q1) q2)).1 q3 w6 e6
  have hM6 := F6.mr hM
  rw [hM6.g (k := 5) rfl]
  refine ⟨fun q => c326 F6.1 hM6 (hH.mq F6) (fun w8 F8 H8 => ⟨F8.1, c234 F8.1 (F8.mr hM6) (by omega) q1 q2 ⟨by omega, by omega⟩ (fun w9 G9 M9 => ⟨G9.1, ?_⟩)⟩), fun q => mA_no (mAq_f h6 (by omega)) (MqF.rf F6.1) g6 hM6 (hH.mq F6)⟩
  rw [M9.g (k := 5) rfl, rNote_5, show m 5 + 1 - 1 = m 5 from by omega]
  exact mA_yes (mAq_t h6 (by omega)) (F8.ma.tr G9.mg.ma) (((G9.g (by decide) 0).trans (F8.2.2 0 (by decide))).trans g6) M9 (H8.mg G9.mg)
def sm168 (m : Row) (x : Int) : AR := aP (0 ≤ x ∧ x < m 5) 1 (rI (m 5 - 1), some (rDrop m x.toNat))
theorem l328_30 {w : PW} {Q : PO → PW → Prop} {x : Nat} {m : Row} (hs : Sh w) (hR : RowOK m) (hx : (x : Int) < m 5) (h : ∀ w2, MW w w2 → MR w2 (rDrop m x) → Q (.inl (some (iv (m 5 - 1)))) w2) : ∀ k i : Nat, i + k = 71 + 3 * ((m 5).toNat - 1) → ∀ w1, MW w w1 → 71 + 3 * x ≤ i → (∀ j, j < 843 → gI w1 170 j = if j = 5 then m 5 - 1 else if 71 + 3 * x ≤ j ∧ j < i then m (j + 3) else m j) → pX 328 30 [some (.ref 169), some (iv (x : Nat)), some (iv (i : Nat))] [] w1 Q := by
  have h5 := hR.n
  intro k
  induction k with
  | zero =>
    intro i hi w1 G1 hxi hV
    have e5 : gI w1 170 5 = m 5 - 1 := by rw [hV 5 (by decide), if_pos rfl]
    refine v328_30 G1.1 (bdk (by omega)) (bdk (by omega)) ?_
    rw [e5]
    refine ⟨⟨by omega, by omega⟩, fun _ => h w1 G1 ⟨rDrop_ok hR hx, fun j hj => ?_⟩, fun q => by omega⟩
    rw [hV j hj]
    unfold rDrop
    by_cases q5 : j = 5
    · rw [if_pos q5, if_pos q5]
    · rw [if_neg q5, if_neg q5]
      by_cases q : 71 + 3 * x ≤ j ∧ j < i
      · rw [if_pos q, if_pos (by omega)]
      · rw [if_neg q, if_neg (by omega)]
  | succ k ih =>
    intro i hi w1 G1 hxi hV
    have e5 : gI w1 170 5 = m 5 - 1 := by rw [hV 5 (by decide), if_pos rfl]
    refine v328_30 G1.1 (bdk (by omega)) (bdk (by omega)) ?_
    rw [e5]
    refine ⟨⟨by omega, by omega⟩, fun q => by omega, fun _ => ⟨⟨by omega, by omega⟩, ⟨by omega, by omega⟩, fun w2 e2 => ?_⟩⟩
    rw [Int.toNat_natCast, show ((i : Int) + 3).toNat = i + 3 from by omega, hV (i + 3) (by omega), if_neg (by omega), if_neg (by omega)] at e2
    have hb : bd (m (i + 3)) := by
      have := hV (i + 3) (by omega)
      rw [if_neg (by omega), if_neg (by omega)] at this
      rw [← this]
      exact bd_gI _ _ _
    obtain ⟨G2, g2⟩ := MW.put G1.1 e2 hb
    refine ih (i + 1) (by omega) w2 (G1.tr G2) (by omega) (fun j hj => ?_)
    rw [g2]
    by_cases q : j = i
    · rw [if_pos q, if_neg (by omega), if_pos (by omega), q]
    · rw [if_neg q, hV j hj]
      by_cases q5 : j = 5
      · rw [if_pos q5, if_pos q5]
      · rw [if_neg q5, if_neg q5]
        by_cases q2 : 71 + 3 * x ≤ j ∧ j < i
        · rw [if_pos q2, if_pos (by omega)]
        · rw [if_neg q2, if_neg (by omega)]
theorem c328 (hs : Sh w) (hM : MR w m) (hH : HM w H n) (hx1 : bd x1) (h : mA w H n m Q (sm168 m x1)) : pC 328 [.ref 169, iv x1] w Q := by
  have h5 := hM.ok.n
  refine e328 hs hx1 ?_
  rw [hM.g (k := 5) rfl]
  refine ⟨⟨by omega, by omega⟩, fun q w2 e2 => ?_, (mA_go hs hM hH (by decide) h).2⟩
  obtain ⟨F2, g2, h2⟩ := (mA_go hs hM hH (by decide) h).1 q w2 e2
  obtain ⟨x, rfl⟩ := nat_of q.1
  rw [Int.toNat_natCast] at h2
  refine c326 F2.1 (F2.mr hM) (hH.mq F2) (fun w3 F3 H3 => ⟨F3.1, fun w5 e5 => ?_⟩)
  have hM3 := F3.mr (F2.mr hM)
  rw [hM3.g (k := 5) rfl] at e5
  obtain ⟨G5, g5⟩ := MW.put F3.1 e5 ⟨by omega, by omega⟩
  have := l328_30 (w := w5) (x := x) G5.1 hM.ok q.2 (fun w9 G9 M9 => mA_yes h2 (F3.ma.tr (G5.tr G9).mg.ma) ((((G5.tr G9).g (by decide) 0).trans (F3.2.2 0 (by decide))).trans g2) M9 (H3.mg (G5.tr G9).mg)) (71 + 3 * ((m 5).toNat - 1) - (71 + 3 * x)) (71 + 3 * x) (by omega) w5 (MW.rf G5.1) (Nat.le_refl _) (fun j hj => by
    rw [g5, hM3.2 j hj]
    by_cases q5 : j = 5
    · rw [if_pos q5, if_pos q5]
    · rw [if_neg q5, if_neg q5, if_neg (by omega)])
  rw [show 71 + 3 * (x : Int) + 0 = ((71 + 3 * x : Nat) : Int) from by omega]
  exact this
theorem c330 (hs : Sh w) (hM : MR w m) (hH : HM w H n) (hx1 : bd x1) (hx2 : bd x2) (h : mA w H n m Q (sa170 m x1 x2)) : pC 330 [.ref 169, iv x1, iv x2] w Q := by
  have h4 := hM.ok.t
  refine e330 hs hx1 hx2 ?_
  refine ⟨(mA_go hs hM hH (by decide) h).2, fun q1 => ⟨fun q2 w4 e4 => ?_, (mA_go hs hM hH (by decide) (mA_t h q1)).2⟩⟩
  obtain ⟨F6, g6, h6⟩ := (mA_go hs hM hH (by decide) (mA_t h q1)).1 q2 w4 e4
  have hM6 := F6.mr hM
  rw [hM6.g (k := 4) rfl]
  refine ⟨fun q => c326 F6.1 hM6 (hH.mq F6) (fun w8 F8 H8 => ⟨F8.1, c231 F8.1 (F8.mr hM6) (by omega) ⟨by omega, by omega⟩ q2 (fun w9 G9 M9 => ⟨G9.1, ?_⟩)⟩), fun q => mA_no (mAq_f h6 (by omega)) (MqF.rf F6.1) g6 hM6 (hH.mq F6)⟩
  rw [M9.g (k := 4) rfl, rTooth_4, show m 4 + 1 - 1 = m 4 from by omega]
  exact mA_yes (mAq_t h6 (by omega)) (F8.ma.tr G9.mg.ma) (((G9.g (by decide) 0).trans (F8.2.2 0 (by decide))).trans g6) M9 (H8.mg G9.mg)
def sm172 (m : Row) (x1 x2 : Int) : AR := aP (0 ≤ x1 ∧ x1 < m 4) 1 (aP (1 ≤ x2 ∧ x2 ≤ 12) 2 (rI (rT m x1.toNat 1), some (rOne m (12 + 5 * x1.toNat) x2)))
theorem c332 (hs : Sh w) (hM : MR w m) (hH : HM w H n) (hx1 : bd x1) (hx2 : bd x2) (h : mA w H n m Q (sm172 m x1 x2)) : pC 332 [.ref 169, iv x1, iv x2] w Q := by
  have h4 := hM.ok.t
  refine e332 hs hx1 hx2 ?_
  rw [hM.g (k := 4) rfl]
  refine ⟨⟨by omega, by omega⟩, fun q w2 e2 => ?_, (mA_go hs hM hH (by decide) h).2⟩
  obtain ⟨F2, g2, h2⟩ := (mA_go hs hM hH (by decide) h).1 q w2 e2
  have hM2 := F2.mr hM
  refine ⟨fun q2 => ?_, fun q2 w6 e6 => mA_err F2.1 hM2 (hH.mq F2) (by decide) (mA_f h2 q2) e6⟩
  obtain ⟨t, rfl⟩ := nat_of q.1
  rw [Int.toNat_natCast] at h2
  have e : rT m t 1 = m (12 + 5 * t) := by unfold rT; rw [show 11 + 5 * t + 1 = 12 + 5 * t from by omega]
  rw [show 11 + 5 * (t : Int) + 1 = ((12 + 5 * t : Nat) : Int) from by omega]
  refine c331 F2.1 hM2 (hH.mq F2) (by omega) hx2 (rOne_ok hM.ok (Or.inr (Or.inr (Or.inr ⟨t, by omega, Or.inr rfl⟩))) (by omega) (by omega) (by omega) (fun k hk => by omega) (fun k hk => q2)) (fun w3 F3 g3 M3 H3 => kI_iv (mbd hM (by omega)) ⟨F3.1, ?_⟩)
  rw [← e]
  exact mA_yes (mA_t h2 q2) F3 (g3.trans g2) M3 H3
def sm174 (m : Row) (x1 x2 : Int) : AR := aP (0 ≤ x1 ∧ x1 < m 4) 1 (aP (0 ≤ x2 ∧ x2 ≤ 23) 2 (rI (rT m x1.toNat 0), some (rOne m (11 + 5 * x1.toNat) x2)))
theorem c333 (hs : Sh w) (hM : MR w m) (hH : HM w H n) (hx1 : bd x1) (hx2 : bd x2) (h : mA w H n m Q (sm174 m x1 x2)) : pC 333 [.ref 169, iv x1, iv x2] w Q := by
  have h4 := hM.ok.t
  refine e333 hs hx1 hx2 ?_
  rw [hM.g (k := 4) rfl]
  refine ⟨⟨by omega, by omega⟩, fun q w2 e2 => ?_, (mA_go hs hM hH (by decide) h).2⟩
  obtain ⟨F2, g2, h2⟩ := (mA_go hs hM hH (by decide) h).1 q w2 e2
  have hM2 := F2.mr hM
  refine ⟨fun q2 => ?_, fun q2 w6 e6 => mA_err F2.1 hM2 (hH.mq F2) (by decide) (mA_f h2 q2) e6⟩
  obtain ⟨t, rfl⟩ := nat_of q.1
  rw [Int.toNat_natCast] at h2
  have e : rT m t 0 = m (11 + 5 * t) := rfl
  rw [show 11 + 5 * (t : Int) + 0 = ((11 + 5 * t : Nat) : Int) from by omega]
  refine c331 F2.1 hM2 (hH.mq F2) (by omega) hx2 (rOne_ok hM.ok (Or.inr (Or.inr (Or.inr ⟨t, by omega, Or.inl rfl⟩))) (by omega) (by omega) (by omega) (fun k hk => by omega) (fun k hk => by omega)) (fun w3 F3 g3 M3 H3 => kI_iv (mbd hM (by omega)) ⟨F3.1, ?_⟩)
  rw [← e]
  exact mA_yes (mA_t h2 q2) F3 (g3.trans g2) M3 H3
theorem c334 (hs : Sh w) (hM : MR w m) (hH : HM w H n) (hx1 : bd x1) (hx2 : bd x2) (hx3 : bd x3) (hx4 : bd x4) (h : mA w H n m Q (sa176 m x1 x2 x3 x4)) : pC 334 [.ref 169, iv x1, iv x2, iv x3, iv x4] w Q := by
  have h0 := hM.ok.s
  have h1 := hM.ok.u
  have h4 := hM.ok.t
  refine e334 hs hx1 hx2 hx3 hx4 ?_
  rw [hM.g (k := 1) rfl, hM.g (k := 0) rfl]
  refine ⟨⟨by omega, by omega⟩, ⟨by omega, by omega⟩, fun q w2 e2 => ?_, fun q w3 e3 => ?_⟩
  · obtain ⟨F2, g2⟩ := MqF.th hs e2 bd0
    have h2 := mA_fr (mA_t (mA_t h q.1) q.2) F2.ma
    have hM2 := F2.mr hM
    rw [hM2.g (k := 4) rfl]
    refine ⟨⟨by omega, by omega⟩, fun q3 => ?_, fun q3 w6 e6 => mA_err F2.1 hM2 (hH.mq F2) (by decide) (mA_f h2 q3) e6⟩
    obtain ⟨u, rfl⟩ := nat_of q.1.1
    obtain ⟨s, rfl⟩ := nat_of q.2.1
    obtain ⟨t, rfl⟩ := nat_of q3.1
    have h3 := mA_t h2 q3
    rw [Int.toNat_natCast, Int.toNat_natCast, Int.toNat_natCast] at h3
    refine c326 F2.1 hM2 (hH.mq F2) (fun w4 F4 H4 => ⟨F4.1, ⟨by omega, by omega⟩, ⟨by omega, by omega⟩, ⟨by omega, by omega⟩, c237 F4.1 (F4.mr hM2) q.1.2 q.2.2 q3.2 hx4 (fun w6 G6 M6 => ⟨G6.1, ?_⟩)⟩)
    rw [(F4.mr hM2).pin (by omega) (by omega), Int.toNat_natCast]
    exact mA_yes h3 (F4.ma.tr G6.mg.ma) (((G6.g (by decide) 0).trans (F4.2.2 0 (by decide))).trans g2) M6 (H4.mg G6.mg)
  · by_cases q1 : 0 ≤ x1 ∧ x1 < m 1
    · exact mA_err hs hM hH (by decide) (mA_f (mA_t h q1) (fun z => q ⟨q1, z⟩)) e3
    · exact mA_err hs hM hH (by decide) (mA_f h q1) e3
theorem c336 (hs : Sh w) (hM : MR w m) (hH : HM w H n) (hx1 : bd x1) (h : mA w H n m Q (sa178 m x1)) : pC 336 [.ref 169, iv x1] w Q := by
  have h1 := hM.ok.u
  refine e336 hs hx1 ?_
  rw [hM.g (k := 1) rfl]
  refine ⟨⟨by omega, by omega⟩, fun q w2 e2 => ?_, (mA_go hs hM hH (by decide) h).2⟩
  obtain ⟨F2, g2, h2⟩ := (mA_go hs hM hH (by decide) h).1 q w2 e2
  have hM2 := F2.mr hM
  obtain ⟨u, rfl⟩ := nat_of q.1
  rw [Int.toNat_natCast] at h2
  have hp := sPins_bd hM.ok u
  exact c326 F2.1 hM2 (hH.mq F2) (fun w3 F3 H3 => ⟨F3.1, c247 F3.1 (F3.mr hM2) q.2 (kI_iv ⟨by omega, by omega⟩ ⟨F3.1, c335 F3.1 (F3.mr hM2) q.2 (fun w7 G7 M7 => ⟨G7.1, mA_yes h2 (F3.ma.tr G7.mg.ma) (((G7.g (by decide) 0).trans (F3.2.2 0 (by decide))).trans g2) M7 (H3.mg G7.mg)⟩)⟩)⟩)
theorem c341 (hs : Sh w) (hM : MR w m) (hH : HM w H n) (hx1 : bd x1) (h : mA w H n m Q (sa195 m x1)) : pC 341 [.ref 169, iv x1] w Q := by
  refine e341 hs hx1 ?_
  rw [i2L_toInt hx1, show (1 : Int64).toInt = 1 from by decide, show (4 : Int64).toInt = 4 from by decide]
  refine ⟨fun q w2 e2 => ?_, (mA_go hs hM hH (by decide) h).2⟩
  obtain ⟨F2, g2, h2⟩ := (mA_go hs hM hH (by decide) h).1 q w2 e2
  exact c331 (J := 3) F2.1 (F2.mr hM) (hH.mq F2) (by decide) hx1 (rOne_ok hM.ok (Or.inr (Or.inl rfl)) (by omega) (fun _ => q) (by omega) (fun k hk => by omega) (fun k hk => by omega)) (fun w3 F3 g3 M3 H3 => kI_iv (mbd hM (by decide)) ⟨F3.1, mA_yes h2 F3 (g3.trans g2) M3 H3⟩)
theorem c342 (hs : Sh w) (hM : MR w m) (hH : HM w H n) (hx1 : bd x1) (h : mA w H n m Q (sa197 m x1)) : pC 342 [.ref 169, iv x1] w Q := by
  refine e342 hs hx1 ?_
  rw [i2L_toInt hx1, show (0 : Int64).toInt = 0 from by decide, show (3 : Int64).toInt = 3 from by decide]
  refine ⟨fun q w2 e2 => ?_, (mA_go hs hM hH (by decide) h).2⟩
  obtain ⟨F2, g2, h2⟩ := (mA_go hs hM hH (by decide) h).1 q w2 e2
  exact c331 (J := 2) F2.1 (F2.mr hM) (hH.mq F2) (by decide) hx1 (rOne_ok hM.ok (Or.inl rfl) (fun _ => q) (by omega) (by omega) (fun k hk => by omega) (fun k hk => by omega)) (fun w3 F3 g3 M3 H3 => kI_iv (mbd hM (by decide)) ⟨F3.1, mA_yes h2 F3 (g3.trans g2) M3 H3⟩)
theorem c343 (hs : Sh w) (hM : MR w m) (hH : HM w H n) (hx1 : bd x1) (h : mA w H n m Q (sa199 m x1)) : pC 343 [.ref 169, iv x1] w Q := by
  have h1 := hM.ok.u
  refine e343 hs hx1 ?_
  rw [hM.g (k := 1) rfl]
  refine ⟨⟨by omega, by omega⟩, fun q w2 e2 => ?_, (mA_go hs hM hH (by decide) h).2⟩
  obtain ⟨F2, g2, h2⟩ := (mA_go hs hM hH (by decide) h).1 q w2 e2
  exact c331 (J := 6) F2.1 (F2.mr hM) (hH.mq F2) (by decide) hx1 (rOne_ok hM.ok (Or.inr (Or.inr (Or.inl rfl))) (by omega) (by omega) (fun _ => q) (fun k hk => by omega) (fun k hk => by omega)) (fun w3 F3 g3 M3 H3 => kI_iv (mbd hM (by decide)) ⟨F3.1, mA_yes h2 F3 (g3.trans g2) M3 H3⟩)
theorem c344 (hs : Sh w) (hM : MR w m) (hH : HM w H n) (hF : m 9 ≤ 12 * m 8) (hx1 : bd x1) (h : mA w H n m Q (sa201 m x1)) : pC 344 [.ref 169, iv x1] w Q := by
  have h8 := hM.ok.pt
  refine e344 hs hx1 ?_
  refine ⟨fun q w2 e2 => ?_, (mA_go hs hM hH (by decide) h).2⟩
  obtain ⟨F2, g2, h2⟩ := (mA_go hs hM hH (by decide) h).1 q w2 e2
  have hM2 := F2.mr hM
  rw [hM2.g (k := 8) rfl]
  obtain ⟨k2, rfl⟩ := nat_of (show 0 ≤ x1 by omega)
  rw [Int.toNat_natCast] at h2
  refine ⟨⟨by omega, by omega⟩, fun q2 => c326 F2.1 hM2 (hH.mq F2) (fun w4 F4 H4 => ⟨F4.1, c320 F4.1 (F4.mr hM2) hF (by omega) (fun w6 G6 M6 => kI_iv ?_ ⟨G6.1, ?_⟩)⟩), fun q2 => mA_no (mAq_f h2 (by omega)) (MqF.rf F2.1) g2 hM2 (hH.mq F2)⟩
  · have := M6.ok.pp
    have := M6.ok.pt
    have := hM.ok.pp
    exact ⟨by omega, by omega⟩
  · exact mA_yes (mAq_t h2 q2) (F4.ma.tr G6.ma) ((G6.2.2.1.2.2.2.2.2.trans (F4.2.2 0 (by decide))).trans g2) M6 (H4.mg G6)
end MAC
