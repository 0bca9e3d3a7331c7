/-! THE MODEL's FACE: predictions -/
/-! 321: PinBarrelModel.ringsIn(I)I -/
theorem b321 : mB 321 = cX9_ringsIn := rfl
theorem r321 : mR 321 = (some .int) := rfl
theorem p321 (a b : Nat) : phi 321 a ≤ phi 321 b := Nat.le_refl 0
theorem d321_0 : decode cX9_ringsIn 0 = .ok (.aload_n 0, 1) := by decide +kernel
theorem d321_1 : decode cX9_ringsIn 1 = .ok (.iload_n 1, 1) := by decide +kernel
theorem d321_2 : decode cX9_ringsIn 2 = .ok (.invokestatic 413, 3) := by decide +kernel
theorem d321_5 : decode cX9_ringsIn 5 = .ok (.ifCond .ne 7, 3) := by decide +kernel
theorem d321_8 : decode cX9_ringsIn 8 = .ok (.iconst 1, 1) := by decide +kernel
theorem d321_9 : decode cX9_ringsIn 9 = .ok (.goto 4, 3) := by decide +kernel
theorem d321_12 : decode cX9_ringsIn 12 = .ok (.iconst 0, 1) := by decide +kernel
theorem d321_13 : decode cX9_ringsIn 13 = .ok (.invokevirtual 328, 3) := by decide +kernel
theorem d321_16 : decode cX9_ringsIn 16 = .ok (.ifCond .eq 5, 3) := by decide +kernel
theorem d321_19 : decode cX9_ringsIn 19 = .ok (.iconst 0, 1) := by decide +kernel
theorem d321_20 : decode cX9_ringsIn 20 = .ok (.ireturn, 1) := by decide +kernel
theorem d321_21 : decode cX9_ringsIn 21 = .ok (.aload_n 0, 1) := by decide +kernel
theorem d321_22 : decode cX9_ringsIn 22 = .ok (.invokevirtual 196, 3) := by decide +kernel
theorem d321_25 : decode cX9_ringsIn 25 = .ok (.aload_n 0, 1) := by decide +kernel
theorem d321_26 : decode cX9_ringsIn 26 = .ok (.getfield 9, 3) := by decide +kernel
theorem d321_29 : decode cX9_ringsIn 29 = .ok (.bipush 10, 2) := by decide +kernel
theorem d321_31 : decode cX9_ringsIn 31 = .ok (.iaload, 1) := by decide +kernel
theorem d321_32 : decode cX9_ringsIn 32 = .ok (.istore_n 2, 1) := by decide +kernel
theorem d321_33 : decode cX9_ringsIn 33 = .ok (.aload_n 0, 1) := by decide +kernel
theorem d321_34 : decode cX9_ringsIn 34 = .ok (.iload_n 1, 1) := by decide +kernel
theorem d321_35 : decode cX9_ringsIn 35 = .ok (.invokevirtual 416, 3) := by decide +kernel
theorem d321_38 : decode cX9_ringsIn 38 = .ok (.istore_n 3, 1) := by decide +kernel
theorem d321_39 : decode cX9_ringsIn 39 = .ok (.aload_n 0, 1) := by decide +kernel
theorem d321_40 : decode cX9_ringsIn 40 = .ok (.iload_n 3, 1) := by decide +kernel
theorem d321_41 : decode cX9_ringsIn 41 = .ok (.aload_n 0, 1) := by decide +kernel
theorem d321_42 : decode cX9_ringsIn 42 = .ok (.getfield 9, 3) := by decide +kernel
theorem d321_45 : decode cX9_ringsIn 45 = .ok (.bipush 10, 2) := by decide +kernel
theorem d321_47 : decode cX9_ringsIn 47 = .ok (.iaload, 1) := by decide +kernel
theorem d321_48 : decode cX9_ringsIn 48 = .ok (.isub, 1) := by decide +kernel
theorem d321_49 : decode cX9_ringsIn 49 = .ok (.iload_n 2, 1) := by decide +kernel
theorem d321_50 : decode cX9_ringsIn 50 = .ok (.iadd, 1) := by decide +kernel
theorem d321_51 : decode cX9_ringsIn 51 = .ok (.invokevirtual 202, 3) := by decide +kernel
theorem d321_54 : decode cX9_ringsIn 54 = .ok (.ireturn, 1) := by decide +kernel
theorem v321_0 {w : PW} {Q : PO → PW → Prop} {x1 : Int} (hs : Sh w) (hx1 : bd x1) (h : ((1 ≤ x1 ∧ x1 ≤ 200) → ∀ w2 : PW, w2 = sI w 169 0 0 → pC 219 [.ref 169] w2 (kV fun w3 => Sh w3 ∧ pC 320 [.ref 169, iv x1] w3 (kI fun u6 w5 => Sh w5 ∧ pC 241 [.ref 169, iv ((u6 - (gI w5 170 10)) + (gI w3 170 10))] w5 (kI fun u8 w7 => Sh w7 ∧ Q (.inl (some (iv u8))) w7)))) ∧ ((¬ (1 ≤ x1 ∧ x1 ≤ 200)) → ∀ w9 : PW, w9 = sI w 169 0 1 → Q (.inl (some (iv 0))) w9)) : pX 321 0 [some (.ref 169), some (iv x1), none, none] [] w Q :=
  w_f b321 d321_0 rfl rfl rfl <| w_f b321 d321_1 rfl rfl rfl <| w_cc b321 d321_2 rfl (pcl_s1 (n := 1) rfl rfl rfl (by decide +kernel) rfl rfl) rfl <| c317 hs hx1 <| w_ifneZ b321 d321_5 rfl rfl (p321 _ _) (fun c1 => w_f b321 d321_12 rfl rfl rfl <| w_cc b321 d321_13 rfl (pcl_v (n := 1) rfl rfl rfl (by decide +kernel) (sh_isOb hs (tlt 169 rfl) tbC_169) rfl rfl) rfl <| c245 hs ⟨by decide, by decide⟩ (by decide) <| w_ifeq b321 d321_16 rfl rfl (p321 _ _) ⟨by decide, by decide⟩ (fun _ => w_f b321 d321_21 rfl rfl rfl <| w_c b321 d321_22 rfl (pcl_v (n := 0) rfl rfl rfl (by decide +kernel) (sh_isOb (Sh_sI hs (slt_o tbC_169 rfl)) (tlt 169 rfl) tbC_169) rfl rfl) rfl _ (hK_V fun w3 hkw3 => w_f b321 d321_25 rfl rfl rfl <| w_gr b321 d321_26 rfl rfl hkw3.1 (tlt 169 rfl) tbC_169 rfl (by decide) <| w_f b321 d321_29 rfl rfl rfl <| w_ial b321 d321_31 rfl hkw3.1 (tlt 170 rfl) tbC_170 (bdix (n := 843) ⟨by decide, by decide⟩ rfl) ⟨by decide, by decide⟩ <| w_f b321 d321_32 rfl rfl rfl <| w_f b321 d321_33 rfl rfl rfl <| w_f b321 d321_34 rfl rfl rfl <| w_c b321 d321_35 rfl (pcl_v (n := 1) rfl rfl rfl (by decide +kernel) (sh_isOb hkw3.1 (tlt 169 rfl) tbC_169) rfl rfl) rfl _ (hK_I fun u6 w5 hbu6 hkw5 => w_f b321 d321_38 rfl rfl rfl <| w_f b321 d321_39 rfl rfl rfl <| w_f b321 d321_40 rfl rfl rfl <| w_f b321 d321_41 rfl rfl rfl <| w_gr b321 d321_42 rfl rfl hkw5.1 (tlt 169 rfl) tbC_169 rfl (by decide) <| w_f b321 d321_45 rfl rfl rfl <| w_ial b321 d321_47 rfl hkw5.1 (tlt 170 rfl) tbC_170 (bdix (n := 843) ⟨by decide, by decide⟩ rfl) ⟨by decide, by decide⟩ <| w_f b321 d321_48 rfl (pf_isub _ _) rfl <| w_f b321 d321_49 rfl rfl rfl <| w_f b321 d321_50 rfl (pf_iadd _ _) rfl <| w_c b321 d321_51 rfl (pcl_v (n := 1) rfl rfl rfl (by decide +kernel) (sh_isOb hkw5.1 (tlt 169 rfl) tbC_169) rfl rfl) rfl _ (hK_I fun u8 w7 hbu8 hkw7 => w_ri b321 d321_54 r321 hkw7.2) hkw5.2) hkw3.2) ((h.1 c1) _ rfl)) (fun c => absurd c (by decide))) (fun c1 => w_f b321 d321_8 rfl rfl rfl <| w_j b321 d321_9 rfl (p321 _ _) <| w_cc b321 d321_13 rfl (pcl_v (n := 1) rfl rfl rfl (by decide +kernel) (sh_isOb hs (tlt 169 rfl) tbC_169) rfl rfl) rfl <| c245 hs ⟨by decide, by decide⟩ (by decide) <| w_ifeq b321 d321_16 rfl rfl (p321 _ _) ⟨by decide, by decide⟩ (fun c => absurd c (by decide)) (fun _ => w_f b321 d321_19 rfl rfl rfl <| w_ri b321 d321_20 r321 ((h.2 c1) _ rfl)))
theorem e321 {w : PW} {Q : PO → PW → Prop} {x1 : Int} (hs : Sh w) (hx1 : bd x1) (h : ((1 ≤ x1 ∧ x1 ≤ 200) → ∀ w2 : PW, w2 = sI w 169 0 0 → pC 219 [.ref 169] w2 (kV fun w3 => Sh w3 ∧ pC 320 [.ref 169, iv x1] w3 (kI fun u6 w5 => Sh w5 ∧ pC 241 [.ref 169, iv ((u6 - (gI w5 170 10)) + (gI w3 170 10))] w5 (kI fun u8 w7 => Sh w7 ∧ Q (.inl (some (iv u8))) w7)))) ∧ ((¬ (1 ≤ x1 ∧ x1 ≤ 200)) → ∀ w9 : PW, w9 = sI w 169 0 1 → Q (.inl (some (iv 0))) w9)) : pC 321 [.ref 169, iv x1] w Q :=
  (pC_in (Nat.le_of_ble_eq_true rfl) rfl Q).mpr (v321_0 hs hx1 h)
/-! 322: PinBarrelModel.buzzesIn(I)I -/
theorem b322 : mB 322 = cX9_buzzesIn := rfl
theorem r322 : mR 322 = (some .int) := rfl
theorem p322 (a b : Nat) : phi 322 a ≤ phi 322 b := Nat.le_refl 0
theorem d322_0 : decode cX9_buzzesIn 0 = .ok (.aload_n 0, 1) := by decide +kernel
theorem d322_1 : decode cX9_buzzesIn 1 = .ok (.iload_n 1, 1) := by decide +kernel
theorem d322_2 : decode cX9_buzzesIn 2 = .ok (.invokestatic 413, 3) := by decide +kernel
theorem d322_5 : decode cX9_buzzesIn 5 = .ok (.ifCond .ne 7, 3) := by decide +kernel
theorem d322_8 : decode cX9_buzzesIn 8 = .ok (.iconst 1, 1) := by decide +kernel
theorem d322_9 : decode cX9_buzzesIn 9 = .ok (.goto 4, 3) := by decide +kernel
theorem d322_12 : decode cX9_buzzesIn 12 = .ok (.iconst 0, 1) := by decide +kernel
theorem d322_13 : decode cX9_buzzesIn 13 = .ok (.invokevirtual 328, 3) := by decide +kernel
theorem d322_16 : decode cX9_buzzesIn 16 = .ok (.ifCond .eq 5, 3) := by decide +kernel
theorem d322_19 : decode cX9_buzzesIn 19 = .ok (.iconst 0, 1) := by decide +kernel
theorem d322_20 : decode cX9_buzzesIn 20 = .ok (.ireturn, 1) := by decide +kernel
theorem d322_21 : decode cX9_buzzesIn 21 = .ok (.aload_n 0, 1) := by decide +kernel
theorem d322_22 : decode cX9_buzzesIn 22 = .ok (.invokevirtual 196, 3) := by decide +kernel
theorem d322_25 : decode cX9_buzzesIn 25 = .ok (.aload_n 0, 1) := by decide +kernel
theorem d322_26 : decode cX9_buzzesIn 26 = .ok (.getfield 9, 3) := by decide +kernel
theorem d322_29 : decode cX9_buzzesIn 29 = .ok (.bipush 10, 2) := by decide +kernel
theorem d322_31 : decode cX9_buzzesIn 31 = .ok (.iaload, 1) := by decide +kernel
theorem d322_32 : decode cX9_buzzesIn 32 = .ok (.istore_n 2, 1) := by decide +kernel
theorem d322_33 : decode cX9_buzzesIn 33 = .ok (.aload_n 0, 1) := by decide +kernel
theorem d322_34 : decode cX9_buzzesIn 34 = .ok (.iload_n 1, 1) := by decide +kernel
theorem d322_35 : decode cX9_buzzesIn 35 = .ok (.invokevirtual 416, 3) := by decide +kernel
theorem d322_38 : decode cX9_buzzesIn 38 = .ok (.istore_n 3, 1) := by decide +kernel
theorem d322_39 : decode cX9_buzzesIn 39 = .ok (.aload_n 0, 1) := by decide +kernel
theorem d322_40 : decode cX9_buzzesIn 40 = .ok (.aload_n 0, 1) := by decide +kernel
theorem d322_41 : decode cX9_buzzesIn 41 = .ok (.getfield 9, 3) := by decide +kernel
theorem d322_44 : decode cX9_buzzesIn 44 = .ok (.bipush 10, 2) := by decide +kernel
theorem d322_46 : decode cX9_buzzesIn 46 = .ok (.iaload, 1) := by decide +kernel
theorem d322_47 : decode cX9_buzzesIn 47 = .ok (.iload_n 2, 1) := by decide +kernel
theorem d322_48 : decode cX9_buzzesIn 48 = .ok (.isub, 1) := by decide +kernel
theorem d322_49 : decode cX9_buzzesIn 49 = .ok (.invokevirtual 202, 3) := by decide +kernel
theorem d322_52 : decode cX9_buzzesIn 52 = .ok (.ireturn, 1) := by decide +kernel
theorem v322_0 {w : PW} {Q : PO → PW → Prop} {x1 : Int} (hs : Sh w) (hx1 : bd x1) (h : ((1 ≤ x1 ∧ x1 ≤ 200) → ∀ w2 : PW, w2 = sI w 169 0 0 → pC 219 [.ref 169] w2 (kV fun w3 => Sh w3 ∧ pC 320 [.ref 169, iv x1] w3 (kI fun u6 w5 => Sh w5 ∧ pC 241 [.ref 169, iv ((gI w5 170 10) - (gI w3 170 10))] w5 (kI fun u8 w7 => Sh w7 ∧ Q (.inl (some (iv u8))) w7)))) ∧ ((¬ (1 ≤ x1 ∧ x1 ≤ 200)) → ∀ w9 : PW, w9 = sI w 169 0 1 → Q (.inl (some (iv 0))) w9)) : pX 322 0 [some (.ref 169), some (iv x1), none, none] [] w Q :=
  w_f b322 d322_0 rfl rfl rfl <| w_f b322 d322_1 rfl rfl rfl <| w_cc b322 d322_2 rfl (pcl_s1 (n := 1) rfl rfl rfl (by decide +kernel) rfl rfl) rfl <| c317 hs hx1 <| w_ifneZ b322 d322_5 rfl rfl (p322 _ _) (fun c1 => w_f b322 d322_12 rfl rfl rfl <| w_cc b322 d322_13 rfl (pcl_v (n := 1) rfl rfl rfl (by decide +kernel) (sh_isOb hs (tlt 169 rfl) tbC_169) rfl rfl) rfl <| c245 hs ⟨by decide, by decide⟩ (by decide) <| w_ifeq b322 d322_16 rfl rfl (p322 _ _) ⟨by decide, by decide⟩ (fun _ => w_f b322 d322_21 rfl rfl rfl <| w_c b322 d322_22 rfl (pcl_v (n := 0) rfl rfl rfl (by decide +kernel) (sh_isOb (Sh_sI hs (slt_o tbC_169 rfl)) (tlt 169 rfl) tbC_169) rfl rfl) rfl _ (hK_V fun w3 hkw3 => w_f b322 d322_25 rfl rfl rfl <| w_gr b322 d322_26 rfl rfl hkw3.1 (tlt 169 rfl) tbC_169 rfl (by decide) <| w_f b322 d322_29 rfl rfl rfl <| w_ial b322 d322_31 rfl hkw3.1 (tlt 170 rfl) tbC_170 (bdix (n := 843) ⟨by decide, by decide⟩ rfl) ⟨by decide, by decide⟩ <| w_f b322 d322_32 rfl rfl rfl <| w_f b322 d322_33 rfl rfl rfl <| w_f b322 d322_34 rfl rfl rfl <| w_c b322 d322_35 rfl (pcl_v (n := 1) rfl rfl rfl (by decide +kernel) (sh_isOb hkw3.1 (tlt 169 rfl) tbC_169) rfl rfl) rfl _ (hK_I fun u6 w5 hbu6 hkw5 => w_f b322 d322_38 rfl rfl rfl <| w_f b322 d322_39 rfl rfl rfl <| w_f b322 d322_40 rfl rfl rfl <| w_gr b322 d322_41 rfl rfl hkw5.1 (tlt 169 rfl) tbC_169 rfl (by decide) <| w_f b322 d322_44 rfl rfl rfl <| w_ial b322 d322_46 rfl hkw5.1 (tlt 170 rfl) tbC_170 (bdix (n := 843) ⟨by decide, by decide⟩ rfl) ⟨by decide, by decide⟩ <| w_f b322 d322_47 rfl rfl rfl <| w_f b322 d322_48 rfl (pf_isub _ _) rfl <| w_c b322 d322_49 rfl (pcl_v (n := 1) rfl rfl rfl (by decide +kernel) (sh_isOb hkw5.1 (tlt 169 rfl) tbC_169) rfl rfl) rfl _ (hK_I fun u8 w7 hbu8 hkw7 => w_ri b322 d322_52 r322 hkw7.2) hkw5.2) hkw3.2) ((h.1 c1) _ rfl)) (fun c => absurd c (by decide))) (fun c1 => w_f b322 d322_8 rfl rfl rfl <| w_j b322 d322_9 rfl (p322 _ _) <| w_cc b322 d322_13 rfl (pcl_v (n := 1) rfl rfl rfl (by decide +kernel) (sh_isOb hs (tlt 169 rfl) tbC_169) rfl rfl) rfl <| c245 hs ⟨by decide, by decide⟩ (by decide) <| w_ifeq b322 d322_16 rfl rfl (p322 _ _) ⟨by decide, by decide⟩ (fun c => absurd c (by decide)) (fun _ => w_f b322 d322_19 rfl rfl rfl <| w_ri b322 d322_20 r322 ((h.2 c1) _ rfl)))
theorem e322 {w : PW} {Q : PO → PW → Prop} {x1 : Int} (hs : Sh w) (hx1 : bd x1) (h : ((1 ≤ x1 ∧ x1 ≤ 200) → ∀ w2 : PW, w2 = sI w 169 0 0 → pC 219 [.ref 169] w2 (kV fun w3 => Sh w3 ∧ pC 320 [.ref 169, iv x1] w3 (kI fun u6 w5 => Sh w5 ∧ pC 241 [.ref 169, iv ((gI w5 170 10) - (gI w3 170 10))] w5 (kI fun u8 w7 => Sh w7 ∧ Q (.inl (some (iv u8))) w7)))) ∧ ((¬ (1 ≤ x1 ∧ x1 ≤ 200)) → ∀ w9 : PW, w9 = sI w 169 0 1 → Q (.inl (some (iv 0))) w9)) : pC 322 [.ref 169, iv x1] w Q :=
  (pC_in (Nat.le_of_ble_eq_true rfl) rfl Q).mpr (v322_0 hs hx1 h)
/-! 323: PinBarrelModel.firstBuzz()I -/
theorem b323 : mB 323 = cX9_firstBuzz := rfl
theorem r323 : mR 323 = (some .int) := rfl
theorem p323 (a b : Nat) : phi 323 a ≤ phi 323 b := Nat.le_refl 0
theorem d323_0 : decode cX9_firstBuzz 0 = .ok (.aload_n 0, 1) := by decide +kernel
theorem d323_1 : decode cX9_firstBuzz 1 = .ok (.iconst 0, 1) := by decide +kernel
theorem d323_2 : decode cX9_firstBuzz 2 = .ok (.putfield 50, 3) := by decide +kernel
theorem d323_5 : decode cX9_firstBuzz 5 = .ok (.aload_n 0, 1) := by decide +kernel
theorem d323_6 : decode cX9_firstBuzz 6 = .ok (.invokevirtual 196, 3) := by decide +kernel
theorem d323_9 : decode cX9_firstBuzz 9 = .ok (.aload_n 0, 1) := by decide +kernel
theorem d323_10 : decode cX9_firstBuzz 10 = .ok (.getfield 9, 3) := by decide +kernel
theorem d323_13 : decode cX9_firstBuzz 13 = .ok (.bipush 10, 2) := by decide +kernel
theorem d323_15 : decode cX9_firstBuzz 15 = .ok (.iaload, 1) := by decide +kernel
theorem d323_16 : decode cX9_firstBuzz 16 = .ok (.istore_n 1, 1) := by decide +kernel
theorem d323_17 : decode cX9_firstBuzz 17 = .ok (.iconst 0, 1) := by decide +kernel
theorem d323_18 : decode cX9_firstBuzz 18 = .ok (.istore_n 2, 1) := by decide +kernel
theorem d323_19 : decode cX9_firstBuzz 19 = .ok (.iload_n 2, 1) := by decide +kernel
theorem d323_20 : decode cX9_firstBuzz 20 = .ok (.iconst 3, 1) := by decide +kernel
theorem d323_21 : decode cX9_firstBuzz 21 = .ok (.aload_n 0, 1) := by decide +kernel
theorem d323_22 : decode cX9_firstBuzz 22 = .ok (.getfield 9, 3) := by decide +kernel
theorem d323_25 : decode cX9_firstBuzz 25 = .ok (.iconst 0, 1) := by decide +kernel
theorem d323_26 : decode cX9_firstBuzz 26 = .ok (.iaload, 1) := by decide +kernel
theorem d323_27 : decode cX9_firstBuzz 27 = .ok (.imul, 1) := by decide +kernel
theorem d323_28 : decode cX9_firstBuzz 28 = .ok (.if_icmp .ge 31, 3) := by decide +kernel
theorem d323_31 : decode cX9_firstBuzz 31 = .ok (.aload_n 0, 1) := by decide +kernel
theorem d323_32 : decode cX9_firstBuzz 32 = .ok (.invokevirtual 408, 3) := by decide +kernel
theorem d323_35 : decode cX9_firstBuzz 35 = .ok (.istore_n 3, 1) := by decide +kernel
theorem d323_36 : decode cX9_firstBuzz 36 = .ok (.aload_n 0, 1) := by decide +kernel
theorem d323_37 : decode cX9_firstBuzz 37 = .ok (.getfield 9, 3) := by decide +kernel
theorem d323_40 : decode cX9_firstBuzz 40 = .ok (.bipush 10, 2) := by decide +kernel
theorem d323_42 : decode cX9_firstBuzz 42 = .ok (.iaload, 1) := by decide +kernel
theorem d323_43 : decode cX9_firstBuzz 43 = .ok (.iload_n 1, 1) := by decide +kernel
theorem d323_44 : decode cX9_firstBuzz 44 = .ok (.if_icmp .le 9, 3) := by decide +kernel
theorem d323_47 : decode cX9_firstBuzz 47 = .ok (.aload_n 0, 1) := by decide +kernel
theorem d323_48 : decode cX9_firstBuzz 48 = .ok (.iload_n 2, 1) := by decide +kernel
theorem d323_49 : decode cX9_firstBuzz 49 = .ok (.invokevirtual 202, 3) := by decide +kernel
theorem d323_52 : decode cX9_firstBuzz 52 = .ok (.ireturn, 1) := by decide +kernel
theorem d323_53 : decode cX9_firstBuzz 53 = .ok (.iinc 2 1, 3) := by decide +kernel
theorem d323_56 : decode cX9_firstBuzz 56 = .ok (.goto (-37), 3) := by decide +kernel
theorem d323_59 : decode cX9_firstBuzz 59 = .ok (.aload_n 0, 1) := by decide +kernel
theorem d323_60 : decode cX9_firstBuzz 60 = .ok (.iconst (-1), 1) := by decide +kernel
theorem d323_61 : decode cX9_firstBuzz 61 = .ok (.invokevirtual 202, 3) := by decide +kernel
theorem d323_64 : decode cX9_firstBuzz 64 = .ok (.ireturn, 1) := by decide +kernel
theorem v323_0 {w : PW} {Q : PO → PW → Prop}  (hs : Sh w)  (h : ∀ w1 : PW, w1 = sI w 169 0 0 → pC 219 [.ref 169] w1 (kV fun w2 => Sh w2 ∧ pX 323 19 [some (.ref 169), some (iv (gI w2 170 10)), some (iv 0), none] [] w2 Q)) : pX 323 0 [some (.ref 169), none, none, none] [] w Q :=
  w_f b323 d323_0 rfl rfl rfl <| w_f b323 d323_1 rfl rfl rfl <| w_pi b323 d323_2 rfl rfl hs (tlt 169 rfl) tbC_169 rfl rfl rfl <| w_f b323 d323_5 rfl rfl rfl <| w_c b323 d323_6 rfl (pcl_v (n := 0) rfl rfl rfl (by decide +kernel) (sh_isOb (Sh_sI hs (slt_o tbC_169 rfl)) (tlt 169 rfl) tbC_169) rfl rfl) rfl _ (hK_V fun w2 hkw2 => w_f b323 d323_9 rfl rfl rfl <| w_gr b323 d323_10 rfl rfl hkw2.1 (tlt 169 rfl) tbC_169 rfl (by decide) <| w_f b323 d323_13 rfl rfl rfl <| w_ial b323 d323_15 rfl hkw2.1 (tlt 170 rfl) tbC_170 (bdix (n := 843) ⟨by decide, by decide⟩ rfl) ⟨by decide, by decide⟩ <| w_f b323 d323_16 rfl rfl rfl <| w_f b323 d323_17 rfl rfl rfl <| w_f b323 d323_18 rfl rfl rfl <| hkw2.2) (h _ rfl)
theorem e323 {w : PW} {Q : PO → PW → Prop}  (hs : Sh w)  (h : ∀ w1 : PW, w1 = sI w 169 0 0 → pC 219 [.ref 169] w1 (kV fun w2 => Sh w2 ∧ pX 323 19 [some (.ref 169), some (iv (gI w2 170 10)), some (iv 0), none] [] w2 Q)) : pC 323 [.ref 169] w Q :=
  (pC_in (Nat.le_of_ble_eq_true rfl) rfl Q).mpr (v323_0 hs  h)
theorem v323_19 {w : PW} {Q : PO → PW → Prop} {x1 : Int} {x2 : Int} {o3 : Option Value} (hs : Sh w) (hx1 : bd x1) (hx2 : bd x2) (ho3 : pc2 o3 = false) (h : (bd (3 * (gI w 170 0))) ∧ ((3 * (gI w 170 0)) ≤ x2 → pC 241 [.ref 169, iv ((-1))] w (kI fun u3 w2 => Sh w2 ∧ Q (.inl (some (iv u3))) w2)) ∧ (x2 < (3 * (gI w 170 0)) → pC 319 [.ref 169] w (kI fun u5 w4 => Sh w4 ∧ ((gI w4 170 10) ≤ x1 → pX 323 19 [some (.ref 169), some (iv x1), some (iv (x2 + 1)), some (iv u5)] [] w4 Q) ∧ (x1 < (gI w4 170 10) → pC 241 [.ref 169, iv x2] w4 (kI fun u8 w7 => Sh w7 ∧ Q (.inl (some (iv u8))) w7))))) : pX 323 19 [some (.ref 169), some (iv x1), some (iv x2), o3] [] w Q :=
  w_f b323 d323_19 rfl rfl rfl <| w_f b323 d323_20 rfl rfl rfl <| w_f b323 d323_21 rfl rfl rfl <| w_gr b323 d323_22 rfl rfl hs (tlt 169 rfl) tbC_169 rfl (by decide) <| w_f b323 d323_25 rfl rfl rfl <| w_ial b323 d323_26 rfl hs (tlt 170 rfl) tbC_170 (bdix (n := 843) ⟨by decide, by decide⟩ rfl) ⟨by decide, by decide⟩ <| w_f b323 d323_27 rfl (pf_imul 3 (gI w 170 0)) rfl <| w_icge b323 d323_28 rfl rfl (p323 _ _) hx2 h.1 (fun c1 => w_f b323 d323_59 rfl rfl rfl <| w_f b323 d323_60 rfl rfl rfl <| w_c b323 d323_61 rfl (pcl_v (n := 1) rfl rfl rfl (by decide +kernel) (sh_isOb hs (tlt 169 rfl) tbC_169) rfl rfl) rfl _ (hK_I fun u3 w2 hbu3 hkw2 => w_ri b323 d323_64 r323 hkw2.2) (h.2.1 c1)) (fun c1 => w_f b323 d323_31 rfl rfl rfl <| w_c b323 d323_32 rfl (pcl_v (n := 0) rfl rfl rfl (by decide +kernel) (sh_isOb hs (tlt 169 rfl) tbC_169) rfl rfl) rfl _ (hK_I fun u5 w4 hbu5 hkw4 => w_f b323 d323_35 rfl rfl rfl <| w_f b323 d323_36 rfl rfl rfl <| w_gr b323 d323_37 rfl rfl hkw4.1 (tlt 169 rfl) tbC_169 rfl (by decide) <| w_f b323 d323_40 rfl rfl rfl <| w_ial b323 d323_42 rfl hkw4.1 (tlt 170 rfl) tbC_170 (bdix (n := 843) ⟨by decide, by decide⟩ rfl) ⟨by decide, by decide⟩ <| w_f b323 d323_43 rfl rfl rfl <| w_icle b323 d323_44 rfl rfl (p323 _ _) (bd_gI _ _ _) hx1 (fun c6 => w_f b323 d323_53 rfl (pf_iinc rfl rfl) rfl <| w_j b323 d323_56 rfl (p323 _ _) <| (hkw4.2.1 c6)) (fun c6 => w_f b323 d323_47 rfl rfl rfl <| w_f b323 d323_48 rfl rfl rfl <| w_c b323 d323_49 rfl (pcl_v (n := 1) rfl rfl rfl (by decide +kernel) (sh_isOb hkw4.1 (tlt 169 rfl) tbC_169) rfl rfl) rfl _ (hK_I fun u8 w7 hbu8 hkw7 => w_ri b323 d323_52 r323 hkw7.2) (hkw4.2.2 c6))) (h.2.2 c1))
/-! 324: PinBarrelModel.nextTooth()I -/
theorem b324 : mB 324 = cX9_nextTooth := rfl
theorem r324 : mR 324 = (some .int) := rfl
theorem p324 (a b : Nat) : phi 324 a ≤ phi 324 b := Nat.le_refl 0
theorem d324_0 : decode cX9_nextTooth 0 = .ok (.aload_n 0, 1) := by decide +kernel
theorem d324_1 : decode cX9_nextTooth 1 = .ok (.iconst 0, 1) := by decide +kernel
theorem d324_2 : decode cX9_nextTooth 2 = .ok (.putfield 50, 3) := by decide +kernel
theorem d324_5 : decode cX9_nextTooth 5 = .ok (.iconst 0, 1) := by decide +kernel
theorem d324_6 : decode cX9_nextTooth 6 = .ok (.istore_n 1, 1) := by decide +kernel
theorem d324_7 : decode cX9_nextTooth 7 = .ok (.iload_n 1, 1) := by decide +kernel
theorem d324_8 : decode cX9_nextTooth 8 = .ok (.aload_n 0, 1) := by decide +kernel
theorem d324_9 : decode cX9_nextTooth 9 = .ok (.getfield 9, 3) := by decide +kernel
theorem d324_12 : decode cX9_nextTooth 12 = .ok (.iconst 0, 1) := by decide +kernel
theorem d324_13 : decode cX9_nextTooth 13 = .ok (.iaload, 1) := by decide +kernel
theorem d324_14 : decode cX9_nextTooth 14 = .ok (.if_icmp .ge 69, 3) := by decide +kernel
theorem d324_17 : decode cX9_nextTooth 17 = .ok (.aload_n 0, 1) := by decide +kernel
theorem d324_18 : decode cX9_nextTooth 18 = .ok (.getfield 9, 3) := by decide +kernel
theorem d324_21 : decode cX9_nextTooth 21 = .ok (.aload_n 0, 1) := by decide +kernel
theorem d324_22 : decode cX9_nextTooth 22 = .ok (.getfield 9, 3) := by decide +kernel
theorem d324_25 : decode cX9_nextTooth 25 = .ok (.bipush 6, 2) := by decide +kernel
theorem d324_27 : decode cX9_nextTooth 27 = .ok (.iaload, 1) := by decide +kernel
theorem d324_28 : decode cX9_nextTooth 28 = .ok (.aload_n 0, 1) := by decide +kernel
theorem d324_29 : decode cX9_nextTooth 29 = .ok (.getfield 9, 3) := by decide +kernel
theorem d324_32 : decode cX9_nextTooth 32 = .ok (.bipush 7, 2) := by decide +kernel
theorem d324_34 : decode cX9_nextTooth 34 = .ok (.iaload, 1) := by decide +kernel
theorem d324_35 : decode cX9_nextTooth 35 = .ok (.iload_n 1, 1) := by decide +kernel
theorem d324_36 : decode cX9_nextTooth 36 = .ok (.iadd, 1) := by decide +kernel
theorem d324_37 : decode cX9_nextTooth 37 = .ok (.aload_n 0, 1) := by decide +kernel
theorem d324_38 : decode cX9_nextTooth 38 = .ok (.getfield 9, 3) := by decide +kernel
theorem d324_41 : decode cX9_nextTooth 41 = .ok (.iconst 0, 1) := by decide +kernel
theorem d324_42 : decode cX9_nextTooth 42 = .ok (.iaload, 1) := by decide +kernel
theorem d324_43 : decode cX9_nextTooth 43 = .ok (.irem, 1) := by decide +kernel
theorem d324_44 : decode cX9_nextTooth 44 = .ok (.invokestatic 213, 3) := by decide +kernel
theorem d324_47 : decode cX9_nextTooth 47 = .ok (.iaload, 1) := by decide +kernel
theorem d324_48 : decode cX9_nextTooth 48 = .ok (.istore_n 2, 1) := by decide +kernel
theorem d324_49 : decode cX9_nextTooth 49 = .ok (.iconst 0, 1) := by decide +kernel
theorem d324_50 : decode cX9_nextTooth 50 = .ok (.istore_n 3, 1) := by decide +kernel
theorem d324_51 : decode cX9_nextTooth 51 = .ok (.iload_n 3, 1) := by decide +kernel
theorem d324_52 : decode cX9_nextTooth 52 = .ok (.aload_n 0, 1) := by decide +kernel
theorem d324_53 : decode cX9_nextTooth 53 = .ok (.getfield 9, 3) := by decide +kernel
theorem d324_56 : decode cX9_nextTooth 56 = .ok (.iconst 4, 1) := by decide +kernel
theorem d324_57 : decode cX9_nextTooth 57 = .ok (.iaload, 1) := by decide +kernel
theorem d324_58 : decode cX9_nextTooth 58 = .ok (.if_icmp .ge 19, 3) := by decide +kernel
theorem d324_61 : decode cX9_nextTooth 61 = .ok (.iload_n 2, 1) := by decide +kernel
theorem d324_62 : decode cX9_nextTooth 62 = .ok (.iload_n 3, 1) := by decide +kernel
theorem d324_63 : decode cX9_nextTooth 63 = .ok (.invokestatic 216, 3) := by decide +kernel
theorem d324_66 : decode cX9_nextTooth 66 = .ok (.ifCond .eq 5, 3) := by decide +kernel
theorem d324_69 : decode cX9_nextTooth 69 = .ok (.iload_n 3, 1) := by decide +kernel
theorem d324_70 : decode cX9_nextTooth 70 = .ok (.ireturn, 1) := by decide +kernel
theorem d324_71 : decode cX9_nextTooth 71 = .ok (.iinc 3 1, 3) := by decide +kernel
theorem d324_74 : decode cX9_nextTooth 74 = .ok (.goto (-23), 3) := by decide +kernel
theorem d324_77 : decode cX9_nextTooth 77 = .ok (.iinc 1 1, 3) := by decide +kernel
theorem d324_80 : decode cX9_nextTooth 80 = .ok (.goto (-73), 3) := by decide +kernel
theorem d324_83 : decode cX9_nextTooth 83 = .ok (.iconst (-1), 1) := by decide +kernel
theorem d324_84 : decode cX9_nextTooth 84 = .ok (.ireturn, 1) := by decide +kernel
theorem v324_0 {w : PW} {Q : PO → PW → Prop}  (hs : Sh w)  (h : ∀ w1 : PW, w1 = sI w 169 0 0 → pX 324 7 [some (.ref 169), some (iv 0), none, none] [] w1 Q) : pX 324 0 [some (.ref 169), none, none, none] [] w Q :=
  w_f b324 d324_0 rfl rfl rfl <| w_f b324 d324_1 rfl rfl rfl <| w_pi b324 d324_2 rfl rfl hs (tlt 169 rfl) tbC_169 rfl rfl rfl <| w_f b324 d324_5 rfl rfl rfl <| w_f b324 d324_6 rfl rfl rfl <| (h _ rfl)
theorem e324 {w : PW} {Q : PO → PW → Prop}  (hs : Sh w)  (h : ∀ w1 : PW, w1 = sI w 169 0 0 → pX 324 7 [some (.ref 169), some (iv 0), none, none] [] w1 Q) : pC 324 [.ref 169] w Q :=
  (pC_in (Nat.le_of_ble_eq_true rfl) rfl Q).mpr (v324_0 hs  h)
theorem v324_7 {w : PW} {Q : PO → PW → Prop} {x1 : Int} {o2 : Option Value} {o3 : Option Value} (hs : Sh w) (hx1 : bd x1) (ho2 : pc2 o2 = false) (ho3 : pc2 o3 = false) (h : ((gI w 170 0) ≤ x1 → Q (.inl (some (iv ((-1))))) w) ∧ (x1 < (gI w 170 0) → (bd ((gI w 170 7) + x1)) ∧ (0 < (gI w 170 0) ∧ (gI w 170 0) < 2147483648) ∧ (bd (((gI w 170 7) + x1).tmod (gI w 170 0))) ∧ (0 ≤ ((251 + 64 * (gI w 170 6)) + (((gI w 170 7) + x1).tmod (gI w 170 0))) ∧ ((251 + 64 * (gI w 170 6)) + (((gI w 170 7) + x1).tmod (gI w 170 0))) < 843) ∧ pX 324 51 [some (.ref 169), some (iv x1), some (iv (gI w 170 ((251 + 64 * (gI w 170 6)) + (((gI w 170 7) + x1).tmod (gI w 170 0))).toNat)), some (iv 0)] [] w Q)) : pX 324 7 [some (.ref 169), some (iv x1), o2, o3] [] w Q :=
  w_f b324 d324_7 rfl rfl rfl <| w_f b324 d324_8 rfl rfl rfl <| w_gr b324 d324_9 rfl rfl hs (tlt 169 rfl) tbC_169 rfl (by decide) <| w_f b324 d324_12 rfl rfl rfl <| w_ial b324 d324_13 rfl hs (tlt 170 rfl) tbC_170 (bdix (n := 843) ⟨by decide, by decide⟩ rfl) ⟨by decide, by decide⟩ <| w_icge b324 d324_14 rfl rfl (p324 _ _) hx1 (bd_gI _ _ _) (fun c1 => w_f b324 d324_83 rfl rfl rfl <| w_ri b324 d324_84 r324 (h.1 c1)) (fun c1 => w_f b324 d324_17 rfl rfl rfl <| w_gr b324 d324_18 rfl rfl hs (tlt 169 rfl) tbC_169 rfl (by decide) <| w_f b324 d324_21 rfl rfl rfl <| w_gr b324 d324_22 rfl rfl hs (tlt 169 rfl) tbC_169 rfl (by decide) <| w_f b324 d324_25 rfl rfl rfl <| w_ial b324 d324_27 rfl hs (tlt 170 rfl) tbC_170 (bdix (n := 843) ⟨by decide, by decide⟩ rfl) ⟨by decide, by decide⟩ <| w_f b324 d324_28 rfl rfl rfl <| w_gr b324 d324_29 rfl rfl hs (tlt 169 rfl) tbC_169 rfl (by decide) <| w_f b324 d324_32 rfl rfl rfl <| w_ial b324 d324_34 rfl hs (tlt 170 rfl) tbC_170 (bdix (n := 843) ⟨by decide, by decide⟩ rfl) ⟨by decide, by decide⟩ <| w_f b324 d324_35 rfl rfl rfl <| w_f b324 d324_36 rfl (pf_iadd (gI w 170 7) x1) rfl <| w_f b324 d324_37 rfl rfl rfl <| w_gr b324 d324_38 rfl rfl hs (tlt 169 rfl) tbC_169 rfl (by decide) <| w_f b324 d324_41 rfl rfl rfl <| w_ial b324 d324_42 rfl hs (tlt 170 rfl) tbC_170 (bdix (n := 843) ⟨by decide, by decide⟩ rfl) ⟨by decide, by decide⟩ <| w_f b324 d324_43 rfl (pf_irem (h.2 c1).1 (h.2 c1).2.1) rfl <| w_cc b324 d324_44 rfl (pcl_s1 (n := 2) rfl rfl rfl (by decide +kernel) rfl rfl) rfl <| c236 hs (bd_gI _ _ _) (h.2 c1).2.2.1 <| w_ial b324 d324_47 rfl hs (tlt 170 rfl) tbC_170 (bdix (n := 843) (h.2 c1).2.2.2.1 rfl) (h.2 c1).2.2.2.1 <| w_f b324 d324_48 rfl rfl rfl <| w_f b324 d324_49 rfl rfl rfl <| w_f b324 d324_50 rfl rfl rfl <| (h.2 c1).2.2.2.2)
theorem v324_51 {w : PW} {Q : PO → PW → Prop} {x1 : Int} {x2 : Int} {x3 : Int} (hs : Sh w) (hx1 : bd x1) (hx2 : bd x2) (hx3 : bd x3) (h : ((gI w 170 4) ≤ x3 → pX 324 7 [some (.ref 169), some (iv (x1 + 1)), some (iv x2), some (iv x3)] [] w Q) ∧ (x3 < (gI w 170 4) → (0 ≤ x3 ∧ x3 < 32) ∧ ((¬ (tI x2 (x3).toNat = true)) → pX 324 51 [some (.ref 169), some (iv x1), some (iv x2), some (iv (x3 + 1))] [] w Q) ∧ ((tI x2 (x3).toNat = true) → Q (.inl (some (iv x3))) w))) : pX 324 51 [some (.ref 169), some (iv x1), some (iv x2), some (iv x3)] [] w Q :=
  w_f b324 d324_51 rfl rfl rfl <| w_f b324 d324_52 rfl rfl rfl <| w_gr b324 d324_53 rfl rfl hs (tlt 169 rfl) tbC_169 rfl (by decide) <| w_f b324 d324_56 rfl rfl rfl <| w_ial b324 d324_57 rfl hs (tlt 170 rfl) tbC_170 (bdix (n := 843) ⟨by decide, by decide⟩ rfl) ⟨by decide, by decide⟩ <| w_icge b324 d324_58 rfl rfl (p324 _ _) hx3 (bd_gI _ _ _) (fun c1 => w_f b324 d324_77 rfl (pf_iinc rfl rfl) rfl <| w_j b324 d324_80 rfl (p324 _ _) <| (h.1 c1)) (fun c1 => w_f b324 d324_61 rfl rfl rfl <| w_f b324 d324_62 rfl rfl rfl <| w_cc b324 d324_63 rfl (pcl_s1 (n := 2) rfl rfl rfl (by decide +kernel) rfl rfl) rfl <| c250 hs hx2 hx3 (h.2 c1).1 <| w_ifeqZ b324 d324_66 rfl rfl (p324 _ _) (fun c2 => w_f b324 d324_71 rfl (pf_iinc rfl rfl) rfl <| w_j b324 d324_74 rfl (p324 _ _) <| ((h.2 c1).2.1 c2)) (fun c2 => w_f b324 d324_69 rfl rfl rfl <| w_ri b324 d324_70 r324 ((h.2 c1).2.2 c2)))
/-! 325: PinBarrelModel.bestTune()I -/
theorem b325 : mB 325 = cX9_bestTune := rfl
theorem r325 : mR 325 = (some .int) := rfl
theorem p325 (a b : Nat) : phi 325 a ≤ phi 325 b := Nat.le_refl 0
theorem d325_0 : decode cX9_bestTune 0 = .ok (.aload_n 0, 1) := by decide +kernel
theorem d325_1 : decode cX9_bestTune 1 = .ok (.iconst 0, 1) := by decide +kernel
theorem d325_2 : decode cX9_bestTune 2 = .ok (.putfield 50, 3) := by decide +kernel
theorem d325_5 : decode cX9_bestTune 5 = .ok (.iconst (-1), 1) := by decide +kernel
theorem d325_6 : decode cX9_bestTune 6 = .ok (.istore_n 1, 1) := by decide +kernel
theorem d325_7 : decode cX9_bestTune 7 = .ok (.iconst 0, 1) := by decide +kernel
theorem d325_8 : decode cX9_bestTune 8 = .ok (.istore_n 2, 1) := by decide +kernel
theorem d325_9 : decode cX9_bestTune 9 = .ok (.aload_n 0, 1) := by decide +kernel
theorem d325_10 : decode cX9_bestTune 10 = .ok (.invokevirtual 196, 3) := by decide +kernel
theorem d325_13 : decode cX9_bestTune 13 = .ok (.iconst 0, 1) := by decide +kernel
theorem d325_14 : decode cX9_bestTune 14 = .ok (.istore_n 3, 1) := by decide +kernel
theorem d325_15 : decode cX9_bestTune 15 = .ok (.iload_n 3, 1) := by decide +kernel
theorem d325_16 : decode cX9_bestTune 16 = .ok (.aload_n 0, 1) := by decide +kernel
theorem d325_17 : decode cX9_bestTune 17 = .ok (.getfield 9, 3) := by decide +kernel
theorem d325_20 : decode cX9_bestTune 20 = .ok (.iconst 1, 1) := by decide +kernel
theorem d325_21 : decode cX9_bestTune 21 = .ok (.iaload, 1) := by decide +kernel
theorem d325_22 : decode cX9_bestTune 22 = .ok (.if_icmp .ge 73, 3) := by decide +kernel
theorem d325_25 : decode cX9_bestTune 25 = .ok (.aload_n 0, 1) := by decide +kernel
theorem d325_26 : decode cX9_bestTune 26 = .ok (.getfield 9, 3) := by decide +kernel
theorem d325_29 : decode cX9_bestTune 29 = .ok (.bipush 6, 2) := by decide +kernel
theorem d325_31 : decode cX9_bestTune 31 = .ok (.iload_n 3, 1) := by decide +kernel
theorem d325_32 : decode cX9_bestTune 32 = .ok (.iastore, 1) := by decide +kernel
theorem d325_33 : decode cX9_bestTune 33 = .ok (.aload_n 0, 1) := by decide +kernel
theorem d325_34 : decode cX9_bestTune 34 = .ok (.getfield 9, 3) := by decide +kernel
theorem d325_37 : decode cX9_bestTune 37 = .ok (.bipush 10, 2) := by decide +kernel
theorem d325_39 : decode cX9_bestTune 39 = .ok (.iaload, 1) := by decide +kernel
theorem d325_40 : decode cX9_bestTune 40 = .ok (.istore 4, 2) := by decide +kernel
theorem d325_42 : decode cX9_bestTune 42 = .ok (.aload_n 0, 1) := by decide +kernel
theorem d325_43 : decode cX9_bestTune 43 = .ok (.aload_n 0, 1) := by decide +kernel
theorem d325_44 : decode cX9_bestTune 44 = .ok (.getfield 9, 3) := by decide +kernel
theorem d325_47 : decode cX9_bestTune 47 = .ok (.iconst 0, 1) := by decide +kernel
theorem d325_48 : decode cX9_bestTune 48 = .ok (.iaload, 1) := by decide +kernel
theorem d325_49 : decode cX9_bestTune 49 = .ok (.invokevirtual 416, 3) := by decide +kernel
theorem d325_52 : decode cX9_bestTune 52 = .ok (.istore 5, 2) := by decide +kernel
theorem d325_54 : decode cX9_bestTune 54 = .ok (.aload_n 0, 1) := by decide +kernel
theorem d325_55 : decode cX9_bestTune 55 = .ok (.aload_n 0, 1) := by decide +kernel
theorem d325_56 : decode cX9_bestTune 56 = .ok (.getfield 9, 3) := by decide +kernel
theorem d325_59 : decode cX9_bestTune 59 = .ok (.bipush 10, 2) := by decide +kernel
theorem d325_61 : decode cX9_bestTune 61 = .ok (.iaload, 1) := by decide +kernel
theorem d325_62 : decode cX9_bestTune 62 = .ok (.iload 4, 2) := by decide +kernel
theorem d325_64 : decode cX9_bestTune 64 = .ok (.isub, 1) := by decide +kernel
theorem d325_65 : decode cX9_bestTune 65 = .ok (.invokevirtual 202, 3) := by decide +kernel
theorem d325_68 : decode cX9_bestTune 68 = .ok (.istore 6, 2) := by decide +kernel
theorem d325_70 : decode cX9_bestTune 70 = .ok (.iload_n 1, 1) := by decide +kernel
theorem d325_71 : decode cX9_bestTune 71 = .ok (.iconst (-1), 1) := by decide +kernel
theorem d325_72 : decode cX9_bestTune 72 = .ok (.if_icmp .eq 12, 3) := by decide +kernel
theorem d325_75 : decode cX9_bestTune 75 = .ok (.iload 6, 2) := by decide +kernel
theorem d325_77 : decode cX9_bestTune 77 = .ok (.iload_n 2, 1) := by decide +kernel
theorem d325_78 : decode cX9_bestTune 78 = .ok (.if_icmp .lt 6, 3) := by decide +kernel
theorem d325_81 : decode cX9_bestTune 81 = .ok (.goto 8, 3) := by decide +kernel
theorem d325_84 : decode cX9_bestTune 84 = .ok (.iload_n 3, 1) := by decide +kernel
theorem d325_85 : decode cX9_bestTune 85 = .ok (.istore_n 1, 1) := by decide +kernel
theorem d325_86 : decode cX9_bestTune 86 = .ok (.iload 6, 2) := by decide +kernel
theorem d325_88 : decode cX9_bestTune 88 = .ok (.istore_n 2, 1) := by decide +kernel
theorem d325_89 : decode cX9_bestTune 89 = .ok (.iinc 3 1, 3) := by decide +kernel
theorem d325_92 : decode cX9_bestTune 92 = .ok (.goto (-77), 3) := by decide +kernel
theorem d325_95 : decode cX9_bestTune 95 = .ok (.iload_n 1, 1) := by decide +kernel
theorem d325_96 : decode cX9_bestTune 96 = .ok (.ireturn, 1) := by decide +kernel
theorem v325_0 {w : PW} {Q : PO → PW → Prop}  (hs : Sh w)  (h : ∀ w1 : PW, w1 = sI w 169 0 0 → pC 219 [.ref 169] w1 (kV fun w2 => Sh w2 ∧ pX 325 15 [some (.ref 169), some (iv ((-1))), some (iv 0), some (iv 0), none, none, none] [] w2 Q)) : pX 325 0 [some (.ref 169), none, none, none, none, none, none] [] w Q :=
  w_f b325 d325_0 rfl rfl rfl <| w_f b325 d325_1 rfl rfl rfl <| w_pi b325 d325_2 rfl rfl hs (tlt 169 rfl) tbC_169 rfl rfl rfl <| w_f b325 d325_5 rfl rfl rfl <| w_f b325 d325_6 rfl rfl rfl <| w_f b325 d325_7 rfl rfl rfl <| w_f b325 d325_8 rfl rfl rfl <| w_f b325 d325_9 rfl rfl rfl <| w_c b325 d325_10 rfl (pcl_v (n := 0) rfl rfl rfl (by decide +kernel) (sh_isOb (Sh_sI hs (slt_o tbC_169 rfl)) (tlt 169 rfl) tbC_169) rfl rfl) rfl _ (hK_V fun w2 hkw2 => w_f b325 d325_13 rfl rfl rfl <| w_f b325 d325_14 rfl rfl rfl <| hkw2.2) (h _ rfl)
theorem e325 {w : PW} {Q : PO → PW → Prop}  (hs : Sh w)  (h : ∀ w1 : PW, w1 = sI w 169 0 0 → pC 219 [.ref 169] w1 (kV fun w2 => Sh w2 ∧ pX 325 15 [some (.ref 169), some (iv ((-1))), some (iv 0), some (iv 0), none, none, none] [] w2 Q)) : pC 325 [.ref 169] w Q :=
  (pC_in (Nat.le_of_ble_eq_true rfl) rfl Q).mpr (v325_0 hs  h)
theorem v325_15 {w : PW} {Q : PO → PW → Prop} {x1 : Int} {x2 : Int} {x3 : Int} {o4 : Option Value} {o5 : Option Value} {o6 : Option Value} (hs : Sh w) (hx1 : bd x1) (hx2 : bd x2) (hx3 : bd x3) (ho4 : pc2 o4 = false) (ho5 : pc2 o5 = false) (ho6 : pc2 o6 = false) (h : ((gI w 170 1) ≤ x3 → Q (.inl (some (iv x1))) w) ∧ (x3 < (gI w 170 1) → ∀ w2 : PW, w2 = sI w 170 6 x3 → pC 320 [.ref 169, iv (gI w2 170 0)] w2 (kI fun u4 w3 => Sh w3 ∧ pC 241 [.ref 169, iv ((gI w3 170 10) - (gI w2 170 10))] w3 (kI fun u6 w5 => Sh w5 ∧ (x1 = ((-1)) → pX 325 15 [some (.ref 169), some (iv x3), some (iv u6), some (iv (x3 + 1)), some (iv (gI w2 170 10)), some (iv u4), some (iv u6)] [] w5 Q) ∧ (x1 ≠ ((-1)) → (u6 < x2 → pX 325 15 [some (.ref 169), some (iv x3), some (iv u6), some (iv (x3 + 1)), some (iv (gI w2 170 10)), some (iv u4), some (iv u6)] [] w5 Q) ∧ (x2 ≤ u6 → pX 325 15 [some (.ref 169), some (iv x1), some (iv x2), some (iv (x3 + 1)), some (iv (gI w2 170 10)), some (iv u4), some (iv u6)] [] w5 Q)))))) : pX 325 15 [some (.ref 169), some (iv x1), some (iv x2), some (iv x3), o4, o5, o6] [] w Q :=
  w_f b325 d325_15 rfl rfl rfl <| w_f b325 d325_16 rfl rfl rfl <| w_gr b325 d325_17 rfl rfl hs (tlt 169 rfl) tbC_169 rfl (by decide) <| w_f b325 d325_20 rfl rfl rfl <| w_ial b325 d325_21 rfl hs (tlt 170 rfl) tbC_170 (bdix (n := 843) ⟨by decide, by decide⟩ rfl) ⟨by decide, by decide⟩ <| w_icge b325 d325_22 rfl rfl (p325 _ _) hx3 (bd_gI _ _ _) (fun c1 => w_f b325 d325_95 rfl rfl rfl <| w_ri b325 d325_96 r325 (h.1 c1)) (fun c1 => w_f b325 d325_25 rfl rfl rfl <| w_gr b325 d325_26 rfl rfl hs (tlt 169 rfl) tbC_169 rfl (by decide) <| w_f b325 d325_29 rfl rfl rfl <| w_f b325 d325_31 rfl rfl rfl <| w_ias b325 d325_32 rfl hs (tlt 170 rfl) tbC_170 (bdix (n := 843) ⟨by decide, by decide⟩ rfl) ⟨by decide, by decide⟩ <| w_f b325 d325_33 rfl rfl rfl <| w_gr b325 d325_34 rfl rfl (Sh_sI hs (slt_a tbC_170)) (tlt 169 rfl) tbC_169 rfl (by decide) <| w_f b325 d325_37 rfl rfl rfl <| w_ial b325 d325_39 rfl (Sh_sI hs (slt_a tbC_170)) (tlt 170 rfl) tbC_170 (bdix (n := 843) ⟨by decide, by decide⟩ rfl) ⟨by decide, by decide⟩ <| w_f b325 d325_40 rfl rfl rfl <| w_f b325 d325_42 rfl rfl rfl <| w_f b325 d325_43 rfl rfl rfl <| w_gr b325 d325_44 rfl rfl (Sh_sI hs (slt_a tbC_170)) (tlt 169 rfl) tbC_169 rfl (by decide) <| w_f b325 d325_47 rfl rfl rfl <| w_ial b325 d325_48 rfl (Sh_sI hs (slt_a tbC_170)) (tlt 170 rfl) tbC_170 (bdix (n := 843) ⟨by decide, by decide⟩ rfl) ⟨by decide, by decide⟩ <| w_c b325 d325_49 rfl (pcl_v (n := 1) rfl rfl rfl (by decide +kernel) (sh_isOb (Sh_sI hs (slt_a tbC_170)) (tlt 169 rfl) tbC_169) rfl rfl) rfl _ (hK_I fun u4 w3 hbu4 hkw3 => w_f b325 d325_52 rfl rfl rfl <| w_f b325 d325_54 rfl rfl rfl <| w_f b325 d325_55 rfl rfl rfl <| w_gr b325 d325_56 rfl rfl hkw3.1 (tlt 169 rfl) tbC_169 rfl (by decide) <| w_f b325 d325_59 rfl rfl rfl <| w_ial b325 d325_61 rfl hkw3.1 (tlt 170 rfl) tbC_170 (bdix (n := 843) ⟨by decide, by decide⟩ rfl) ⟨by decide, by decide⟩ <| w_f b325 d325_62 rfl rfl rfl <| w_f b325 d325_64 rfl (pf_isub _ _) rfl <| w_c b325 d325_65 rfl (pcl_v (n := 1) rfl rfl rfl (by decide +kernel) (sh_isOb hkw3.1 (tlt 169 rfl) tbC_169) rfl rfl) rfl _ (hK_I fun u6 w5 hbu6 hkw5 => w_f b325 d325_68 rfl rfl rfl <| w_f b325 d325_70 rfl rfl rfl <| w_f b325 d325_71 rfl rfl rfl <| w_iceq b325 d325_72 rfl rfl (p325 _ _) hx1 ⟨by decide, by decide⟩ (fun c7 => w_f b325 d325_84 rfl rfl rfl <| w_f b325 d325_85 rfl rfl rfl <| w_f b325 d325_86 rfl rfl rfl <| w_f b325 d325_88 rfl rfl rfl <| w_f b325 d325_89 rfl (pf_iinc rfl rfl) rfl <| w_j b325 d325_92 rfl (p325 _ _) <| (hkw5.2.1 c7)) (fun c7 => w_f b325 d325_75 rfl rfl rfl <| w_f b325 d325_77 rfl rfl rfl <| w_iclt b325 d325_78 rfl rfl (p325 _ _) hbu6 hx2 (fun c8 => w_f b325 d325_84 rfl rfl rfl <| w_f b325 d325_85 rfl rfl rfl <| w_f b325 d325_86 rfl rfl rfl <| w_f b325 d325_88 rfl rfl rfl <| w_f b325 d325_89 rfl (pf_iinc rfl rfl) rfl <| w_j b325 d325_92 rfl (p325 _ _) <| ((hkw5.2.2 c7).1 c8)) (fun c8 => w_j b325 d325_81 rfl (p325 _ _) <| w_f b325 d325_89 rfl (pf_iinc rfl rfl) rfl <| w_j b325 d325_92 rfl (p325 _ _) <| ((hkw5.2.2 c7).2 c8)))) hkw3.2) ((h.2 c1) _ rfl))
section MPR
variable {w w2 : PW} {Q : PO → PW → Prop} {m : Row} {x1 : Int}
theorem c321 (hs : Sh w) (hM : MR w m) (hF : RFin m) (hx1 : bd x1) (h : ∀ w2, MqF w w2 → gI w2 169 0 = moE (sp160 m x1) → Q (moV (sp160 m x1)) w2) : pC 321 [.ref 169, iv x1] w Q := by
  obtain ⟨f1, f2⟩ := hF
  refine e321 hs hx1 ⟨fun q w2 e2 => ?_, (moG hs (by decide) h).2⟩
  obtain ⟨F2, g2, h2⟩ := (moG hs (by decide) h).1 q w2 e2
  have h3 := moJ h2 g2
  obtain ⟨n, rfl⟩ := nat_of (show 0 ≤ x1 by omega)
  rw [Int.toNat_natCast] at h3
  refine c219 F2.1 (F2.mr hM) (fun w3 F3 t3 hA => ⟨F3.1, ?_⟩)
  have hM3 := F3.mr (F2.mr hM)
  refine c320 F3.1 hM3 f1 (by omega) (fun w5 G5 M5 => kI_iv ?_ ⟨G5.1, ?_⟩)
  · have := M5.ok.pp
    have := M5.ok.pt
    have := hM.ok.pp
    exact ⟨by omega, by omega⟩
  · rw [M5.g (k := 10) rfl, hM3.g (k := 10) rfl]
    have b1 := M5.ok.pp
    have b2 := M5.ok.pt
    have b3 := M5.ok.pb
    have b4 := hM.ok.pp
    have b5 := hM.ok.pb
    have hb : bd (rRun m n 9 - m 9 - rRun m n 10 + m 10) := ⟨by omega, by omega⟩
    refine c241 G5.1 hb (hA.mg G5) hM.ok (fun w7 G7 M7 => kI_iv hb ⟨G7.1, ?_⟩)
    have F7 := (G5.tr G7).fin hM3 M7
    have := h3 w7 (F3.tr F7.2.1) (F7.2.2.1.trans t3)
    rw [show rRun m n 9 - rRun m n 10 - (m 9 - m 10) = rRun m n 9 - m 9 - rRun m n 10 + m 10 from by omega] at this
    exact this
theorem c322 (hs : Sh w) (hM : MR w m) (hF : RFin m) (hx1 : bd x1) (h : ∀ w2, MqF w w2 → gI w2 169 0 = moE (sp162 m x1) → Q (moV (sp162 m x1)) w2) : pC 322 [.ref 169, iv x1] w Q := by
  obtain ⟨f1, f2⟩ := hF
  refine e322 hs hx1 ⟨fun q w2 e2 => ?_, (moG hs (by decide) h).2⟩
  obtain ⟨F2, g2, h2⟩ := (moG hs (by decide) h).1 q w2 e2
  have h3 := moJ h2 g2
  obtain ⟨n, rfl⟩ := nat_of (show 0 ≤ x1 by omega)
  rw [Int.toNat_natCast] at h3
  refine c219 F2.1 (F2.mr hM) (fun w3 F3 t3 hA => ⟨F3.1, ?_⟩)
  have hM3 := F3.mr (F2.mr hM)
  refine c320 F3.1 hM3 f1 (by omega) (fun w5 G5 M5 => kI_iv ?_ ⟨G5.1, ?_⟩)
  · have := M5.ok.pp
    have := M5.ok.pt
    have := hM.ok.pp
    exact ⟨by omega, by omega⟩
  · rw [M5.g (k := 10) rfl, hM3.g (k := 10) rfl]
    have b1 := M5.ok.pp
    have b2 := M5.ok.pt
    have b3 := M5.ok.pb
    have b4 := hM.ok.pp
    have b5 := hM.ok.pb
    have hb : bd (rRun m n 10 - m 10) := ⟨by omega, by omega⟩
    refine c241 G5.1 hb (hA.mg G5) hM.ok (fun w7 G7 M7 => kI_iv hb ⟨G7.1, ?_⟩)
    have F7 := (G5.tr G7).fin hM3 M7
    exact h3 w7 (F3.tr F7.2.1) (F7.2.2.1.trans t3)
theorem l323_19 {w : PW} {Q : PO → PW → Prop} {m : Row} (hs : Sh w) (hR : RowOK m) (hF : RFin m) (h : ∀ w2, MG w w2 → MR w2 m → Q (moV (sp49 m)) w2) : ∀ k i : Nat, i + k = 3 * (m 0).toNat → ∀ w1, MG w w1 → MR w1 (rRun m i) → AS w1 m → (∀ j, j < i → sFB m j = false) → ∀ o3 : Option Value, pc2 o3 = false → pX 323 19 [some (.ref 169), some (iv (m 10)), some (iv (i : Nat)), o3] [] w1 Q := by
  have h0 := hR.s
  have h10 := hR.pb
  have h9 := hR.pp
  have h8 := hR.pt
  have f2 := hF.2
  intro k
  induction k with
  | zero =>
    intro i hi w1 G1 M1 hA hI o3 ho
    have e0 : rRun m i 0 = m 0 := rRun_lo m (by decide) i
    refine v323_19 G1.1 ⟨by omega, by omega⟩ (bdk (by omega)) ho ?_
    rw [M1.g (k := 0) rfl, e0]
    refine ⟨⟨by omega, by omega⟩, fun _ => c241 G1.1 (by decide) hA hR (fun w2 G2 M2 => kI_iv (by decide) ⟨G2.1, ?_⟩), fun q => by omega⟩
    have e : fnd (sFB m) (3 * (m 0).toNat) = i := fnd_eq hI (fun q => absurd q (by omega)) (by omega)
    have := h w2 (G1.tr G2) M2
    unfold sp49 at this
    rw [e, if_neg (by omega)] at this
    exact this
  | succ k ih =>
    intro i hi w1 G1 M1 hA hI o3 ho
    obtain ⟨r1, r2, r3⟩ := rRun_ok hR hF.1 i (by omega)
    have e0 : rRun m i 0 = m 0 := rRun_lo m (by decide) i
    refine v323_19 G1.1 ⟨by omega, by omega⟩ (bdk (by omega)) ho ?_
    rw [M1.g (k := 0) rfl, e0]
    refine ⟨⟨by omega, by omega⟩, fun q => by omega, fun _ => c319 G1.1 M1 r2 (by omega) (fun w4 G4 M4 => kI_iv ?_ ⟨G4.1, ?_⟩)⟩
    · have := M4.ok.pp
      have := M4.ok.pt
      have := M1.ok.pp
      have := M1.ok.pt
      exact ⟨by omega, by omega⟩
    · have e10 : gI w4 170 10 = rRun m (i + 1) 10 := M4.g (k := 10) rfl
      rw [e10]
      refine ⟨fun q => ih (i + 1) (by omega) w4 (G1.tr G4) M4 (hA.mg G4) (fun j hj => ?_) _ rfl, fun q => c241 G4.1 (bdk (by omega)) (hA.mg G4) hR (fun w7 G7 M7 => kI_iv (bdk (by omega)) ⟨G7.1, ?_⟩)⟩
      · by_cases e : j = i
        · rw [e]; exact decide_eq_false (by omega)
        · exact hI j (by omega)
      · have e : fnd (sFB m) (3 * (m 0).toNat) = i := fnd_eq hI (fun _ => decide_eq_true q) (by omega)
        have := h w7 (G1.tr (G4.tr G7)) M7
        unfold sp49 at this
        rw [e, if_pos (by omega)] at this
        exact this
theorem l324_51 {w : PW} {Q : PO → PW → Prop} {x : Nat} {m : Row} (hs : Sh w) (hM : MR w m) (hx : x < (m 0).toNat) (hQ : ∀ t, t < (m 4).toNat → (∀ j, j < 12 * x + t → sNT m j = false) → sNT m (12 * x + t) = true → Q (.inl (some (iv (t : Nat)))) w) (h : (∀ j, j < 12 * (x + 1) → sNT m j = false) → pX 324 7 [some (.ref 169), some (iv ((x : Int) + 1)), some (iv (m (251 + 64 * (m 6).toNat + wN (m 0).toNat (m 7).toNat x))), some (iv (((m 4).toNat : Nat) : Int))] [] w Q) : ∀ k i : Nat, i + k = (m 4).toNat → (∀ j, j < 12 * x + i → sNT m j = false) → pX 324 51 [some (.ref 169), some (iv (x : Nat)), some (iv (m (251 + 64 * (m 6).toNat + wN (m 0).toNat (m 7).toNat x))), some (iv (i : Nat))] [] w Q := by
  have h4 := hM.ok.t
  have h0 := hM.ok.s
  have h1 := hM.ok.u
  have h6 := hM.ok.pu
  have h7 := hM.ok.ps
  have hw := wN_lt (S := (m 0).toNat) (s := (m 7).toNat) (i := x) (by omega) (by omega)
  have hpb := (hM.ok.P (u := (m 6).toNat) (s := wN (m 0).toNat (m 7).toNat x) (by omega) (by omega)).1
  intro k
  induction k with
  | zero =>
    intro i hi hI
    refine v324_51 hs (bdk (by omega)) hpb (bdk (by omega)) ?_
    rw [hM.g (k := 4) rfl]
    refine ⟨fun _ => ?_, fun q => by omega⟩
    rw [show i = (m 4).toNat from by omega] at hI ⊢
    refine h (fun j hj => ?_)
    by_cases q : j < 12 * x + (m 4).toNat
    · exact hI j q
    · rw [show j = 12 * x + (j - 12 * x) from by omega, sNT_at (by omega), decide_eq_false (by omega), Bool.false_and]
  | succ k ih =>
    intro i hi hI
    refine v324_51 hs (bdk (by omega)) hpb (bdk (by omega)) ?_
    rw [hM.g (k := 4) rfl, Int.toNat_natCast]
    have hat := sNT_at (m := m) (i := x) (t := i) (by omega)
    rw [decide_eq_true (by omega), Bool.true_and] at hat
    refine ⟨fun q => by omega, fun _ => ⟨⟨by omega, by omega⟩, fun q => ih (i + 1) (by omega) (fun j hj => ?_), fun q => hQ i (by omega) hI (by rw [hat]; exact q)⟩⟩
    by_cases e : j = 12 * x + i
    · rw [e, hat]; exact Bool.eq_false_iff.mpr q
    · exact hI j (by omega)
theorem l324_7 {w : PW} {Q : PO → PW → Prop} {m : Row} (hs : Sh w) (hM : MR w m) (h : Q (moV (sp50 m)) w) : ∀ k i : Nat, i + k = (m 0).toNat → (∀ j, j < 12 * i → sNT m j = false) → ∀ o2 o3 : Option Value, pc2 o2 = false → pc2 o3 = false → pX 324 7 [some (.ref 169), some (iv (i : Nat)), o2, o3] [] w Q := by
  have h4 := hM.ok.t
  have h0 := hM.ok.s
  have h1 := hM.ok.u
  have h6 := hM.ok.pu
  have h7 := hM.ok.ps
  intro k
  induction k with
  | zero =>
    intro i hi hI o2 o3 ho2 ho3
    refine v324_7 hs (bdk (by omega)) ho2 ho3 ?_
    rw [hM.g (k := 0) rfl]
    refine ⟨fun _ => ?_, fun q => by omega⟩
    have e : fnd (sNT m) (12 * (m 0).toNat) = 12 * (m 0).toNat := fnd_eq (by rw [show (m 0).toNat = i from by omega]; exact hI) (fun q => absurd q (Nat.lt_irrefl _)) (Nat.le_refl _)
    unfold sp50 at h
    rw [e, if_neg (Nat.lt_irrefl _)] at h
    exact h
  | succ k ih =>
    intro i hi hI o2 o3 ho2 ho3
    have hw := wN_lt (S := (m 0).toNat) (s := (m 7).toNat) (i := i) (by omega) (by omega)
    have ew : (m 7 + (i : Int)).tmod (m 0) = (wN (m 0).toNat (m 7).toNat i : Nat) := by
      rw [← tmod_wN (S := (m 0).toNat) (a := (m 7).toNat) (b := i) (by omega) (by omega), Int.toNat_of_nonneg h7.1, Int.toNat_of_nonneg (show 0 ≤ m 0 by omega)]
    have ec : gI w 170 ((251 + 64 * m 6) + ((wN (m 0).toNat (m 7).toNat i : Nat) : Int)).toNat = m (251 + 64 * (m 6).toNat + wN (m 0).toNat (m 7).toNat i) := hM.i (by omega) (by omega)
    refine v324_7 hs (bdk (by omega)) ho2 ho3 ?_
    rw [hM.g (k := 0) rfl, hM.g (k := 7) rfl, hM.g (k := 6) rfl, ew, ec]
    refine ⟨fun q => by omega, fun _ => ⟨⟨by omega, by omega⟩, ⟨by omega, by omega⟩, bdk (by omega), ⟨by omega, by omega⟩, l324_51 hs hM (by omega) (fun t ht hF hT => ?_) (fun hF => ih (i + 1) (by omega) hF _ _ ?_ rfl) _ 0 (Nat.zero_add _) hI⟩⟩
    · have e : fnd (sNT m) (12 * (m 0).toNat) = 12 * i + t := fnd_eq hF (fun _ => hT) (by omega)
      unfold sp50 at h
      rw [e, if_pos (by omega), show (12 * i + t) % 12 = t from by omega] at h
      exact h
    · rfl
theorem c323 (hs : Sh w) (hM : MR w m) (hF : RFin m) (h : ∀ w2, MqF w w2 → gI w2 169 0 = 0 → Q (moV (sp49 m)) w2) : pC 323 [.ref 169] w Q := by
  refine e323 hs (fun w1 e1 => ?_)
  obtain ⟨F1, g1⟩ := MqF.th hs e1 bd0
  refine c219 F1.1 (F1.mr hM) (fun w3 F3 t3 hA => ⟨F3.1, ?_⟩)
  have hM3 := F3.mr (F1.mr hM)
  rw [hM3.g (k := 10) rfl]
  exact l323_19 F3.1 hM.ok hF (fun w9 G9 M9 => by
    have F9 := G9.fin hM3 M9
    exact h w9 (F1.tr (F3.tr F9.2.1)) ((F9.2.2.1.trans t3).trans g1)) _ 0 (Nat.zero_add _) w3 (MG.rf F3.1) hM3 hA (fun j hj => absurd hj (Nat.not_lt_zero _)) none rfl
theorem c324 (hs : Sh w) (hM : MR w m) (h : ∀ w2, MqF w w2 → gI w2 169 0 = 0 → Q (moV (sp50 m)) w2) : pC 324 [.ref 169] w Q := by
  refine e324 hs (fun w1 e1 => ?_)
  obtain ⟨F1, g1⟩ := MqF.th hs e1 bd0
  exact l324_7 F1.1 (F1.mr hM) (h w1 F1 g1) _ 0 (Nat.zero_add _) (fun j hj => absurd hj (by omega)) none none rfl rfl
theorem l325_15 {w : PW} {Q : PO → PW → Prop} {m : Row} (hs : Sh w) (hM : MR w m) (hF : RFin m) (h : ∀ w2, MG w w2 → MR w2 m → Q (moV (sp51 m)) w2) : ∀ k i : Nat, i + k = (m 1).toNat → ∀ w1, MG w w1 → MR w1 m → AS w1 m → ∀ o4 o5 o6 : Option Value, pc2 o4 = false → pc2 o5 = false → pc2 o6 = false → pX 325 15 [some (.ref 169), some (iv (if i = 0 then -1 else (sBTA m i).1)), some (iv (if i = 0 then 0 else (sBTA m i).2 - m 10)), some (iv (i : Nat)), o4, o5, o6] [] w1 Q := by
  have h0 := hM.ok.s
  have h1 := hM.ok.u
  have h10 := hM.ok.pb
  have h9 := hM.ok.pp
  have h8 := hM.ok.pt
  have f2 := hF.2
  have hbb := sBTA_bd hM.ok hF
  have hbl : ∀ i : Nat, (i : Int) ≤ m 1 → bd (if i = 0 then 0 else (sBTA m i).2 - m 10) := by
    intro i hi
    split
    · exact bd0
    · have hz : ∀ n : Nat, (n : Int) ≤ m 1 → 0 ≤ (sBTA m n).2 ∧ (sBTA m n).2 < 2000000 := by
        intro n
        induction n with
        | zero => intro _; exact ⟨Int.le_refl _, by show (0 : Int) < 2000000; decide⟩
        | succ n ih =>
          intro hn
          have hok : RowOK (mset m 6 (n : Nat)) := mset_ok hM.ok (Or.inr (Or.inr ⟨rfl, by omega, by omega⟩))
          obtain ⟨r1, r2, r3⟩ := rRun_ok hok (by rw [mset_ne (by decide), mset_ne (by decide)]; exact hF.1) (m 0).toNat (by rw [mset_ne (by decide)]; omega)
          have a1 := r1.pb
          have a2 := r1.pp
          have a3 := r1.pt
          have a4 : rRun (mset m 6 (n : Nat)) (m 0).toNat 10 = sBz m n := rfl
          have a5 := ih (by omega)
          unfold sBTA
          split
          · exact ⟨by show 0 ≤ sBz m n; omega, by show sBz m n < 2000000; omega⟩
          · exact a5
      have := hz i hi
      exact ⟨by omega, by omega⟩
  intro k
  induction k with
  | zero =>
    intro i hi w1 G1 M1 hA o4 o5 o6 ho4 ho5 ho6
    have hb := hbb i (by omega)
    refine v325_15 G1.1 ⟨by split <;> omega, by split <;> omega⟩ (hbl i (by omega)) (bdk (by omega)) ho4 ho5 ho6 ?_
    rw [M1.g (k := 1) rfl]
    refine ⟨fun _ => ?_, fun q => by omega⟩
    have := h w1 G1 M1
    unfold sp51 at this
    rw [show (m 1).toNat = i from by omega] at this
    rw [if_neg (show ¬ i = 0 by omega)]
    exact this
  | succ k ih =>
    intro i hi w1 G1 M1 hA o4 o5 o6 ho4 ho5 ho6
    have hb := hbb i (by omega)
    refine v325_15 G1.1 ⟨by split <;> omega, by split <;> omega⟩ (hbl i (by omega)) (bdk (by omega)) ho4 ho5 ho6 ?_
    rw [M1.g (k := 1) rfl]
    refine ⟨fun q => by omega, fun _ w2 e2 => ?_⟩
    have hok : RowOK (mset m 6 (i : Nat)) := mset_ok hM.ok (Or.inr (Or.inr ⟨rfl, by omega, by omega⟩))
    obtain ⟨G2, M2⟩ := MR.sto G1.1 M1 e2 (bdk (by omega)) hok
    have e8 : mset m 6 (i : Nat) 8 = m 8 := mset_ne (by decide)
    have e9 : mset m 6 (i : Nat) 9 = m 9 := mset_ne (by decide)
    have e0 : mset m 6 (i : Nat) 0 = m 0 := mset_ne (by decide)
    have e10 : mset m 6 (i : Nat) 10 = m 10 := mset_ne (by decide)
    rw [M2.g (k := 0) rfl, M2.g (k := 10) rfl, e0, e10, show m 0 = (((m 0).toNat : Nat) : Int) from by omega]
    refine c320 G2.1 M2 (by rw [e8, e9]; exact hF.1) (by rw [e8]; omega) (fun w3 G3 M3 => kI_iv ?_ ⟨G3.1, ?_⟩)
    · have := M3.ok.pp
      have := M3.ok.pt
      rw [e9]
      exact ⟨by omega, by omega⟩
    · have hz := sBz_bd hM.ok hF (u := i) (by omega)
      have hz0 : gI w3 170 10 = sBz m i := M3.g (k := 10) rfl
      have b1 := M3.ok.pb
      have b2 := M3.ok.pp
      have b3 := M3.ok.pt
      have hz1 : rRun (mset m 6 (i : Nat)) (m 0).toNat 10 = sBz m i := rfl
      rw [hz0]
      have hbd : bd (sBz m i - m 10) := ⟨by omega, by omega⟩
      refine c241 G3.1 hbd (((hA.mg G2).mg G3)) hM.ok (fun w5 G5 M5 => kI_iv hbd ⟨G5.1, ?_⟩)
      have G9 := G1.tr (G2.tr (G3.tr G5))
      have hA9 := ((hA.mg G2).mg G3).mg G5
      have hyes : (i = 0 ∨ sBz m i < (sBTA m i).2) → ∀ p4 p5 p6 : Option Value, pc2 p4 = false → pc2 p5 = false → pc2 p6 = false → pX 325 15 [some (.ref 169), some (iv (i : Nat)), some (iv (sBz m i - m 10)), some (iv ((i : Int) + 1)), p4, p5, p6] [] w5 Q := fun q p4 p5 p6 hp4 hp5 hp6 => by
        have e : sBTA m (i + 1) = ((i : Int), sBz m i) := if_pos q
        have := ih (i + 1) (by omega) w5 G9 M5 hA9 p4 p5 p6 hp4 hp5 hp6
        rw [e, if_neg (Nat.succ_ne_zero i), if_neg (Nat.succ_ne_zero i)] at this
        exact this
      by_cases q0 : i = 0
      · rw [if_pos q0, if_pos q0]
        exact ⟨fun _ => hyes (Or.inl q0) _ _ _ rfl rfl rfl, fun z => absurd rfl z⟩
      · rw [if_neg q0, if_neg q0]
        refine ⟨fun z => by omega, fun _ => ⟨fun q => hyes (Or.inr (by omega)) _ _ _ rfl rfl rfl, fun q => ?_⟩⟩
        have e : sBTA m (i + 1) = sBTA m i := if_neg (by omega)
        have := ih (i + 1) (by omega) w5 G9 M5 hA9 _ _ _ (show pc2 (some (iv (m 10))) = false from rfl) (show pc2 (some (iv (rRun (mset m 6 (i : Nat)) (m 0).toNat 9 - mset m 6 (i : Nat) 9))) = false from rfl) (show pc2 (some (iv (sBz m i - m 10))) = false from rfl)
        rw [e, if_neg (Nat.succ_ne_zero i), if_neg (Nat.succ_ne_zero i)] at this
        exact this
theorem c325 (hs : Sh w) (hM : MR w m) (hF : RFin m) (h : ∀ w2, MqF w w2 → gI w2 169 0 = 0 → Q (moV (sp51 m)) w2) : pC 325 [.ref 169] w Q := by
  refine e325 hs (fun w1 e1 => ?_)
  obtain ⟨F1, g1⟩ := MqF.th hs e1 bd0
  refine c219 F1.1 (F1.mr hM) (fun w3 F3 t3 hA => ⟨F3.1, ?_⟩)
  have hM3 := F3.mr (F1.mr hM)
  exact l325_15 F3.1 hM3 hF (fun w9 G9 M9 => by
    have F9 := G9.fin hM3 M9
    exact h w9 (F1.tr (F3.tr F9.2.1)) ((F9.2.2.1.trans t3).trans g1)) _ 0 (Nat.zero_add _) w3 (MG.rf F3.1) hM3 hA none none none rfl rfl rfl
end MPR
