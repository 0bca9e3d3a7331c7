/-! THE READER: statements; the class -/
/-! 20: PinBarrel$Reader.readFirst(LPinBarrel$Box;)Z -/
theorem b20 : mB 20 = cX4_readFirst := rfl
theorem r20 : mR 20 = (some .boolean) := rfl
theorem p20 (a b : Nat) : phi 20 a ≤ phi 20 b := Nat.le_refl 0
theorem d20_0 : decode cX4_readFirst 0 = .ok (.aload_n 0, 1) := by decide +kernel
theorem d20_1 : decode cX4_readFirst 1 = .ok (.invokevirtual 47, 3) := by decide +kernel
theorem d20_4 : decode cX4_readFirst 4 = .ok (.istore_n 2, 1) := by decide +kernel
theorem d20_5 : decode cX4_readFirst 5 = .ok (.aload_n 0, 1) := by decide +kernel
theorem d20_6 : decode cX4_readFirst 6 = .ok (.iload_n 2, 1) := by decide +kernel
theorem d20_7 : decode cX4_readFirst 7 = .ok (.ldc 51, 2) := by decide +kernel
theorem d20_9 : decode cX4_readFirst 9 = .ok (.invokevirtual 53, 3) := by decide +kernel
theorem d20_12 : decode cX4_readFirst 12 = .ok (.ifCond .ne 10, 3) := by decide +kernel
theorem d20_15 : decode cX4_readFirst 15 = .ok (.aload_n 0, 1) := by decide +kernel
theorem d20_16 : decode cX4_readFirst 16 = .ok (.iconst 1, 1) := by decide +kernel
theorem d20_17 : decode cX4_readFirst 17 = .ok (.iload_n 2, 1) := by decide +kernel
theorem d20_18 : decode cX4_readFirst 18 = .ok (.invokevirtual 40, 3) := by decide +kernel
theorem d20_21 : decode cX4_readFirst 21 = .ok (.ireturn, 1) := by decide +kernel
theorem d20_22 : decode cX4_readFirst 22 = .ok (.aload_n 0, 1) := by decide +kernel
theorem d20_23 : decode cX4_readFirst 23 = .ok (.bipush 8, 2) := by decide +kernel
theorem d20_25 : decode cX4_readFirst 25 = .ok (.bipush 64, 2) := by decide +kernel
theorem d20_27 : decode cX4_readFirst 27 = .ok (.invokevirtual 57, 3) := by decide +kernel
theorem d20_30 : decode cX4_readFirst 30 = .ok (.istore_n 3, 1) := by decide +kernel
theorem d20_31 : decode cX4_readFirst 31 = .ok (.iload_n 3, 1) := by decide +kernel
theorem d20_32 : decode cX4_readFirst 32 = .ok (.iconst (-1), 1) := by decide +kernel
theorem d20_33 : decode cX4_readFirst 33 = .ok (.if_icmp .ne 7, 3) := by decide +kernel
theorem d20_36 : decode cX4_readFirst 36 = .ok (.iconst (-1), 1) := by decide +kernel
theorem d20_37 : decode cX4_readFirst 37 = .ok (.goto 9, 3) := by decide +kernel
theorem d20_40 : decode cX4_readFirst 40 = .ok (.aload_n 0, 1) := by decide +kernel
theorem d20_41 : decode cX4_readFirst 41 = .ok (.iconst 1, 1) := by decide +kernel
theorem d20_42 : decode cX4_readFirst 42 = .ok (.iconst 3, 1) := by decide +kernel
theorem d20_43 : decode cX4_readFirst 43 = .ok (.invokevirtual 57, 3) := by decide +kernel
theorem d20_46 : decode cX4_readFirst 46 = .ok (.istore 4, 2) := by decide +kernel
theorem d20_48 : decode cX4_readFirst 48 = .ok (.iload 4, 2) := by decide +kernel
theorem d20_50 : decode cX4_readFirst 50 = .ok (.iconst (-1), 1) := by decide +kernel
theorem d20_51 : decode cX4_readFirst 51 = .ok (.if_icmp .ne 7, 3) := by decide +kernel
theorem d20_54 : decode cX4_readFirst 54 = .ok (.iconst (-1), 1) := by decide +kernel
theorem d20_55 : decode cX4_readFirst 55 = .ok (.goto 9, 3) := by decide +kernel
theorem d20_58 : decode cX4_readFirst 58 = .ok (.aload_n 0, 1) := by decide +kernel
theorem d20_59 : decode cX4_readFirst 59 = .ok (.iconst 0, 1) := by decide +kernel
theorem d20_60 : decode cX4_readFirst 60 = .ok (.iconst 3, 1) := by decide +kernel
theorem d20_61 : decode cX4_readFirst 61 = .ok (.invokevirtual 57, 3) := by decide +kernel
theorem d20_64 : decode cX4_readFirst 64 = .ok (.istore 5, 2) := by decide +kernel
theorem d20_66 : decode cX4_readFirst 66 = .ok (.iload 5, 2) := by decide +kernel
theorem d20_68 : decode cX4_readFirst 68 = .ok (.iconst (-1), 1) := by decide +kernel
theorem d20_69 : decode cX4_readFirst 69 = .ok (.if_icmp .ne 5, 3) := by decide +kernel
theorem d20_72 : decode cX4_readFirst 72 = .ok (.iconst 0, 1) := by decide +kernel
theorem d20_73 : decode cX4_readFirst 73 = .ok (.ireturn, 1) := by decide +kernel
theorem d20_74 : decode cX4_readFirst 74 = .ok (.aload_n 1, 1) := by decide +kernel
theorem d20_75 : decode cX4_readFirst 75 = .ok (.iload_n 3, 1) := by decide +kernel
theorem d20_76 : decode cX4_readFirst 76 = .ok (.iload 4, 2) := by decide +kernel
theorem d20_78 : decode cX4_readFirst 78 = .ok (.iload 5, 2) := by decide +kernel
theorem d20_80 : decode cX4_readFirst 80 = .ok (.invokevirtual 61, 3) := by decide +kernel
theorem d20_83 : decode cX4_readFirst 83 = .ok (.iconst 1, 1) := by decide +kernel
theorem d20_84 : decode cX4_readFirst 84 = .ok (.ireturn, 1) := by decide +kernel
theorem v20_0 {w : PW} {Q : PO → PW → Prop} {c : Nat} (hs : Sh w) (hc : bx c) (h : pC 12 [.ref 135] w (kI fun u2 w1 => Sh w1 ∧ pC 13 [.ref 135, iv u2, .ref (pSB + 4)] w1 (kI fun u4 w3 => Sh w3 ∧ (u4 ≠ 0 → pC 15 [.ref 135, iv 8, iv 64] w3 (kI fun u7 w6 => Sh w6 ∧ (u7 ≠ ((-1)) → pC 15 [.ref 135, iv 1, iv 3] w6 (kI fun u10 w9 => Sh w9 ∧ (u10 ≠ ((-1)) → pC 15 [.ref 135, iv 0, iv 3] w9 (kI fun u13 w12 => Sh w12 ∧ (u13 ≠ ((-1)) → pC 19 [.ref c, iv u7, iv u10, iv u13] w12 (kV fun w15 => Sh w15 ∧ Q (.inl (some (iv 1))) w15)) ∧ (u13 = ((-1)) → Q (.inl (some (iv 0))) w12))) ∧ (u10 = ((-1)) → (((-1)) ≠ ((-1)) → pC 19 [.ref c, iv u7, iv u10, iv ((-1))] w9 (kV fun w18 => Sh w18 ∧ Q (.inl (some (iv 1))) w18)) ∧ (((-1)) = ((-1)) → Q (.inl (some (iv 0))) w9)))) ∧ (u7 = ((-1)) → (((-1)) ≠ ((-1)) → pC 15 [.ref 135, iv 0, iv 3] w6 (kI fun u22 w21 => Sh w21 ∧ (u22 ≠ ((-1)) → pC 19 [.ref c, iv u7, iv ((-1)), iv u22] w21 (kV fun w24 => Sh w24 ∧ Q (.inl (some (iv 1))) w24)) ∧ (u22 = ((-1)) → Q (.inl (some (iv 0))) w21))) ∧ (((-1)) = ((-1)) → (((-1)) ≠ ((-1)) → pC 19 [.ref c, iv u7, iv ((-1)), iv ((-1))] w6 (kV fun w27 => Sh w27 ∧ Q (.inl (some (iv 1))) w27)) ∧ (((-1)) = ((-1)) → Q (.inl (some (iv 0))) w6))))) ∧ (u4 = 0 → ∀ w29 : PW, w29 = sI (sI w3 135 2 1) 135 3 u2 → Q (.inl (some (iv 0))) w29)))) : pX 20 0 [some (.ref 135), some (.ref c), none, none, none, none] [] w Q :=
  w_f b20 d20_0 rfl rfl rfl <| w_c b20 d20_1 rfl (pcl_v (n := 0) rfl rfl rfl (by decide +kernel) (sh_isOb hs (tlt 135 rfl) tbC_135) rfl rfl) rfl _ (hK_I fun u2 w1 hbu2 hkw1 => w_f b20 d20_4 rfl rfl rfl <| w_f b20 d20_5 rfl rfl rfl <| w_f b20 d20_6 rfl rfl rfl <| w_ldcS b20 d20_7 rfl rfl <| w_c b20 d20_9 rfl (pcl_v (n := 2) rfl rfl rfl (by decide +kernel) (sh_isOb hkw1.1 (tlt 135 rfl) tbC_135) rfl rfl) rfl _ (hK_I fun u4 w3 hbu4 hkw3 => w_ifne b20 d20_12 rfl rfl (p20 _ _) hbu4 (fun c5 => w_f b20 d20_22 rfl rfl rfl <| w_f b20 d20_23 rfl rfl rfl <| w_f b20 d20_25 rfl rfl rfl <| w_c b20 d20_27 rfl (pcl_v (n := 2) rfl rfl rfl (by decide +kernel) (sh_isOb hkw3.1 (tlt 135 rfl) tbC_135) rfl rfl) rfl _ (hK_I fun u7 w6 hbu7 hkw6 => w_f b20 d20_30 rfl rfl rfl <| w_f b20 d20_31 rfl rfl rfl <| w_f b20 d20_32 rfl rfl rfl <| w_icne b20 d20_33 rfl rfl (p20 _ _) hbu7 ⟨by decide, by decide⟩ (fun c8 => w_f b20 d20_40 rfl rfl rfl <| w_f b20 d20_41 rfl rfl rfl <| w_f b20 d20_42 rfl rfl rfl <| w_c b20 d20_43 rfl (pcl_v (n := 2) rfl rfl rfl (by decide +kernel) (sh_isOb hkw6.1 (tlt 135 rfl) tbC_135) rfl rfl) rfl _ (hK_I fun u10 w9 hbu10 hkw9 => w_f b20 d20_46 rfl rfl rfl <| w_f b20 d20_48 rfl rfl rfl <| w_f b20 d20_50 rfl rfl rfl <| w_icne b20 d20_51 rfl rfl (p20 _ _) hbu10 ⟨by decide, by decide⟩ (fun c11 => w_f b20 d20_58 rfl rfl rfl <| w_f b20 d20_59 rfl rfl rfl <| w_f b20 d20_60 rfl rfl rfl <| w_c b20 d20_61 rfl (pcl_v (n := 2) rfl rfl rfl (by decide +kernel) (sh_isOb hkw9.1 (tlt 135 rfl) tbC_135) rfl rfl) rfl _ (hK_I fun u13 w12 hbu13 hkw12 => w_f b20 d20_64 rfl rfl rfl <| w_f b20 d20_66 rfl rfl rfl <| w_f b20 d20_68 rfl rfl rfl <| w_icne b20 d20_69 rfl rfl (p20 _ _) hbu13 ⟨by decide, by decide⟩ (fun c14 => w_f b20 d20_74 rfl rfl rfl <| w_f b20 d20_75 rfl rfl rfl <| w_f b20 d20_76 rfl rfl rfl <| w_f b20 d20_78 rfl rfl rfl <| w_c b20 d20_80 rfl (pcl_v (n := 3) rfl rfl rfl (by decide +kernel) (sh_isOb hkw12.1 (bx00 hc) (tb0 hc)) rfl rfl) rfl _ (hK_V fun w15 hkw15 => w_f b20 d20_83 rfl rfl rfl <| w_rz b20 d20_84 r20 (by decide) hkw15.2) (hkw12.2.1 c14)) (fun c14 => w_f b20 d20_72 rfl rfl rfl <| w_rz b20 d20_73 r20 (by decide) (hkw12.2.2 c14))) (hkw9.2.1 c11)) (fun c11 => w_f b20 d20_54 rfl rfl rfl <| w_j b20 d20_55 rfl (p20 _ _) <| w_f b20 d20_64 rfl rfl rfl <| w_f b20 d20_66 rfl rfl rfl <| w_f b20 d20_68 rfl rfl rfl <| w_icne b20 d20_69 rfl rfl (p20 _ _) ⟨by decide, by decide⟩ ⟨by decide, by decide⟩ (fun c17 => w_f b20 d20_74 rfl rfl rfl <| w_f b20 d20_75 rfl rfl rfl <| w_f b20 d20_76 rfl rfl rfl <| w_f b20 d20_78 rfl rfl rfl <| w_c b20 d20_80 rfl (pcl_v (n := 3) rfl rfl rfl (by decide +kernel) (sh_isOb hkw9.1 (bx00 hc) (tb0 hc)) rfl rfl) rfl _ (hK_V fun w18 hkw18 => w_f b20 d20_83 rfl rfl rfl <| w_rz b20 d20_84 r20 (by decide) hkw18.2) ((hkw9.2.2 c11).1 c17)) (fun c17 => w_f b20 d20_72 rfl rfl rfl <| w_rz b20 d20_73 r20 (by decide) ((hkw9.2.2 c11).2 c17)))) (hkw6.2.1 c8)) (fun c8 => w_f b20 d20_36 rfl rfl rfl <| w_j b20 d20_37 rfl (p20 _ _) <| w_f b20 d20_46 rfl rfl rfl <| w_f b20 d20_48 rfl rfl rfl <| w_f b20 d20_50 rfl rfl rfl <| w_icne b20 d20_51 rfl rfl (p20 _ _) ⟨by decide, by decide⟩ ⟨by decide, by decide⟩ (fun c20 => w_f b20 d20_58 rfl rfl rfl <| w_f b20 d20_59 rfl rfl rfl <| w_f b20 d20_60 rfl rfl rfl <| w_c b20 d20_61 rfl (pcl_v (n := 2) rfl rfl rfl (by decide +kernel) (sh_isOb hkw6.1 (tlt 135 rfl) tbC_135) rfl rfl) rfl _ (hK_I fun u22 w21 hbu22 hkw21 => w_f b20 d20_64 rfl rfl rfl <| w_f b20 d20_66 rfl rfl rfl <| w_f b20 d20_68 rfl rfl rfl <| w_icne b20 d20_69 rfl rfl (p20 _ _) hbu22 ⟨by decide, by decide⟩ (fun c23 => w_f b20 d20_74 rfl rfl rfl <| w_f b20 d20_75 rfl rfl rfl <| w_f b20 d20_76 rfl rfl rfl <| w_f b20 d20_78 rfl rfl rfl <| w_c b20 d20_80 rfl (pcl_v (n := 3) rfl rfl rfl (by decide +kernel) (sh_isOb hkw21.1 (bx00 hc) (tb0 hc)) rfl rfl) rfl _ (hK_V fun w24 hkw24 => w_f b20 d20_83 rfl rfl rfl <| w_rz b20 d20_84 r20 (by decide) hkw24.2) (hkw21.2.1 c23)) (fun c23 => w_f b20 d20_72 rfl rfl rfl <| w_rz b20 d20_73 r20 (by decide) (hkw21.2.2 c23))) ((hkw6.2.2 c8).1 c20)) (fun c20 => w_f b20 d20_54 rfl rfl rfl <| w_j b20 d20_55 rfl (p20 _ _) <| w_f b20 d20_64 rfl rfl rfl <| w_f b20 d20_66 rfl rfl rfl <| w_f b20 d20_68 rfl rfl rfl <| w_icne b20 d20_69 rfl rfl (p20 _ _) ⟨by decide, by decide⟩ ⟨by decide, by decide⟩ (fun c26 => w_f b20 d20_74 rfl rfl rfl <| w_f b20 d20_75 rfl rfl rfl <| w_f b20 d20_76 rfl rfl rfl <| w_f b20 d20_78 rfl rfl rfl <| w_c b20 d20_80 rfl (pcl_v (n := 3) rfl rfl rfl (by decide +kernel) (sh_isOb hkw6.1 (bx00 hc) (tb0 hc)) rfl rfl) rfl _ (hK_V fun w27 hkw27 => w_f b20 d20_83 rfl rfl rfl <| w_rz b20 d20_84 r20 (by decide) hkw27.2) (((hkw6.2.2 c8).2 c20).1 c26)) (fun c26 => w_f b20 d20_72 rfl rfl rfl <| w_rz b20 d20_73 r20 (by decide) (((hkw6.2.2 c8).2 c20).2 c26))))) (hkw3.2.1 c5)) (fun c5 => w_f b20 d20_15 rfl rfl rfl <| w_f b20 d20_16 rfl rfl rfl <| w_f b20 d20_17 rfl rfl rfl <| w_cc b20 d20_18 rfl (pcl_v (n := 2) rfl rfl rfl (by decide +kernel) (sh_isOb hkw3.1 (tlt 135 rfl) tbC_135) rfl rfl) rfl <| c14 hkw3.1 ⟨by decide, by decide⟩ hbu2 <| w_rz b20 d20_21 r20 (by decide) ((hkw3.2.2 c5) _ rfl))) hkw1.2) h
theorem e20 {w : PW} {Q : PO → PW → Prop} {c : Nat} (hs : Sh w) (hc : bx c) (h : pC 12 [.ref 135] w (kI fun u2 w1 => Sh w1 ∧ pC 13 [.ref 135, iv u2, .ref (pSB + 4)] w1 (kI fun u4 w3 => Sh w3 ∧ (u4 ≠ 0 → pC 15 [.ref 135, iv 8, iv 64] w3 (kI fun u7 w6 => Sh w6 ∧ (u7 ≠ ((-1)) → pC 15 [.ref 135, iv 1, iv 3] w6 (kI fun u10 w9 => Sh w9 ∧ (u10 ≠ ((-1)) → pC 15 [.ref 135, iv 0, iv 3] w9 (kI fun u13 w12 => Sh w12 ∧ (u13 ≠ ((-1)) → pC 19 [.ref c, iv u7, iv u10, iv u13] w12 (kV fun w15 => Sh w15 ∧ Q (.inl (some (iv 1))) w15)) ∧ (u13 = ((-1)) → Q (.inl (some (iv 0))) w12))) ∧ (u10 = ((-1)) → (((-1)) ≠ ((-1)) → pC 19 [.ref c, iv u7, iv u10, iv ((-1))] w9 (kV fun w18 => Sh w18 ∧ Q (.inl (some (iv 1))) w18)) ∧ (((-1)) = ((-1)) → Q (.inl (some (iv 0))) w9)))) ∧ (u7 = ((-1)) → (((-1)) ≠ ((-1)) → pC 15 [.ref 135, iv 0, iv 3] w6 (kI fun u22 w21 => Sh w21 ∧ (u22 ≠ ((-1)) → pC 19 [.ref c, iv u7, iv ((-1)), iv u22] w21 (kV fun w24 => Sh w24 ∧ Q (.inl (some (iv 1))) w24)) ∧ (u22 = ((-1)) → Q (.inl (some (iv 0))) w21))) ∧ (((-1)) = ((-1)) → (((-1)) ≠ ((-1)) → pC 19 [.ref c, iv u7, iv ((-1)), iv ((-1))] w6 (kV fun w27 => Sh w27 ∧ Q (.inl (some (iv 1))) w27)) ∧ (((-1)) = ((-1)) → Q (.inl (some (iv 0))) w6))))) ∧ (u4 = 0 → ∀ w29 : PW, w29 = sI (sI w3 135 2 1) 135 3 u2 → Q (.inl (some (iv 0))) w29)))) : pC 20 [.ref 135, .ref c] w Q :=
  (pC_in (Nat.le_of_ble_eq_true rfl) rfl Q).mpr (v20_0 hs hc h)
/-! 21: PinBarrel$Reader.readSpeed(LPinBarrel$Box;)Z -/
theorem b21 : mB 21 = cX4_readSpeed := rfl
theorem r21 : mR 21 = (some .boolean) := rfl
theorem p21 (a b : Nat) : phi 21 a ≤ phi 21 b := Nat.le_refl 0
theorem d21_0 : decode cX4_readSpeed 0 = .ok (.aload_n 0, 1) := by decide +kernel
theorem d21_1 : decode cX4_readSpeed 1 = .ok (.iconst 1, 1) := by decide +kernel
theorem d21_2 : decode cX4_readSpeed 2 = .ok (.iconst 4, 1) := by decide +kernel
theorem d21_3 : decode cX4_readSpeed 3 = .ok (.invokevirtual 57, 3) := by decide +kernel
theorem d21_6 : decode cX4_readSpeed 6 = .ok (.istore_n 2, 1) := by decide +kernel
theorem d21_7 : decode cX4_readSpeed 7 = .ok (.iload_n 2, 1) := by decide +kernel
theorem d21_8 : decode cX4_readSpeed 8 = .ok (.iconst (-1), 1) := by decide +kernel
theorem d21_9 : decode cX4_readSpeed 9 = .ok (.if_icmp .ne 5, 3) := by decide +kernel
theorem d21_12 : decode cX4_readSpeed 12 = .ok (.iconst 0, 1) := by decide +kernel
theorem d21_13 : decode cX4_readSpeed 13 = .ok (.ireturn, 1) := by decide +kernel
theorem d21_14 : decode cX4_readSpeed 14 = .ok (.aload_n 1, 1) := by decide +kernel
theorem d21_15 : decode cX4_readSpeed 15 = .ok (.iload_n 2, 1) := by decide +kernel
theorem d21_16 : decode cX4_readSpeed 16 = .ok (.putfield 99, 3) := by decide +kernel
theorem d21_19 : decode cX4_readSpeed 19 = .ok (.iconst 1, 1) := by decide +kernel
theorem d21_20 : decode cX4_readSpeed 20 = .ok (.ireturn, 1) := by decide +kernel
theorem v21_0 {w : PW} {Q : PO → PW → Prop} {c : Nat} (hs : Sh w) (hc : bx c) (h : pC 15 [.ref 135, iv 1, iv 4] w (kI fun u2 w1 => Sh w1 ∧ (u2 ≠ ((-1)) → ∀ w4 : PW, w4 = sI w1 c 3 u2 → Q (.inl (some (iv 1))) w4) ∧ (u2 = ((-1)) → Q (.inl (some (iv 0))) w1))) : pX 21 0 [some (.ref 135), some (.ref c), none] [] w Q :=
  w_f b21 d21_0 rfl rfl rfl <| w_f b21 d21_1 rfl rfl rfl <| w_f b21 d21_2 rfl rfl rfl <| w_c b21 d21_3 rfl (pcl_v (n := 2) rfl rfl rfl (by decide +kernel) (sh_isOb hs (tlt 135 rfl) tbC_135) rfl rfl) rfl _ (hK_I fun u2 w1 hbu2 hkw1 => w_f b21 d21_6 rfl rfl rfl <| w_f b21 d21_7 rfl rfl rfl <| w_f b21 d21_8 rfl rfl rfl <| w_icne b21 d21_9 rfl rfl (p21 _ _) hbu2 ⟨by decide, by decide⟩ (fun c3 => w_f b21 d21_14 rfl rfl rfl <| w_f b21 d21_15 rfl rfl rfl <| w_pi b21 d21_16 rfl rfl hkw1.1 (bx00 hc) (tb0 hc) rfl rfl rfl <| w_f b21 d21_19 rfl rfl rfl <| w_rz b21 d21_20 r21 (by decide) ((hkw1.2.1 c3) _ rfl)) (fun c3 => w_f b21 d21_12 rfl rfl rfl <| w_rz b21 d21_13 r21 (by decide) (hkw1.2.2 c3))) h
theorem e21 {w : PW} {Q : PO → PW → Prop} {c : Nat} (hs : Sh w) (hc : bx c) (h : pC 15 [.ref 135, iv 1, iv 4] w (kI fun u2 w1 => Sh w1 ∧ (u2 ≠ ((-1)) → ∀ w4 : PW, w4 = sI w1 c 3 u2 → Q (.inl (some (iv 1))) w4) ∧ (u2 = ((-1)) → Q (.inl (some (iv 0))) w1))) : pC 21 [.ref 135, .ref c] w Q :=
  (pC_in (Nat.le_of_ble_eq_true rfl) rfl Q).mpr (v21_0 hs hc h)
/-! 25: PinBarrel$Reader.readTooth(LPinBarrel$Box;)Z -/
theorem b25 : mB 25 = cX4_readTooth := rfl
theorem r25 : mR 25 = (some .boolean) := rfl
theorem p25 (a b : Nat) : phi 25 a ≤ phi 25 b := Nat.le_refl 0
theorem d25_0 : decode cX4_readTooth 0 = .ok (.aload_n 0, 1) := by decide +kernel
theorem d25_1 : decode cX4_readTooth 1 = .ok (.invokevirtual 101, 3) := by decide +kernel
theorem d25_4 : decode cX4_readTooth 4 = .ok (.istore_n 2, 1) := by decide +kernel
theorem d25_5 : decode cX4_readTooth 5 = .ok (.iload_n 2, 1) := by decide +kernel
theorem d25_6 : decode cX4_readTooth 6 = .ok (.iconst (-1), 1) := by decide +kernel
theorem d25_7 : decode cX4_readTooth 7 = .ok (.if_icmp .ne 7, 3) := by decide +kernel
theorem d25_10 : decode cX4_readTooth 10 = .ok (.iconst (-1), 1) := by decide +kernel
theorem d25_11 : decode cX4_readTooth 11 = .ok (.goto 10, 3) := by decide +kernel
theorem d25_14 : decode cX4_readTooth 14 = .ok (.aload_n 0, 1) := by decide +kernel
theorem d25_15 : decode cX4_readTooth 15 = .ok (.iconst 1, 1) := by decide +kernel
theorem d25_16 : decode cX4_readTooth 16 = .ok (.bipush 12, 2) := by decide +kernel
theorem d25_18 : decode cX4_readTooth 18 = .ok (.invokevirtual 57, 3) := by decide +kernel
theorem d25_21 : decode cX4_readTooth 21 = .ok (.istore_n 3, 1) := by decide +kernel
theorem d25_22 : decode cX4_readTooth 22 = .ok (.iload_n 3, 1) := by decide +kernel
theorem d25_23 : decode cX4_readTooth 23 = .ok (.iconst (-1), 1) := by decide +kernel
theorem d25_24 : decode cX4_readTooth 24 = .ok (.if_icmp .ne 5, 3) := by decide +kernel
theorem d25_27 : decode cX4_readTooth 27 = .ok (.iconst 0, 1) := by decide +kernel
theorem d25_28 : decode cX4_readTooth 28 = .ok (.ireturn, 1) := by decide +kernel
theorem d25_29 : decode cX4_readTooth 29 = .ok (.aload_n 1, 1) := by decide +kernel
theorem d25_30 : decode cX4_readTooth 30 = .ok (.iload_n 2, 1) := by decide +kernel
theorem d25_31 : decode cX4_readTooth 31 = .ok (.iload_n 3, 1) := by decide +kernel
theorem d25_32 : decode cX4_readTooth 32 = .ok (.invokevirtual 104, 3) := by decide +kernel
theorem d25_35 : decode cX4_readTooth 35 = .ok (.iconst 1, 1) := by decide +kernel
theorem d25_36 : decode cX4_readTooth 36 = .ok (.ireturn, 1) := by decide +kernel
theorem v25_0 {w : PW} {Q : PO → PW → Prop} {c : Nat} (hs : Sh w) (hc : bx c) (h : pC 23 [.ref 135] w (kI fun u2 w1 => Sh w1 ∧ (u2 ≠ ((-1)) → pC 15 [.ref 135, iv 1, iv 12] w1 (kI fun u5 w4 => Sh w4 ∧ (u5 ≠ ((-1)) → pC 24 [.ref c, iv u2, iv u5] w4 (kV fun w7 => Sh w7 ∧ Q (.inl (some (iv 1))) w7)) ∧ (u5 = ((-1)) → Q (.inl (some (iv 0))) w4))) ∧ (u2 = ((-1)) → (((-1)) ≠ ((-1)) → pC 24 [.ref c, iv u2, iv ((-1))] w1 (kV fun w10 => Sh w10 ∧ Q (.inl (some (iv 1))) w10)) ∧ (((-1)) = ((-1)) → Q (.inl (some (iv 0))) w1)))) : pX 25 0 [some (.ref 135), some (.ref c), none, none] [] w Q :=
  w_f b25 d25_0 rfl rfl rfl <| w_c b25 d25_1 rfl (pcl_v (n := 0) rfl rfl rfl (by decide +kernel) (sh_isOb hs (tlt 135 rfl) tbC_135) rfl rfl) rfl _ (hK_I fun u2 w1 hbu2 hkw1 => w_f b25 d25_4 rfl rfl rfl <| w_f b25 d25_5 rfl rfl rfl <| w_f b25 d25_6 rfl rfl rfl <| w_icne b25 d25_7 rfl rfl (p25 _ _) hbu2 ⟨by decide, by decide⟩ (fun c3 => w_f b25 d25_14 rfl rfl rfl <| w_f b25 d25_15 rfl rfl rfl <| w_f b25 d25_16 rfl rfl rfl <| w_c b25 d25_18 rfl (pcl_v (n := 2) rfl rfl rfl (by decide +kernel) (sh_isOb hkw1.1 (tlt 135 rfl) tbC_135) rfl rfl) rfl _ (hK_I fun u5 w4 hbu5 hkw4 => w_f b25 d25_21 rfl rfl rfl <| w_f b25 d25_22 rfl rfl rfl <| w_f b25 d25_23 rfl rfl rfl <| w_icne b25 d25_24 rfl rfl (p25 _ _) hbu5 ⟨by decide, by decide⟩ (fun c6 => w_f b25 d25_29 rfl rfl rfl <| w_f b25 d25_30 rfl rfl rfl <| w_f b25 d25_31 rfl rfl rfl <| w_c b25 d25_32 rfl (pcl_v (n := 2) rfl rfl rfl (by decide +kernel) (sh_isOb hkw4.1 (bx00 hc) (tb0 hc)) rfl rfl) rfl _ (hK_V fun w7 hkw7 => w_f b25 d25_35 rfl rfl rfl <| w_rz b25 d25_36 r25 (by decide) hkw7.2) (hkw4.2.1 c6)) (fun c6 => w_f b25 d25_27 rfl rfl rfl <| w_rz b25 d25_28 r25 (by decide) (hkw4.2.2 c6))) (hkw1.2.1 c3)) (fun c3 => w_f b25 d25_10 rfl rfl rfl <| w_j b25 d25_11 rfl (p25 _ _) <| w_f b25 d25_21 rfl rfl rfl <| w_f b25 d25_22 rfl rfl rfl <| w_f b25 d25_23 rfl rfl rfl <| w_icne b25 d25_24 rfl rfl (p25 _ _) ⟨by decide, by decide⟩ ⟨by decide, by decide⟩ (fun c9 => w_f b25 d25_29 rfl rfl rfl <| w_f b25 d25_30 rfl rfl rfl <| w_f b25 d25_31 rfl rfl rfl <| w_c b25 d25_32 rfl (pcl_v (n := 2) rfl rfl rfl (by decide +kernel) (sh_isOb hkw1.1 (bx00 hc) (tb0 hc)) rfl rfl) rfl _ (hK_V fun w10 hkw10 => w_f b25 d25_35 rfl rfl rfl <| w_rz b25 d25_36 r25 (by decide) hkw10.2) ((hkw1.2.2 c3).1 c9)) (fun c9 => w_f b25 d25_27 rfl rfl rfl <| w_rz b25 d25_28 r25 (by decide) ((hkw1.2.2 c3).2 c9)))) h
theorem e25 {w : PW} {Q : PO → PW → Prop} {c : Nat} (hs : Sh w) (hc : bx c) (h : pC 23 [.ref 135] w (kI fun u2 w1 => Sh w1 ∧ (u2 ≠ ((-1)) → pC 15 [.ref 135, iv 1, iv 12] w1 (kI fun u5 w4 => Sh w4 ∧ (u5 ≠ ((-1)) → pC 24 [.ref c, iv u2, iv u5] w4 (kV fun w7 => Sh w7 ∧ Q (.inl (some (iv 1))) w7)) ∧ (u5 = ((-1)) → Q (.inl (some (iv 0))) w4))) ∧ (u2 = ((-1)) → (((-1)) ≠ ((-1)) → pC 24 [.ref c, iv u2, iv ((-1))] w1 (kV fun w10 => Sh w10 ∧ Q (.inl (some (iv 1))) w10)) ∧ (((-1)) = ((-1)) → Q (.inl (some (iv 0))) w1)))) : pC 25 [.ref 135, .ref c] w Q :=
  (pC_in (Nat.le_of_ble_eq_true rfl) rfl Q).mpr (v25_0 hs hc h)
/-! 27: PinBarrel$Reader.readNote(LPinBarrel$Box;)Z -/
theorem b27 : mB 27 = cX4_readNote := rfl
theorem r27 : mR 27 = (some .boolean) := rfl
theorem p27 (a b : Nat) : phi 27 a ≤ phi 27 b := Nat.le_refl 0
theorem d27_0 : decode cX4_readNote 0 = .ok (.aload_n 0, 1) := by decide +kernel
theorem d27_1 : decode cX4_readNote 1 = .ok (.iconst 0, 1) := by decide +kernel
theorem d27_2 : decode cX4_readNote 2 = .ok (.aload_n 1, 1) := by decide +kernel
theorem d27_3 : decode cX4_readNote 3 = .ok (.getfield 108, 3) := by decide +kernel
theorem d27_6 : decode cX4_readNote 6 = .ok (.iconst 1, 1) := by decide +kernel
theorem d27_7 : decode cX4_readNote 7 = .ok (.isub, 1) := by decide +kernel
theorem d27_8 : decode cX4_readNote 8 = .ok (.invokevirtual 57, 3) := by decide +kernel
theorem d27_11 : decode cX4_readNote 11 = .ok (.istore_n 2, 1) := by decide +kernel
theorem d27_12 : decode cX4_readNote 12 = .ok (.iload_n 2, 1) := by decide +kernel
theorem d27_13 : decode cX4_readNote 13 = .ok (.iconst (-1), 1) := by decide +kernel
theorem d27_14 : decode cX4_readNote 14 = .ok (.if_icmp .ne 7, 3) := by decide +kernel
theorem d27_17 : decode cX4_readNote 17 = .ok (.iconst (-1), 1) := by decide +kernel
theorem d27_18 : decode cX4_readNote 18 = .ok (.goto 14, 3) := by decide +kernel
theorem d27_21 : decode cX4_readNote 21 = .ok (.aload_n 0, 1) := by decide +kernel
theorem d27_22 : decode cX4_readNote 22 = .ok (.iconst 0, 1) := by decide +kernel
theorem d27_23 : decode cX4_readNote 23 = .ok (.aload_n 1, 1) := by decide +kernel
theorem d27_24 : decode cX4_readNote 24 = .ok (.getfield 111, 3) := by decide +kernel
theorem d27_27 : decode cX4_readNote 27 = .ok (.iconst 1, 1) := by decide +kernel
theorem d27_28 : decode cX4_readNote 28 = .ok (.isub, 1) := by decide +kernel
theorem d27_29 : decode cX4_readNote 29 = .ok (.invokevirtual 57, 3) := by decide +kernel
theorem d27_32 : decode cX4_readNote 32 = .ok (.istore_n 3, 1) := by decide +kernel
theorem d27_33 : decode cX4_readNote 33 = .ok (.iload_n 3, 1) := by decide +kernel
theorem d27_34 : decode cX4_readNote 34 = .ok (.iconst (-1), 1) := by decide +kernel
theorem d27_35 : decode cX4_readNote 35 = .ok (.if_icmp .ne 7, 3) := by decide +kernel
theorem d27_38 : decode cX4_readNote 38 = .ok (.iconst (-1), 1) := by decide +kernel
theorem d27_39 : decode cX4_readNote 39 = .ok (.goto 7, 3) := by decide +kernel
theorem d27_42 : decode cX4_readNote 42 = .ok (.aload_n 0, 1) := by decide +kernel
theorem d27_43 : decode cX4_readNote 43 = .ok (.invokevirtual 101, 3) := by decide +kernel
theorem d27_46 : decode cX4_readNote 46 = .ok (.istore 4, 2) := by decide +kernel
theorem d27_48 : decode cX4_readNote 48 = .ok (.iload 4, 2) := by decide +kernel
theorem d27_50 : decode cX4_readNote 50 = .ok (.iconst (-1), 1) := by decide +kernel
theorem d27_51 : decode cX4_readNote 51 = .ok (.if_icmp .ne 5, 3) := by decide +kernel
theorem d27_54 : decode cX4_readNote 54 = .ok (.iconst 0, 1) := by decide +kernel
theorem d27_55 : decode cX4_readNote 55 = .ok (.ireturn, 1) := by decide +kernel
theorem d27_56 : decode cX4_readNote 56 = .ok (.aload_n 1, 1) := by decide +kernel
theorem d27_57 : decode cX4_readNote 57 = .ok (.getfield 82, 3) := by decide +kernel
theorem d27_60 : decode cX4_readNote 60 = .ok (.iload_n 2, 1) := by decide +kernel
theorem d27_61 : decode cX4_readNote 61 = .ok (.iload_n 3, 1) := by decide +kernel
theorem d27_62 : decode cX4_readNote 62 = .ok (.iload 4, 2) := by decide +kernel
theorem d27_64 : decode cX4_readNote 64 = .ok (.invokevirtual 114, 3) := by decide +kernel
theorem d27_67 : decode cX4_readNote 67 = .ok (.iconst 1, 1) := by decide +kernel
theorem d27_68 : decode cX4_readNote 68 = .ok (.ireturn, 1) := by decide +kernel
theorem v27_0 {w : PW} {Q : PO → PW → Prop} {c : Nat} (hs : Sh w) (hc : bx c) (h : pC 15 [.ref 135, iv 0, iv ((gI w c 1) - 1)] w (kI fun u2 w1 => Sh w1 ∧ (u2 ≠ ((-1)) → pC 15 [.ref 135, iv 0, iv ((gI w1 c 0) - 1)] w1 (kI fun u5 w4 => Sh w4 ∧ (u5 ≠ ((-1)) → pC 23 [.ref 135] w4 (kI fun u8 w7 => Sh w7 ∧ (u8 ≠ ((-1)) → pC 26 [.ref (c + 4), iv u2, iv u5, iv u8] w7 (kV fun w10 => Sh w10 ∧ Q (.inl (some (iv 1))) w10)) ∧ (u8 = ((-1)) → Q (.inl (some (iv 0))) w7))) ∧ (u5 = ((-1)) → (((-1)) ≠ ((-1)) → pC 26 [.ref (c + 4), iv u2, iv u5, iv ((-1))] w4 (kV fun w13 => Sh w13 ∧ Q (.inl (some (iv 1))) w13)) ∧ (((-1)) = ((-1)) → Q (.inl (some (iv 0))) w4)))) ∧ (u2 = ((-1)) → (((-1)) ≠ ((-1)) → pC 23 [.ref 135] w1 (kI fun u17 w16 => Sh w16 ∧ (u17 ≠ ((-1)) → pC 26 [.ref (c + 4), iv u2, iv ((-1)), iv u17] w16 (kV fun w19 => Sh w19 ∧ Q (.inl (some (iv 1))) w19)) ∧ (u17 = ((-1)) → Q (.inl (some (iv 0))) w16))) ∧ (((-1)) = ((-1)) → (((-1)) ≠ ((-1)) → pC 26 [.ref (c + 4), iv u2, iv ((-1)), iv ((-1))] w1 (kV fun w22 => Sh w22 ∧ Q (.inl (some (iv 1))) w22)) ∧ (((-1)) = ((-1)) → Q (.inl (some (iv 0))) w1))))) : pX 27 0 [some (.ref 135), some (.ref c), none, none, none] [] w Q :=
  w_f b27 d27_0 rfl rfl rfl <| w_f b27 d27_1 rfl rfl rfl <| w_f b27 d27_2 rfl rfl rfl <| w_gi b27 d27_3 rfl rfl hs (bx00 hc) (tb0 hc) rfl <| w_f b27 d27_6 rfl rfl rfl <| w_f b27 d27_7 rfl (pf_isub (gI w c 1) 1) rfl <| w_c b27 d27_8 rfl (pcl_v (n := 2) rfl rfl rfl (by decide +kernel) (sh_isOb hs (tlt 135 rfl) tbC_135) rfl rfl) rfl _ (hK_I fun u2 w1 hbu2 hkw1 => w_f b27 d27_11 rfl rfl rfl <| w_f b27 d27_12 rfl rfl rfl <| w_f b27 d27_13 rfl rfl rfl <| w_icne b27 d27_14 rfl rfl (p27 _ _) hbu2 ⟨by decide, by decide⟩ (fun c3 => w_f b27 d27_21 rfl rfl rfl <| w_f b27 d27_22 rfl rfl rfl <| w_f b27 d27_23 rfl rfl rfl <| w_gi b27 d27_24 rfl rfl hkw1.1 (bx00 hc) (tb0 hc) rfl <| w_f b27 d27_27 rfl rfl rfl <| w_f b27 d27_28 rfl (pf_isub _ 1) rfl <| w_c b27 d27_29 rfl (pcl_v (n := 2) rfl rfl rfl (by decide +kernel) (sh_isOb hkw1.1 (tlt 135 rfl) tbC_135) rfl rfl) rfl _ (hK_I fun u5 w4 hbu5 hkw4 => w_f b27 d27_32 rfl rfl rfl <| w_f b27 d27_33 rfl rfl rfl <| w_f b27 d27_34 rfl rfl rfl <| w_icne b27 d27_35 rfl rfl (p27 _ _) hbu5 ⟨by decide, by decide⟩ (fun c6 => w_f b27 d27_42 rfl rfl rfl <| w_c b27 d27_43 rfl (pcl_v (n := 0) rfl rfl rfl (by decide +kernel) (sh_isOb hkw4.1 (tlt 135 rfl) tbC_135) rfl rfl) rfl _ (hK_I fun u8 w7 hbu8 hkw7 => w_f b27 d27_46 rfl rfl rfl <| w_f b27 d27_48 rfl rfl rfl <| w_f b27 d27_50 rfl rfl rfl <| w_icne b27 d27_51 rfl rfl (p27 _ _) hbu8 ⟨by decide, by decide⟩ (fun c9 => w_f b27 d27_56 rfl rfl rfl <| w_gr b27 d27_57 rfl rfl hkw7.1 (bx00 hc) (tb0 hc) rfl (bxr hc 4 rfl) <| w_f b27 d27_60 rfl rfl rfl <| w_f b27 d27_61 rfl rfl rfl <| w_f b27 d27_62 rfl rfl rfl <| w_c b27 d27_64 rfl (pcl_v (n := 3) rfl rfl rfl (by decide +kernel) (sh_isOb hkw7.1 (bxk hc 4 rfl) (tb4 hc)) rfl rfl) rfl _ (hK_V fun w10 hkw10 => w_f b27 d27_67 rfl rfl rfl <| w_rz b27 d27_68 r27 (by decide) hkw10.2) (hkw7.2.1 c9)) (fun c9 => w_f b27 d27_54 rfl rfl rfl <| w_rz b27 d27_55 r27 (by decide) (hkw7.2.2 c9))) (hkw4.2.1 c6)) (fun c6 => w_f b27 d27_38 rfl rfl rfl <| w_j b27 d27_39 rfl (p27 _ _) <| w_f b27 d27_46 rfl rfl rfl <| w_f b27 d27_48 rfl rfl rfl <| w_f b27 d27_50 rfl rfl rfl <| w_icne b27 d27_51 rfl rfl (p27 _ _) ⟨by decide, by decide⟩ ⟨by decide, by decide⟩ (fun c12 => w_f b27 d27_56 rfl rfl rfl <| w_gr b27 d27_57 rfl rfl hkw4.1 (bx00 hc) (tb0 hc) rfl (bxr hc 4 rfl) <| w_f b27 d27_60 rfl rfl rfl <| w_f b27 d27_61 rfl rfl rfl <| w_f b27 d27_62 rfl rfl rfl <| w_c b27 d27_64 rfl (pcl_v (n := 3) rfl rfl rfl (by decide +kernel) (sh_isOb hkw4.1 (bxk hc 4 rfl) (tb4 hc)) rfl rfl) rfl _ (hK_V fun w13 hkw13 => w_f b27 d27_67 rfl rfl rfl <| w_rz b27 d27_68 r27 (by decide) hkw13.2) ((hkw4.2.2 c6).1 c12)) (fun c12 => w_f b27 d27_54 rfl rfl rfl <| w_rz b27 d27_55 r27 (by decide) ((hkw4.2.2 c6).2 c12)))) (hkw1.2.1 c3)) (fun c3 => w_f b27 d27_17 rfl rfl rfl <| w_j b27 d27_18 rfl (p27 _ _) <| w_f b27 d27_32 rfl rfl rfl <| w_f b27 d27_33 rfl rfl rfl <| w_f b27 d27_34 rfl rfl rfl <| w_icne b27 d27_35 rfl rfl (p27 _ _) ⟨by decide, by decide⟩ ⟨by decide, by decide⟩ (fun c15 => w_f b27 d27_42 rfl rfl rfl <| w_c b27 d27_43 rfl (pcl_v (n := 0) rfl rfl rfl (by decide +kernel) (sh_isOb hkw1.1 (tlt 135 rfl) tbC_135) rfl rfl) rfl _ (hK_I fun u17 w16 hbu17 hkw16 => w_f b27 d27_46 rfl rfl rfl <| w_f b27 d27_48 rfl rfl rfl <| w_f b27 d27_50 rfl rfl rfl <| w_icne b27 d27_51 rfl rfl (p27 _ _) hbu17 ⟨by decide, by decide⟩ (fun c18 => w_f b27 d27_56 rfl rfl rfl <| w_gr b27 d27_57 rfl rfl hkw16.1 (bx00 hc) (tb0 hc) rfl (bxr hc 4 rfl) <| w_f b27 d27_60 rfl rfl rfl <| w_f b27 d27_61 rfl rfl rfl <| w_f b27 d27_62 rfl rfl rfl <| w_c b27 d27_64 rfl (pcl_v (n := 3) rfl rfl rfl (by decide +kernel) (sh_isOb hkw16.1 (bxk hc 4 rfl) (tb4 hc)) rfl rfl) rfl _ (hK_V fun w19 hkw19 => w_f b27 d27_67 rfl rfl rfl <| w_rz b27 d27_68 r27 (by decide) hkw19.2) (hkw16.2.1 c18)) (fun c18 => w_f b27 d27_54 rfl rfl rfl <| w_rz b27 d27_55 r27 (by decide) (hkw16.2.2 c18))) ((hkw1.2.2 c3).1 c15)) (fun c15 => w_f b27 d27_38 rfl rfl rfl <| w_j b27 d27_39 rfl (p27 _ _) <| w_f b27 d27_46 rfl rfl rfl <| w_f b27 d27_48 rfl rfl rfl <| w_f b27 d27_50 rfl rfl rfl <| w_icne b27 d27_51 rfl rfl (p27 _ _) ⟨by decide, by decide⟩ ⟨by decide, by decide⟩ (fun c21 => w_f b27 d27_56 rfl rfl rfl <| w_gr b27 d27_57 rfl rfl hkw1.1 (bx00 hc) (tb0 hc) rfl (bxr hc 4 rfl) <| w_f b27 d27_60 rfl rfl rfl <| w_f b27 d27_61 rfl rfl rfl <| w_f b27 d27_62 rfl rfl rfl <| w_c b27 d27_64 rfl (pcl_v (n := 3) rfl rfl rfl (by decide +kernel) (sh_isOb hkw1.1 (bxk hc 4 rfl) (tb4 hc)) rfl rfl) rfl _ (hK_V fun w22 hkw22 => w_f b27 d27_67 rfl rfl rfl <| w_rz b27 d27_68 r27 (by decide) hkw22.2) (((hkw1.2.2 c3).2 c15).1 c21)) (fun c21 => w_f b27 d27_54 rfl rfl rfl <| w_rz b27 d27_55 r27 (by decide) (((hkw1.2.2 c3).2 c15).2 c21))))) h
theorem e27 {w : PW} {Q : PO → PW → Prop} {c : Nat} (hs : Sh w) (hc : bx c) (h : pC 15 [.ref 135, iv 0, iv ((gI w c 1) - 1)] w (kI fun u2 w1 => Sh w1 ∧ (u2 ≠ ((-1)) → pC 15 [.ref 135, iv 0, iv ((gI w1 c 0) - 1)] w1 (kI fun u5 w4 => Sh w4 ∧ (u5 ≠ ((-1)) → pC 23 [.ref 135] w4 (kI fun u8 w7 => Sh w7 ∧ (u8 ≠ ((-1)) → pC 26 [.ref (c + 4), iv u2, iv u5, iv u8] w7 (kV fun w10 => Sh w10 ∧ Q (.inl (some (iv 1))) w10)) ∧ (u8 = ((-1)) → Q (.inl (some (iv 0))) w7))) ∧ (u5 = ((-1)) → (((-1)) ≠ ((-1)) → pC 26 [.ref (c + 4), iv u2, iv u5, iv ((-1))] w4 (kV fun w13 => Sh w13 ∧ Q (.inl (some (iv 1))) w13)) ∧ (((-1)) = ((-1)) → Q (.inl (some (iv 0))) w4)))) ∧ (u2 = ((-1)) → (((-1)) ≠ ((-1)) → pC 23 [.ref 135] w1 (kI fun u17 w16 => Sh w16 ∧ (u17 ≠ ((-1)) → pC 26 [.ref (c + 4), iv u2, iv ((-1)), iv u17] w16 (kV fun w19 => Sh w19 ∧ Q (.inl (some (iv 1))) w19)) ∧ (u17 = ((-1)) → Q (.inl (some (iv 0))) w16))) ∧ (((-1)) = ((-1)) → (((-1)) ≠ ((-1)) → pC 26 [.ref (c + 4), iv u2, iv ((-1)), iv ((-1))] w1 (kV fun w22 => Sh w22 ∧ Q (.inl (some (iv 1))) w22)) ∧ (((-1)) = ((-1)) → Q (.inl (some (iv 0))) w1))))) : pC 27 [.ref 135, .ref c] w Q :=
  (pC_in (Nat.le_of_ble_eq_true rfl) rfl Q).mpr (v27_0 hs hc h)
/-! 32: PinBarrel$Reader.readPin(LPinBarrel$Box;)Z -/
theorem b32 : mB 32 = cX4_readPin := rfl
theorem r32 : mR 32 = (some .boolean) := rfl
theorem p32 (a b : Nat) : phi 32 a ≤ phi 32 b := Nat.le_refl 0
theorem d32_0 : decode cX4_readPin 0 = .ok (.aload_n 0, 1) := by decide +kernel
theorem d32_1 : decode cX4_readPin 1 = .ok (.iconst 0, 1) := by decide +kernel
theorem d32_2 : decode cX4_readPin 2 = .ok (.aload_n 1, 1) := by decide +kernel
theorem d32_3 : decode cX4_readPin 3 = .ok (.getfield 108, 3) := by decide +kernel
theorem d32_6 : decode cX4_readPin 6 = .ok (.iconst 1, 1) := by decide +kernel
theorem d32_7 : decode cX4_readPin 7 = .ok (.isub, 1) := by decide +kernel
theorem d32_8 : decode cX4_readPin 8 = .ok (.invokevirtual 57, 3) := by decide +kernel
theorem d32_11 : decode cX4_readPin 11 = .ok (.istore_n 2, 1) := by decide +kernel
theorem d32_12 : decode cX4_readPin 12 = .ok (.iload_n 2, 1) := by decide +kernel
theorem d32_13 : decode cX4_readPin 13 = .ok (.iconst (-1), 1) := by decide +kernel
theorem d32_14 : decode cX4_readPin 14 = .ok (.if_icmp .ne 7, 3) := by decide +kernel
theorem d32_17 : decode cX4_readPin 17 = .ok (.iconst (-1), 1) := by decide +kernel
theorem d32_18 : decode cX4_readPin 18 = .ok (.goto 14, 3) := by decide +kernel
theorem d32_21 : decode cX4_readPin 21 = .ok (.aload_n 0, 1) := by decide +kernel
theorem d32_22 : decode cX4_readPin 22 = .ok (.iconst 0, 1) := by decide +kernel
theorem d32_23 : decode cX4_readPin 23 = .ok (.aload_n 1, 1) := by decide +kernel
theorem d32_24 : decode cX4_readPin 24 = .ok (.getfield 111, 3) := by decide +kernel
theorem d32_27 : decode cX4_readPin 27 = .ok (.iconst 1, 1) := by decide +kernel
theorem d32_28 : decode cX4_readPin 28 = .ok (.isub, 1) := by decide +kernel
theorem d32_29 : decode cX4_readPin 29 = .ok (.invokevirtual 57, 3) := by decide +kernel
theorem d32_32 : decode cX4_readPin 32 = .ok (.istore_n 3, 1) := by decide +kernel
theorem d32_33 : decode cX4_readPin 33 = .ok (.iload_n 3, 1) := by decide +kernel
theorem d32_34 : decode cX4_readPin 34 = .ok (.iconst (-1), 1) := by decide +kernel
theorem d32_35 : decode cX4_readPin 35 = .ok (.if_icmp .ne 7, 3) := by decide +kernel
theorem d32_38 : decode cX4_readPin 38 = .ok (.iconst (-1), 1) := by decide +kernel
theorem d32_39 : decode cX4_readPin 39 = .ok (.goto 14, 3) := by decide +kernel
theorem d32_42 : decode cX4_readPin 42 = .ok (.aload_n 0, 1) := by decide +kernel
theorem d32_43 : decode cX4_readPin 43 = .ok (.iconst 0, 1) := by decide +kernel
theorem d32_44 : decode cX4_readPin 44 = .ok (.aload_n 1, 1) := by decide +kernel
theorem d32_45 : decode cX4_readPin 45 = .ok (.getfield 74, 3) := by decide +kernel
theorem d32_48 : decode cX4_readPin 48 = .ok (.iconst 1, 1) := by decide +kernel
theorem d32_49 : decode cX4_readPin 49 = .ok (.isub, 1) := by decide +kernel
theorem d32_50 : decode cX4_readPin 50 = .ok (.invokevirtual 57, 3) := by decide +kernel
theorem d32_53 : decode cX4_readPin 53 = .ok (.istore 4, 2) := by decide +kernel
theorem d32_55 : decode cX4_readPin 55 = .ok (.iload 4, 2) := by decide +kernel
theorem d32_57 : decode cX4_readPin 57 = .ok (.iconst (-1), 1) := by decide +kernel
theorem d32_58 : decode cX4_readPin 58 = .ok (.if_icmp .ne 5, 3) := by decide +kernel
theorem d32_61 : decode cX4_readPin 61 = .ok (.iconst 0, 1) := by decide +kernel
theorem d32_62 : decode cX4_readPin 62 = .ok (.ireturn, 1) := by decide +kernel
theorem d32_63 : decode cX4_readPin 63 = .ok (.aload_n 1, 1) := by decide +kernel
theorem d32_64 : decode cX4_readPin 64 = .ok (.iload_n 2, 1) := by decide +kernel
theorem d32_65 : decode cX4_readPin 65 = .ok (.iload_n 3, 1) := by decide +kernel
theorem d32_66 : decode cX4_readPin 66 = .ok (.iload 4, 2) := by decide +kernel
theorem d32_68 : decode cX4_readPin 68 = .ok (.iconst 1, 1) := by decide +kernel
theorem d32_69 : decode cX4_readPin 69 = .ok (.invokevirtual 117, 3) := by decide +kernel
theorem d32_72 : decode cX4_readPin 72 = .ok (.iconst 1, 1) := by decide +kernel
theorem d32_73 : decode cX4_readPin 73 = .ok (.ireturn, 1) := by decide +kernel
theorem v32_0 {w : PW} {Q : PO → PW → Prop} {c : Nat} (hs : Sh w) (hc : bx c) (h : pC 15 [.ref 135, iv 0, iv ((gI w c 1) - 1)] w (kI fun u2 w1 => Sh w1 ∧ (u2 ≠ ((-1)) → pC 15 [.ref 135, iv 0, iv ((gI w1 c 0) - 1)] w1 (kI fun u5 w4 => Sh w4 ∧ (u5 ≠ ((-1)) → pC 15 [.ref 135, iv 0, iv ((gI w4 c 4) - 1)] w4 (kI fun u8 w7 => Sh w7 ∧ (u8 ≠ ((-1)) → pC 31 [.ref c, iv u2, iv u5, iv u8, iv 1] w7 (kV fun w10 => Sh w10 ∧ Q (.inl (some (iv 1))) w10)) ∧ (u8 = ((-1)) → Q (.inl (some (iv 0))) w7))) ∧ (u5 = ((-1)) → (((-1)) ≠ ((-1)) → pC 31 [.ref c, iv u2, iv u5, iv ((-1)), iv 1] w4 (kV fun w13 => Sh w13 ∧ Q (.inl (some (iv 1))) w13)) ∧ (((-1)) = ((-1)) → Q (.inl (some (iv 0))) w4)))) ∧ (u2 = ((-1)) → (((-1)) ≠ ((-1)) → pC 15 [.ref 135, iv 0, iv ((gI w1 c 4) - 1)] w1 (kI fun u17 w16 => Sh w16 ∧ (u17 ≠ ((-1)) → pC 31 [.ref c, iv u2, iv ((-1)), iv u17, iv 1] w16 (kV fun w19 => Sh w19 ∧ Q (.inl (some (iv 1))) w19)) ∧ (u17 = ((-1)) → Q (.inl (some (iv 0))) w16))) ∧ (((-1)) = ((-1)) → (((-1)) ≠ ((-1)) → pC 31 [.ref c, iv u2, iv ((-1)), iv ((-1)), iv 1] w1 (kV fun w22 => Sh w22 ∧ Q (.inl (some (iv 1))) w22)) ∧ (((-1)) = ((-1)) → Q (.inl (some (iv 0))) w1))))) : pX 32 0 [some (.ref 135), some (.ref c), none, none, none] [] w Q :=
  w_f b32 d32_0 rfl rfl rfl <| w_f b32 d32_1 rfl rfl rfl <| w_f b32 d32_2 rfl rfl rfl <| w_gi b32 d32_3 rfl rfl hs (bx00 hc) (tb0 hc) rfl <| w_f b32 d32_6 rfl rfl rfl <| w_f b32 d32_7 rfl (pf_isub (gI w c 1) 1) rfl <| w_c b32 d32_8 rfl (pcl_v (n := 2) rfl rfl rfl (by decide +kernel) (sh_isOb hs (tlt 135 rfl) tbC_135) rfl rfl) rfl _ (hK_I fun u2 w1 hbu2 hkw1 => w_f b32 d32_11 rfl rfl rfl <| w_f b32 d32_12 rfl rfl rfl <| w_f b32 d32_13 rfl rfl rfl <| w_icne b32 d32_14 rfl rfl (p32 _ _) hbu2 ⟨by decide, by decide⟩ (fun c3 => w_f b32 d32_21 rfl rfl rfl <| w_f b32 d32_22 rfl rfl rfl <| w_f b32 d32_23 rfl rfl rfl <| w_gi b32 d32_24 rfl rfl hkw1.1 (bx00 hc) (tb0 hc) rfl <| w_f b32 d32_27 rfl rfl rfl <| w_f b32 d32_28 rfl (pf_isub _ 1) rfl <| w_c b32 d32_29 rfl (pcl_v (n := 2) rfl rfl rfl (by decide +kernel) (sh_isOb hkw1.1 (tlt 135 rfl) tbC_135) rfl rfl) rfl _ (hK_I fun u5 w4 hbu5 hkw4 => w_f b32 d32_32 rfl rfl rfl <| w_f b32 d32_33 rfl rfl rfl <| w_f b32 d32_34 rfl rfl rfl <| w_icne b32 d32_35 rfl rfl (p32 _ _) hbu5 ⟨by decide, by decide⟩ (fun c6 => w_f b32 d32_42 rfl rfl rfl <| w_f b32 d32_43 rfl rfl rfl <| w_f b32 d32_44 rfl rfl rfl <| w_gi b32 d32_45 rfl rfl hkw4.1 (bx00 hc) (tb0 hc) rfl <| w_f b32 d32_48 rfl rfl rfl <| w_f b32 d32_49 rfl (pf_isub _ 1) rfl <| w_c b32 d32_50 rfl (pcl_v (n := 2) rfl rfl rfl (by decide +kernel) (sh_isOb hkw4.1 (tlt 135 rfl) tbC_135) rfl rfl) rfl _ (hK_I fun u8 w7 hbu8 hkw7 => w_f b32 d32_53 rfl rfl rfl <| w_f b32 d32_55 rfl rfl rfl <| w_f b32 d32_57 rfl rfl rfl <| w_icne b32 d32_58 rfl rfl (p32 _ _) hbu8 ⟨by decide, by decide⟩ (fun c9 => w_f b32 d32_63 rfl rfl rfl <| w_f b32 d32_64 rfl rfl rfl <| w_f b32 d32_65 rfl rfl rfl <| w_f b32 d32_66 rfl rfl rfl <| w_f b32 d32_68 rfl rfl rfl <| w_c b32 d32_69 rfl (pcl_v (n := 4) rfl rfl rfl (by decide +kernel) (sh_isOb hkw7.1 (bx00 hc) (tb0 hc)) rfl rfl) rfl _ (hK_V fun w10 hkw10 => w_f b32 d32_72 rfl rfl rfl <| w_rz b32 d32_73 r32 (by decide) hkw10.2) (hkw7.2.1 c9)) (fun c9 => w_f b32 d32_61 rfl rfl rfl <| w_rz b32 d32_62 r32 (by decide) (hkw7.2.2 c9))) (hkw4.2.1 c6)) (fun c6 => w_f b32 d32_38 rfl rfl rfl <| w_j b32 d32_39 rfl (p32 _ _) <| w_f b32 d32_53 rfl rfl rfl <| w_f b32 d32_55 rfl rfl rfl <| w_f b32 d32_57 rfl rfl rfl <| w_icne b32 d32_58 rfl rfl (p32 _ _) ⟨by decide, by decide⟩ ⟨by decide, by decide⟩ (fun c12 => w_f b32 d32_63 rfl rfl rfl <| w_f b32 d32_64 rfl rfl rfl <| w_f b32 d32_65 rfl rfl rfl <| w_f b32 d32_66 rfl rfl rfl <| w_f b32 d32_68 rfl rfl rfl <| w_c b32 d32_69 rfl (pcl_v (n := 4) rfl rfl rfl (by decide +kernel) (sh_isOb hkw4.1 (bx00 hc) (tb0 hc)) rfl rfl) rfl _ (hK_V fun w13 hkw13 => w_f b32 d32_72 rfl rfl rfl <| w_rz b32 d32_73 r32 (by decide) hkw13.2) ((hkw4.2.2 c6).1 c12)) (fun c12 => w_f b32 d32_61 rfl rfl rfl <| w_rz b32 d32_62 r32 (by decide) ((hkw4.2.2 c6).2 c12)))) (hkw1.2.1 c3)) (fun c3 => w_f b32 d32_17 rfl rfl rfl <| w_j b32 d32_18 rfl (p32 _ _) <| w_f b32 d32_32 rfl rfl rfl <| w_f b32 d32_33 rfl rfl rfl <| w_f b32 d32_34 rfl rfl rfl <| w_icne b32 d32_35 rfl rfl (p32 _ _) ⟨by decide, by decide⟩ ⟨by decide, by decide⟩ (fun c15 => w_f b32 d32_42 rfl rfl rfl <| w_f b32 d32_43 rfl rfl rfl <| w_f b32 d32_44 rfl rfl rfl <| w_gi b32 d32_45 rfl rfl hkw1.1 (bx00 hc) (tb0 hc) rfl <| w_f b32 d32_48 rfl rfl rfl <| w_f b32 d32_49 rfl (pf_isub _ 1) rfl <| w_c b32 d32_50 rfl (pcl_v (n := 2) rfl rfl rfl (by decide +kernel) (sh_isOb hkw1.1 (tlt 135 rfl) tbC_135) rfl rfl) rfl _ (hK_I fun u17 w16 hbu17 hkw16 => w_f b32 d32_53 rfl rfl rfl <| w_f b32 d32_55 rfl rfl rfl <| w_f b32 d32_57 rfl rfl rfl <| w_icne b32 d32_58 rfl rfl (p32 _ _) hbu17 ⟨by decide, by decide⟩ (fun c18 => w_f b32 d32_63 rfl rfl rfl <| w_f b32 d32_64 rfl rfl rfl <| w_f b32 d32_65 rfl rfl rfl <| w_f b32 d32_66 rfl rfl rfl <| w_f b32 d32_68 rfl rfl rfl <| w_c b32 d32_69 rfl (pcl_v (n := 4) rfl rfl rfl (by decide +kernel) (sh_isOb hkw16.1 (bx00 hc) (tb0 hc)) rfl rfl) rfl _ (hK_V fun w19 hkw19 => w_f b32 d32_72 rfl rfl rfl <| w_rz b32 d32_73 r32 (by decide) hkw19.2) (hkw16.2.1 c18)) (fun c18 => w_f b32 d32_61 rfl rfl rfl <| w_rz b32 d32_62 r32 (by decide) (hkw16.2.2 c18))) ((hkw1.2.2 c3).1 c15)) (fun c15 => w_f b32 d32_38 rfl rfl rfl <| w_j b32 d32_39 rfl (p32 _ _) <| w_f b32 d32_53 rfl rfl rfl <| w_f b32 d32_55 rfl rfl rfl <| w_f b32 d32_57 rfl rfl rfl <| w_icne b32 d32_58 rfl rfl (p32 _ _) ⟨by decide, by decide⟩ ⟨by decide, by decide⟩ (fun c21 => w_f b32 d32_63 rfl rfl rfl <| w_f b32 d32_64 rfl rfl rfl <| w_f b32 d32_65 rfl rfl rfl <| w_f b32 d32_66 rfl rfl rfl <| w_f b32 d32_68 rfl rfl rfl <| w_c b32 d32_69 rfl (pcl_v (n := 4) rfl rfl rfl (by decide +kernel) (sh_isOb hkw1.1 (bx00 hc) (tb0 hc)) rfl rfl) rfl _ (hK_V fun w22 hkw22 => w_f b32 d32_72 rfl rfl rfl <| w_rz b32 d32_73 r32 (by decide) hkw22.2) (((hkw1.2.2 c3).2 c15).1 c21)) (fun c21 => w_f b32 d32_61 rfl rfl rfl <| w_rz b32 d32_62 r32 (by decide) (((hkw1.2.2 c3).2 c15).2 c21))))) h
theorem e32 {w : PW} {Q : PO → PW → Prop} {c : Nat} (hs : Sh w) (hc : bx c) (h : pC 15 [.ref 135, iv 0, iv ((gI w c 1) - 1)] w (kI fun u2 w1 => Sh w1 ∧ (u2 ≠ ((-1)) → pC 15 [.ref 135, iv 0, iv ((gI w1 c 0) - 1)] w1 (kI fun u5 w4 => Sh w4 ∧ (u5 ≠ ((-1)) → pC 15 [.ref 135, iv 0, iv ((gI w4 c 4) - 1)] w4 (kI fun u8 w7 => Sh w7 ∧ (u8 ≠ ((-1)) → pC 31 [.ref c, iv u2, iv u5, iv u8, iv 1] w7 (kV fun w10 => Sh w10 ∧ Q (.inl (some (iv 1))) w10)) ∧ (u8 = ((-1)) → Q (.inl (some (iv 0))) w7))) ∧ (u5 = ((-1)) → (((-1)) ≠ ((-1)) → pC 31 [.ref c, iv u2, iv u5, iv ((-1)), iv 1] w4 (kV fun w13 => Sh w13 ∧ Q (.inl (some (iv 1))) w13)) ∧ (((-1)) = ((-1)) → Q (.inl (some (iv 0))) w4)))) ∧ (u2 = ((-1)) → (((-1)) ≠ ((-1)) → pC 15 [.ref 135, iv 0, iv ((gI w1 c 4) - 1)] w1 (kI fun u17 w16 => Sh w16 ∧ (u17 ≠ ((-1)) → pC 31 [.ref c, iv u2, iv ((-1)), iv u17, iv 1] w16 (kV fun w19 => Sh w19 ∧ Q (.inl (some (iv 1))) w19)) ∧ (u17 = ((-1)) → Q (.inl (some (iv 0))) w16))) ∧ (((-1)) = ((-1)) → (((-1)) ≠ ((-1)) → pC 31 [.ref c, iv u2, iv ((-1)), iv ((-1)), iv 1] w1 (kV fun w22 => Sh w22 ∧ Q (.inl (some (iv 1))) w22)) ∧ (((-1)) = ((-1)) → Q (.inl (some (iv 0))) w1))))) : pC 32 [.ref 135, .ref c] w Q :=
  (pC_in (Nat.le_of_ble_eq_true rfl) rfl Q).mpr (v32_0 hs hc h)
abbrev RSR : Type := (Int × Nat) ⊕ (Nat × Row)
def rB {α β : Type} (x : (Int × Nat) ⊕ (Nat × α)) (f : Nat → α → (Int × Nat) ⊕ (Nat × β)) : (Int × Nat) ⊕ (Nat × β) := match x with
  | .inl e => .inl e
  | .inr y => f y.1 y.2
theorem rB_l {α β : Type} {x : (Int × Nat) ⊕ (Nat × α)} {f : Nat → α → (Int × Nat) ⊕ (Nat × β)} {e : Int × Nat} (h : x = .inl e) : rB x f = .inl e := by rw [h]; rfl
theorem rB_r {α β : Type} {x : (Int × Nat) ⊕ (Nat × α)} {f : Nat → α → (Int × Nat) ⊕ (Nat × β)} {q : Nat} {v : α} (h : x = .inr (q, v)) : rB x f = f q v := by rw [h]; rfl
def wBar : List Nat := [98, 97, 114, 114, 101, 108]
def wSpe : List Nat := [115, 112, 101, 101, 100]
def wToo : List Nat := [116, 111, 111, 116, 104]
def wNot : List Nat := [110, 111, 116, 101]
def wPin : List Nat := [112, 105, 110]
theorem wds : sTx.getD 4 [] = wBar ∧ sTx.getD 5 [] = wSpe ∧ sTx.getD 6 [] = wToo ∧ sTx.getD 7 [] = wNot ∧ sTx.getD 8 [] = wPin := by decide +kernel
def sBar (l : List Nat) (p : Nat) : RSR :=
  if sIsW l (sW0 l p) (sW1 l p) wBar = true then rB (sRd l (sW1 l p) 8 64) (fun q1 v1 => rB (sRd l q1 1 3) (fun q2 v2 => rB (sRd l q2 0 3) (fun q3 v3 => .inr (q3, rBegin v1 v2 v3)))) else .inl (1, sW0 l p)
def sSpe (l : List Nat) (p : Nat) (m : Row) : RSR := rB (sRd l p 1 4) (fun q1 v1 => .inr (q1, rOne m 3 v1))
def sToo (l : List Nat) (p : Nat) (m : Row) : RSR := rB (sPt l p) (fun q1 v1 => rB (sRd l q1 1 12) (fun q2 v2 => .inr (q2, rTooth m v1 v2)))
def sNot (l : List Nat) (p : Nat) (m : Row) : RSR := rB (sRd l p 0 (m 1 - 1)) (fun q1 v1 => rB (sRd l q1 0 (m 0 - 1)) (fun q2 v2 => rB (sPt l q2) (fun q3 v3 => .inr (q3, rNote m v1 v2 v3))))
def sPin (l : List Nat) (p : Nat) (m : Row) : RSR := rB (sRd l p 0 (m 1 - 1)) (fun q1 v1 => rB (sRd l q1 0 (m 0 - 1)) (fun q2 v2 => rB (sRd l q2 0 (m 4 - 1)) (fun q3 v3 => .inr (q3, rPut m v1.toNat v2.toNat (rOn m v1.toNat v2.toNat v3.toNat 1)))))
def RZ (b : Nat) (w w' : PW) : Prop := ∀ c, c ≠ 135 → ¬ (b ≤ c ∧ c < b + 13) → w'.2.2 c = w.2.2 c
theorem RZ.rf {b : Nat} {w : PW} : RZ b w w := fun _ _ _ => rfl
theorem RZ.tr {b : Nat} {w w1 w2 : PW} (h1 : RZ b w w1) (h2 : RZ b w1 w2) : RZ b w w2 := fun c hc hc2 => (h2 c hc hc2).trans (h1 c hc hc2)
theorem RX.z {b : Nat} {w w1 : PW} (h1 : RX w w1) : RZ b w w1 := fun c hc _ => h1 c hc
theorem obz {b : Nat} {w w1 : PW} (h1 : OB b w w1) : RZ b w w1 := fun c _ hc => h1 c hc
theorem RD.cells {w w2 : PW} {l : List Nat} {p : Nat} {a b s : Int} (h : RD w l p a b s) (h5 : w2.2.2 135 = w.2.2 135) (h6 : w2.2.2 136 = w.2.2 136) : RD w2 l p a b s := by
  obtain ⟨h1, h2, h3, h4, h5', h6', h7, h8⟩ := h
  exact ⟨by rw [gI_cell h5]; exact h1, by rw [gI_cell h5]; exact h2, by rw [gI_cell h5]; exact h3, by rw [gI_cell h5]; exact h4, by rw [gI_cell h5]; exact h5', h6', h7, fun k hk => by rw [gI_cell h6]; exact h8 k hk⟩
theorem RD.ob {w w2 : PW} {l : List Nat} {p c : Nat} {a b s : Int} (h : RD w l p a b s) (hc : bx c) (hO : OB c w w2) : RD w2 l p a b s := by
  have := bx_at hc
  exact h.cells (hO _ (by omega)) (hO _ (by omega))
section RST
variable {w : PW} {Q : PO → PW → Prop} {l : List Nat} {p c : Nat} {m : Row} {a b s : Int}
theorem c20 (hs : Sh w) (hc : bx c) (hR : RD w l p a b s) (hE : ∀ kk aa, sBar l p = .inl (kk, aa) → ∀ w2 q, Sh w2 → RD w2 l q kk (aa : Nat) s → RZ c w w2 → Q (.inl (some (iv 0))) w2) (hV : ∀ q m2, sBar l p = .inr (q, m2) → ∀ w2, Sh w2 → RD w2 l q a b s → BR w2 c m2 → RZ c w w2 → Q (.inl (some (iv 1))) w2) : pC 20 [.ref 135, .ref c] w Q := by
  have h5 := hR.2.2.2.2.2.1
  have h7 := hR.2.2.2.2.2.2.1
  have h1 : p ≤ sW0 l p ∧ sW0 l p ≤ l.length := sWh_bd (P := isSp) h5
  have h2 : sW0 l p ≤ sW1 l p ∧ sW1 l p ≤ l.length := sWh_bd (P := isAz) h1.2
  have nm : bd (-1) := ⟨by decide, by decide⟩
  unfold sBar at hE hV
  refine e20 hs hc (c12 hs hR (fun w2 s2 R2 F2 => kI_iv (bdk (by omega)) ⟨s2, c13 s2 R2 (by decide) h2.1 ?_⟩))
  rw [wds.1]
  by_cases q : sIsW l (sW0 l p) (sW1 l p) wBar = true
  · rw [if_pos q] at hE hV
    rw [if_pos q]
    refine kI_iv ⟨by decide, by decide⟩ ⟨s2, fun _ => ?_, fun z => absurd z (by decide)⟩
    refine c15 s2 R2 (by decide) (by decide) ⟨by decide, by decide⟩ ⟨by decide, by decide⟩ (fun kk aa e w3 p3 s3 R3 F3 => kI_iv nm ⟨s3, fun z => absurd rfl z, fun _ => ⟨fun z => absurd rfl z, fun _ => ⟨fun z => absurd rfl z, fun _ => hE kk aa (rB_l e) w3 p3 s3 R3 (F2.tr F3).z⟩⟩⟩) (fun q1 v1 e1 w3 s3 R3 F3 => ?_)
    have n1 := sRd_bd h2.2 e1
    rw [rB_r e1] at hE hV
    refine kI_iv ⟨by omega, by omega⟩ ⟨s3, fun _ => ?_, fun z => by omega⟩
    refine c15 s3 R3 (by decide) (by decide) ⟨by decide, by decide⟩ ⟨by decide, by decide⟩ (fun kk aa e w4 p4 s4 R4 F4 => kI_iv nm ⟨s4, fun z => absurd rfl z, fun _ => ⟨fun z => absurd rfl z, fun _ => hE kk aa (rB_l e) w4 p4 s4 R4 (F2.tr (F3.tr F4)).z⟩⟩) (fun q2 v2 e2 w4 s4 R4 F4 => ?_)
    have n2 := sRd_bd n1.2.1 e2
    rw [rB_r e2] at hE hV
    refine kI_iv ⟨by omega, by omega⟩ ⟨s4, fun _ => ?_, fun z => by omega⟩
    refine c15 s4 R4 (by decide) (by decide) ⟨by decide, by decide⟩ ⟨by decide, by decide⟩ (fun kk aa e w5 p5 s5 R5 F5 => kI_iv nm ⟨s5, fun z => absurd rfl z, fun _ => hE kk aa (rB_l e) w5 p5 s5 R5 (F2.tr (F3.tr (F4.tr F5))).z⟩) (fun q3 v3 e3 w5 s5 R5 F5 => ?_)
    have n3 := sRd_bd n2.2.1 e3
    rw [rB_r e3] at hE hV
    refine kI_iv ⟨by omega, by omega⟩ ⟨s5, fun _ => ?_, fun z => by omega⟩
    exact c19 s5 hc ⟨by omega, by omega⟩ ⟨by omega, by omega⟩ ⟨by omega, by omega⟩ (fun w6 s6 b6 k6 => ⟨s6, hV q3 _ rfl w6 s6 (R5.ob hc k6) b6 ((F2.tr (F3.tr (F4.tr F5))).z.tr (obz k6))⟩)
  · rw [if_neg q] at hE
    rw [if_neg q]
    refine kI_iv bd0 ⟨s2, fun z => absurd rfl z, fun _ w3 e3 => ?_⟩
    obtain ⟨s3, R3, F3⟩ := R2.fail s2 ⟨by decide, by decide⟩ (bdk (by omega)) e3
    exact hE 1 _ rfl w3 _ s3 R3 (F2.tr F3).z
theorem c21 (hs : Sh w) (hR : RD w l p a b s) (hB : BR w c m) (hE : ∀ kk aa, sSpe l p m = .inl (kk, aa) → ∀ w2 q, Sh w2 → RD w2 l q kk (aa : Nat) s → RZ c w w2 → Q (.inl (some (iv 0))) w2) (hV : ∀ q m2, sSpe l p m = .inr (q, m2) → ∀ w2, Sh w2 → RD w2 l q a b s → BR w2 c m2 → RZ c w w2 → Q (.inl (some (iv 1))) w2) : pC 21 [.ref 135, .ref c] w Q := by
  have h5 := hR.2.2.2.2.2.1
  have nm : bd (-1) := ⟨by decide, by decide⟩
  have hc := hB.bx
  unfold sSpe at hE hV
  refine e21 hs hc (c15 hs hR (by decide) (by decide) ⟨by decide, by decide⟩ ⟨by decide, by decide⟩ (fun kk aa e w3 p3 s3 R3 F3 => kI_iv nm ⟨s3, fun z => absurd rfl z, fun _ => hE kk aa (rB_l e) w3 p3 s3 R3 F3.z⟩) (fun q1 v1 e1 w3 s3 R3 F3 => ?_))
  have n1 := sRd_bd h5 e1
  rw [rB_r e1] at hV
  have bv : bd v1 := ⟨by omega, by omega⟩
  refine kI_iv bv ⟨s3, fun _ w4 e4 => ?_, fun z => by omega⟩
  obtain ⟨s4, b4, k4⟩ := brOne (f := 0) (J := 3) (F3.br hB) s3 (Or.inl ⟨rfl, Or.inr rfl, rfl⟩) (rOne_ok hB.ok (Or.inr (Or.inl rfl)) (by omega) (fun _ => ⟨n1.2.2.1, n1.2.2.2.1⟩) (by omega) (fun k hk => by omega) (fun k hk => by omega)) bv (slt_o (tb0 hc) rfl) e4
  have k5 : OB c w3 w4 := fun x hx => k4 x (by omega)
  exact hV q1 _ rfl w4 s4 (R3.ob hc k5) b4 (F3.z.tr (obz k5))
theorem c25 (hs : Sh w) (hR : RD w l p a b s) (hB : BR w c m) (h12 : m 4 < 12) (hE : ∀ kk aa, sToo l p m = .inl (kk, aa) → ∀ w2 q, Sh w2 → RD w2 l q kk (aa : Nat) s → RZ c w w2 → Q (.inl (some (iv 0))) w2) (hV : ∀ q m2, sToo l p m = .inr (q, m2) → ∀ w2, Sh w2 → RD w2 l q a b s → BR w2 c m2 → RZ c w w2 → Q (.inl (some (iv 1))) w2) : pC 25 [.ref 135, .ref c] w Q := by
  have h5 := hR.2.2.2.2.2.1
  have nm : bd (-1) := ⟨by decide, by decide⟩
  have hc := hB.bx
  unfold sToo at hE hV
  refine e25 hs hc (c23 hs hR (fun kk aa e w3 p3 s3 R3 F3 => kI_iv nm ⟨s3, fun z => absurd rfl z, fun _ => ⟨fun z => absurd rfl z, fun _ => hE kk aa (rB_l e) w3 p3 s3 R3 F3.z⟩⟩) (fun q1 v1 e1 w3 s3 R3 F3 => ?_))
  have n1 := sPt_bd h5 e1
  rw [rB_r e1] at hE hV
  refine kI_iv ⟨by omega, by omega⟩ ⟨s3, fun _ => ?_, fun z => by omega⟩
  refine c15 s3 R3 (by decide) (by decide) ⟨by decide, by decide⟩ ⟨by decide, by decide⟩ (fun kk aa e w4 p4 s4 R4 F4 => kI_iv nm ⟨s4, fun z => absurd rfl z, fun _ => hE kk aa (rB_l e) w4 p4 s4 R4 (F3.tr F4).z⟩) (fun q2 v2 e2 w4 s4 R4 F4 => ?_)
  have n2 := sRd_bd n1.2.1 e2
  rw [rB_r e2] at hV
  refine kI_iv ⟨by omega, by omega⟩ ⟨s4, fun _ => ?_, fun z => by omega⟩
  exact c24 s4 ((F3.tr F4).br hB) h12 n1.2.2 ⟨n2.2.2.1, n2.2.2.2.1⟩ (fun w6 s6 b6 k6 => ⟨s6, hV q2 _ rfl w6 s6 (R4.ob hc k6) b6 ((F3.tr F4).z.tr (obz k6))⟩)
theorem c27 (hs : Sh w) (hR : RD w l p a b s) (hB : BR w c m) (h60 : m 5 < 60) (hE : ∀ kk aa, sNot l p m = .inl (kk, aa) → ∀ w2 q, Sh w2 → RD w2 l q kk (aa : Nat) s → RZ c w w2 → Q (.inl (some (iv 0))) w2) (hV : ∀ q m2, sNot l p m = .inr (q, m2) → ∀ w2, Sh w2 → RD w2 l q a b s → BR w2 c m2 → RZ c w w2 → Q (.inl (some (iv 1))) w2) : pC 27 [.ref 135, .ref c] w Q := by
  have h5 := hR.2.2.2.2.2.1
  have nm : bd (-1) := ⟨by decide, by decide⟩
  have hc := hB.bx
  have h0 := hB.ok.s
  have h1 := hB.ok.u
  unfold sNot at hE hV
  refine e27 hs hc ?_
  rw [hB.u]
  refine c15 hs hR (by decide) (by omega) ⟨by decide, by decide⟩ ⟨by omega, by omega⟩ (fun kk aa e w3 p3 s3 R3 F3 => kI_iv nm ⟨s3, fun z => absurd rfl z, fun _ => ⟨fun z => absurd rfl z, fun _ => ⟨fun z => absurd rfl z, fun _ => hE kk aa (rB_l e) w3 p3 s3 R3 F3.z⟩⟩⟩) (fun q1 v1 e1 w3 s3 R3 F3 => ?_)
  have n1 := sRd_bd h5 e1
  rw [rB_r e1] at hE hV
  have hB3 := F3.br hB
  refine kI_iv ⟨by omega, by omega⟩ ⟨s3, fun _ => ?_, fun z => by omega⟩
  rw [hB3.s]
  refine c15 s3 R3 (by decide) (by omega) ⟨by decide, by decide⟩ ⟨by omega, by omega⟩ (fun kk aa e w4 p4 s4 R4 F4 => kI_iv nm ⟨s4, fun z => absurd rfl z, fun _ => ⟨fun z => absurd rfl z, fun _ => hE kk aa (rB_l e) w4 p4 s4 R4 (F3.tr F4).z⟩⟩) (fun q2 v2 e2 w4 s4 R4 F4 => ?_)
  have n2 := sRd_bd n1.2.1 e2
  rw [rB_r e2] at hE hV
  refine kI_iv ⟨by omega, by omega⟩ ⟨s4, fun _ => ?_, fun z => by omega⟩
  refine c23 s4 R4 (fun kk aa e w5 p5 s5 R5 F5 => kI_iv nm ⟨s5, fun z => absurd rfl z, fun _ => hE kk aa (rB_l e) w5 p5 s5 R5 (F3.tr (F4.tr F5)).z⟩) (fun q3 v3 e3 w5 s5 R5 F5 => ?_)
  have n3 := sPt_bd n2.2.1 e3
  rw [rB_r e3] at hV
  refine kI_iv ⟨by omega, by omega⟩ ⟨s5, fun _ => ?_, fun z => by omega⟩
  exact c26 s5 ((F3.tr (F4.tr F5)).br hB) h60 ⟨by omega, by omega⟩ ⟨by omega, by omega⟩ n3.2.2 (fun w6 s6 b6 k6 => ⟨s6, hV q3 _ rfl w6 s6 (R5.ob hc k6) b6 ((F3.tr (F4.tr F5)).z.tr (obz k6))⟩)
theorem c32 (hs : Sh w) (hR : RD w l p a b s) (hB : BR w c m) (hE : ∀ kk aa, sPin l p m = .inl (kk, aa) → ∀ w2 q, Sh w2 → RD w2 l q kk (aa : Nat) s → RZ c w w2 → Q (.inl (some (iv 0))) w2) (hV : ∀ q m2, sPin l p m = .inr (q, m2) → ∀ w2, Sh w2 → RD w2 l q a b s → BR w2 c m2 → RZ c w w2 → Q (.inl (some (iv 1))) w2) : pC 32 [.ref 135, .ref c] w Q := by
  have h5 := hR.2.2.2.2.2.1
  have nm : bd (-1) := ⟨by decide, by decide⟩
  have hc := hB.bx
  have h0 := hB.ok.s
  have h1 := hB.ok.u
  have h4 := hB.ok.t
  unfold sPin at hE hV
  refine e32 hs hc ?_
  rw [hB.u]
  refine c15 hs hR (by decide) (by omega) ⟨by decide, by decide⟩ ⟨by omega, by omega⟩ (fun kk aa e w3 p3 s3 R3 F3 => kI_iv nm ⟨s3, fun z => absurd rfl z, fun _ => ⟨fun z => absurd rfl z, fun _ => ⟨fun z => absurd rfl z, fun _ => hE kk aa (rB_l e) w3 p3 s3 R3 F3.z⟩⟩⟩) (fun q1 v1 e1 w3 s3 R3 F3 => ?_)
  have n1 := sRd_bd h5 e1
  rw [rB_r e1] at hE hV
  have hB3 := F3.br hB
  refine kI_iv ⟨by omega, by omega⟩ ⟨s3, fun _ => ?_, fun z => by omega⟩
  rw [hB3.s]
  refine c15 s3 R3 (by decide) (by omega) ⟨by decide, by decide⟩ ⟨by omega, by omega⟩ (fun kk aa e w4 p4 s4 R4 F4 => kI_iv nm ⟨s4, fun z => absurd rfl z, fun _ => ⟨fun z => absurd rfl z, fun _ => hE kk aa (rB_l e) w4 p4 s4 R4 (F3.tr F4).z⟩⟩) (fun q2 v2 e2 w4 s4 R4 F4 => ?_)
  have n2 := sRd_bd n1.2.1 e2
  rw [rB_r e2] at hE hV
  have hB4 := (F3.tr F4).br hB
  refine kI_iv ⟨by omega, by omega⟩ ⟨s4, fun _ => ?_, fun z => by omega⟩
  rw [hB4.t]
  refine c15 s4 R4 (by decide) (by omega) ⟨by decide, by decide⟩ ⟨by omega, by omega⟩ (fun kk aa e w5 p5 s5 R5 F5 => kI_iv nm ⟨s5, fun z => absurd rfl z, fun _ => hE kk aa (rB_l e) w5 p5 s5 R5 (F3.tr (F4.tr F5)).z⟩) (fun q3 v3 e3 w5 s5 R5 F5 => ?_)
  have n3 := sRd_bd n2.2.1 e3
  rw [rB_r e3] at hV
  refine kI_iv ⟨by omega, by omega⟩ ⟨s5, fun _ => ?_, fun z => by omega⟩
  obtain ⟨u, rfl⟩ := nat_of n1.2.2.2.2
  obtain ⟨r, rfl⟩ := nat_of n2.2.2.2.2
  obtain ⟨t, rfl⟩ := nat_of n3.2.2.2.2
  exact c31 s5 ((F3.tr (F4.tr F5)).br hB) (by omega) (by omega) (by omega) ⟨by decide, by decide⟩ (fun w6 s6 b6 k6 => ⟨s6, hV q3 _ rfl w6 s6 (R5.ob hc k6) b6 ((F3.tr (F4.tr F5)).z.tr (obz k6))⟩)
end RST

