/-! THE READER: all of a text; the class -/
theorem pf_bip {n : Int} {L : List (Option Value)} {S : List Value} (h : (Int8.ofInt n).toInt32 = Int32.ofInt n) : pf (.bipush n) L S = some (2, L, iv n :: S) := by
  show some (2, L, Value.int (Int8.ofInt n).toInt32 :: S) = _
  rw [h]
/-! 33: PinBarrel$Reader.readOther(LPinBarrel$Box;)Z -/
theorem b33 : mB 33 = cX4_readOther := rfl
theorem r33 : mR 33 = (some .boolean) := rfl
theorem p33 (a b : Nat) : phi 33 a ≤ phi 33 b := Nat.le_refl 0
theorem d33_0 : decode cX4_readOther 0 = .ok (.aload_n 0, 1) := by decide +kernel
theorem d33_1 : decode cX4_readOther 1 = .ok (.invokevirtual 47, 3) := by decide +kernel
theorem d33_4 : decode cX4_readOther 4 = .ok (.istore_n 2, 1) := by decide +kernel
theorem d33_5 : decode cX4_readOther 5 = .ok (.aload_n 0, 1) := by decide +kernel
theorem d33_6 : decode cX4_readOther 6 = .ok (.iload_n 2, 1) := by decide +kernel
theorem d33_7 : decode cX4_readOther 7 = .ok (.ldc 67, 2) := by decide +kernel
theorem d33_9 : decode cX4_readOther 9 = .ok (.invokevirtual 53, 3) := by decide +kernel
theorem d33_12 : decode cX4_readOther 12 = .ok (.ifCond .eq 9, 3) := by decide +kernel
theorem d33_15 : decode cX4_readOther 15 = .ok (.aload_n 0, 1) := by decide +kernel
theorem d33_16 : decode cX4_readOther 16 = .ok (.aload_n 1, 1) := by decide +kernel
theorem d33_17 : decode cX4_readOther 17 = .ok (.invokevirtual 69, 3) := by decide +kernel
theorem d33_20 : decode cX4_readOther 20 = .ok (.ireturn, 1) := by decide +kernel
theorem d33_21 : decode cX4_readOther 21 = .ok (.aload_n 0, 1) := by decide +kernel
theorem d33_22 : decode cX4_readOther 22 = .ok (.iload_n 2, 1) := by decide +kernel
theorem d33_23 : decode cX4_readOther 23 = .ok (.ldc 72, 2) := by decide +kernel
theorem d33_25 : decode cX4_readOther 25 = .ok (.invokevirtual 53, 3) := by decide +kernel
theorem d33_28 : decode cX4_readOther 28 = .ok (.ifCond .eq 27, 3) := by decide +kernel
theorem d33_31 : decode cX4_readOther 31 = .ok (.aload_n 1, 1) := by decide +kernel
theorem d33_32 : decode cX4_readOther 32 = .ok (.getfield 74, 3) := by decide +kernel
theorem d33_35 : decode cX4_readOther 35 = .ok (.bipush 12, 2) := by decide +kernel
theorem d33_37 : decode cX4_readOther 37 = .ok (.if_icmp .lt 12, 3) := by decide +kernel
theorem d33_40 : decode cX4_readOther 40 = .ok (.aload_n 0, 1) := by decide +kernel
theorem d33_41 : decode cX4_readOther 41 = .ok (.iconst 3, 1) := by decide +kernel
theorem d33_42 : decode cX4_readOther 42 = .ok (.iload_n 2, 1) := by decide +kernel
theorem d33_43 : decode cX4_readOther 43 = .ok (.invokevirtual 40, 3) := by decide +kernel
theorem d33_46 : decode cX4_readOther 46 = .ok (.goto 8, 3) := by decide +kernel
theorem d33_49 : decode cX4_readOther 49 = .ok (.aload_n 0, 1) := by decide +kernel
theorem d33_50 : decode cX4_readOther 50 = .ok (.aload_n 1, 1) := by decide +kernel
theorem d33_51 : decode cX4_readOther 51 = .ok (.invokevirtual 77, 3) := by decide +kernel
theorem d33_54 : decode cX4_readOther 54 = .ok (.ireturn, 1) := by decide +kernel
theorem d33_55 : decode cX4_readOther 55 = .ok (.aload_n 0, 1) := by decide +kernel
theorem d33_56 : decode cX4_readOther 56 = .ok (.iload_n 2, 1) := by decide +kernel
theorem d33_57 : decode cX4_readOther 57 = .ok (.ldc 80, 2) := by decide +kernel
theorem d33_59 : decode cX4_readOther 59 = .ok (.invokevirtual 53, 3) := by decide +kernel
theorem d33_62 : decode cX4_readOther 62 = .ok (.ifCond .eq 30, 3) := by decide +kernel
theorem d33_65 : decode cX4_readOther 65 = .ok (.aload_n 1, 1) := by decide +kernel
theorem d33_66 : decode cX4_readOther 66 = .ok (.getfield 82, 3) := by decide +kernel
theorem d33_69 : decode cX4_readOther 69 = .ok (.getfield 86, 3) := by decide +kernel
theorem d33_72 : decode cX4_readOther 72 = .ok (.bipush 60, 2) := by decide +kernel
theorem d33_74 : decode cX4_readOther 74 = .ok (.if_icmp .lt 12, 3) := by decide +kernel
theorem d33_77 : decode cX4_readOther 77 = .ok (.aload_n 0, 1) := by decide +kernel
theorem d33_78 : decode cX4_readOther 78 = .ok (.iconst 3, 1) := by decide +kernel
theorem d33_79 : decode cX4_readOther 79 = .ok (.iload_n 2, 1) := by decide +kernel
theorem d33_80 : decode cX4_readOther 80 = .ok (.invokevirtual 40, 3) := by decide +kernel
theorem d33_83 : decode cX4_readOther 83 = .ok (.goto 8, 3) := by decide +kernel
theorem d33_86 : decode cX4_readOther 86 = .ok (.aload_n 0, 1) := by decide +kernel
theorem d33_87 : decode cX4_readOther 87 = .ok (.aload_n 1, 1) := by decide +kernel
theorem d33_88 : decode cX4_readOther 88 = .ok (.invokevirtual 91, 3) := by decide +kernel
theorem d33_91 : decode cX4_readOther 91 = .ok (.ireturn, 1) := by decide +kernel
theorem d33_92 : decode cX4_readOther 92 = .ok (.aload_n 0, 1) := by decide +kernel
theorem d33_93 : decode cX4_readOther 93 = .ok (.iload_n 2, 1) := by decide +kernel
theorem d33_94 : decode cX4_readOther 94 = .ok (.ldc 94, 2) := by decide +kernel
theorem d33_96 : decode cX4_readOther 96 = .ok (.invokevirtual 53, 3) := by decide +kernel
theorem d33_99 : decode cX4_readOther 99 = .ok (.ifCond .eq 9, 3) := by decide +kernel
theorem d33_102 : decode cX4_readOther 102 = .ok (.aload_n 0, 1) := by decide +kernel
theorem d33_103 : decode cX4_readOther 103 = .ok (.aload_n 1, 1) := by decide +kernel
theorem d33_104 : decode cX4_readOther 104 = .ok (.invokevirtual 96, 3) := by decide +kernel
theorem d33_107 : decode cX4_readOther 107 = .ok (.ireturn, 1) := by decide +kernel
theorem d33_108 : decode cX4_readOther 108 = .ok (.aload_n 0, 1) := by decide +kernel
theorem d33_109 : decode cX4_readOther 109 = .ok (.iconst 1, 1) := by decide +kernel
theorem d33_110 : decode cX4_readOther 110 = .ok (.iload_n 2, 1) := by decide +kernel
theorem d33_111 : decode cX4_readOther 111 = .ok (.invokevirtual 40, 3) := by decide +kernel
theorem d33_114 : decode cX4_readOther 114 = .ok (.ireturn, 1) := by decide +kernel
theorem v33_0 {w : PW} {Q : PO → PW → Prop} {c : Nat} (hs : Sh w) (hc : bx c) (h : pC 12 [.ref 135] w (kI fun u2 w1 => Sh w1 ∧ pC 13 [.ref 135, iv u2, .ref (pSB + 5)] w1 (kI fun u4 w3 => Sh w3 ∧ (u4 = 0 → pC 13 [.ref 135, iv u2, .ref (pSB + 6)] w3 (kI fun u7 w6 => Sh w6 ∧ (u7 = 0 → pC 13 [.ref 135, iv u2, .ref (pSB + 7)] w6 (kI fun u10 w9 => Sh w9 ∧ (u10 = 0 → pC 13 [.ref 135, iv u2, .ref (pSB + 8)] w9 (kI fun u18 w17 => Sh w17 ∧ (u18 = 0 → ∀ w20 : PW, w20 = sI (sI w17 135 2 1) 135 3 u2 → Q (.inl (some (iv 0))) w20) ∧ (u18 ≠ 0 → pC 32 [.ref 135, .ref c] w17 (kI fun u22 w21 => Sh w21 ∧ (u22 = 0 ∨ u22 = 1) ∧ Q (.inl (some (iv u22))) w21)))) ∧ (u10 ≠ 0 → ((gI w9 (c + 4) 0) < 60 → pC 27 [.ref 135, .ref c] w9 (kI fun u25 w24 => Sh w24 ∧ (u25 = 0 ∨ u25 = 1) ∧ Q (.inl (some (iv u25))) w24)) ∧ (60 ≤ (gI w9 (c + 4) 0) → ∀ w26 : PW, w26 = sI (sI w9 135 2 3) 135 3 u2 → Q (.inl (some (iv 0))) w26)))) ∧ (u7 ≠ 0 → ((gI w6 c 4) < 12 → pC 25 [.ref 135, .ref c] w6 (kI fun u29 w28 => Sh w28 ∧ (u29 = 0 ∨ u29 = 1) ∧ Q (.inl (some (iv u29))) w28)) ∧ (12 ≤ (gI w6 c 4) → ∀ w30 : PW, w30 = sI (sI w6 135 2 3) 135 3 u2 → Q (.inl (some (iv 0))) w30)))) ∧ (u4 ≠ 0 → pC 21 [.ref 135, .ref c] w3 (kI fun u32 w31 => Sh w31 ∧ (u32 = 0 ∨ u32 = 1) ∧ Q (.inl (some (iv u32))) w31))))) : pX 33 0 [some (.ref 135), some (.ref c), none] [] w Q :=
  w_f b33 d33_0 rfl rfl rfl <| w_c b33 d33_1 rfl (pcl_v (n := 0) rfl rfl rfl (by decide +kernel) (sh_isOb hs (tlt 135 rfl) tbC_135) rfl rfl) rfl _ (hK_I fun u2 w1 hbu2 hkw1 => w_f b33 d33_4 rfl rfl rfl <| w_f b33 d33_5 rfl rfl rfl <| w_f b33 d33_6 rfl rfl rfl <| w_ldcS b33 d33_7 rfl rfl <| w_c b33 d33_9 rfl (pcl_v (n := 2) rfl rfl rfl (by decide +kernel) (sh_isOb hkw1.1 (tlt 135 rfl) tbC_135) rfl rfl) rfl _ (hK_I fun u4 w3 hbu4 hkw3 => w_ifeq b33 d33_12 rfl rfl (p33 _ _) hbu4 (fun c5 => w_f b33 d33_21 rfl rfl rfl <| w_f b33 d33_22 rfl rfl rfl <| w_ldcS b33 d33_23 rfl rfl <| w_c b33 d33_25 rfl (pcl_v (n := 2) rfl rfl rfl (by decide +kernel) (sh_isOb hkw3.1 (tlt 135 rfl) tbC_135) rfl rfl) rfl _ (hK_I fun u7 w6 hbu7 hkw6 => w_ifeq b33 d33_28 rfl rfl (p33 _ _) hbu7 (fun c8 => w_f b33 d33_55 rfl rfl rfl <| w_f b33 d33_56 rfl rfl rfl <| w_ldcS b33 d33_57 rfl rfl <| w_c b33 d33_59 rfl (pcl_v (n := 2) rfl rfl rfl (by decide +kernel) (sh_isOb hkw6.1 (tlt 135 rfl) tbC_135) rfl rfl) rfl _ (hK_I fun u10 w9 hbu10 hkw9 => w_ifeq b33 d33_62 rfl rfl (p33 _ _) hbu10 (fun c16 => w_f b33 d33_92 rfl rfl rfl <| w_f b33 d33_93 rfl rfl rfl <| w_ldcS b33 d33_94 rfl rfl <| w_c b33 d33_96 rfl (pcl_v (n := 2) rfl rfl rfl (by decide +kernel) (sh_isOb hkw9.1 (tlt 135 rfl) tbC_135) rfl rfl) rfl _ (hK_I fun u18 w17 hbu18 hkw17 => w_ifeq b33 d33_99 rfl rfl (p33 _ _) hbu18 (fun c19 => w_f b33 d33_108 rfl rfl rfl <| w_f b33 d33_109 rfl rfl rfl <| w_f b33 d33_110 rfl rfl rfl <| w_cc b33 d33_111 rfl (pcl_v (n := 2) rfl rfl rfl (by decide +kernel) (sh_isOb hkw17.1 (tlt 135 rfl) tbC_135) rfl rfl) rfl <| c14 hkw17.1 ⟨by decide, by decide⟩ hbu2 <| w_rz b33 d33_114 r33 (by decide) ((hkw17.2.1 c19) _ rfl)) (fun c19 => w_f b33 d33_102 rfl rfl rfl <| w_f b33 d33_103 rfl rfl rfl <| w_c b33 d33_104 rfl (pcl_v (n := 1) rfl rfl rfl (by decide +kernel) (sh_isOb hkw17.1 (tlt 135 rfl) tbC_135) rfl rfl) rfl _ (hK_I fun u22 w21 hbu22 hkw21 => w_rz b33 d33_107 r33 hkw21.2.1 hkw21.2.2) (hkw17.2.2 c19))) (hkw9.2.1 c16)) (fun c16 => w_f b33 d33_65 rfl rfl rfl <| w_gr b33 d33_66 rfl rfl hkw9.1 (bx00 hc) (tb0 hc) rfl (bxr hc 4 rfl) <| w_gi b33 d33_69 rfl rfl hkw9.1 (bxk hc 4 rfl) (tb4 hc) rfl <| w_f b33 d33_72 rfl rfl rfl <| w_iclt b33 d33_74 rfl rfl (p33 _ _) (bd_gI _ _ _) ⟨by decide, by decide⟩ (fun c23 => w_f b33 d33_86 rfl rfl rfl <| w_f b33 d33_87 rfl rfl rfl <| w_c b33 d33_88 rfl (pcl_v (n := 1) rfl rfl rfl (by decide +kernel) (sh_isOb hkw9.1 (tlt 135 rfl) tbC_135) rfl rfl) rfl _ (hK_I fun u25 w24 hbu25 hkw24 => w_rz b33 d33_91 r33 hkw24.2.1 hkw24.2.2) ((hkw9.2.2 c16).1 c23)) (fun c23 => w_f b33 d33_77 rfl rfl rfl <| w_f b33 d33_78 rfl rfl rfl <| w_f b33 d33_79 rfl rfl rfl <| w_cc b33 d33_80 rfl (pcl_v (n := 2) rfl rfl rfl (by decide +kernel) (sh_isOb hkw9.1 (tlt 135 rfl) tbC_135) rfl rfl) rfl <| c14 hkw9.1 ⟨by decide, by decide⟩ hbu2 <| w_j b33 d33_83 rfl (p33 _ _) <| w_rz b33 d33_91 r33 (by decide) (((hkw9.2.2 c16).2 c23) _ rfl)))) (hkw6.2.1 c8)) (fun c8 => w_f b33 d33_31 rfl rfl rfl <| w_gi b33 d33_32 rfl rfl hkw6.1 (bx00 hc) (tb0 hc) rfl <| w_f b33 d33_35 rfl rfl rfl <| w_iclt b33 d33_37 rfl rfl (p33 _ _) (bd_gI _ _ _) ⟨by decide, by decide⟩ (fun c27 => w_f b33 d33_49 rfl rfl rfl <| w_f b33 d33_50 rfl rfl rfl <| w_c b33 d33_51 rfl (pcl_v (n := 1) rfl rfl rfl (by decide +kernel) (sh_isOb hkw6.1 (tlt 135 rfl) tbC_135) rfl rfl) rfl _ (hK_I fun u29 w28 hbu29 hkw28 => w_rz b33 d33_54 r33 hkw28.2.1 hkw28.2.2) ((hkw6.2.2 c8).1 c27)) (fun c27 => w_f b33 d33_40 rfl rfl rfl <| w_f b33 d33_41 rfl rfl rfl <| w_f b33 d33_42 rfl rfl rfl <| w_cc b33 d33_43 rfl (pcl_v (n := 2) rfl rfl rfl (by decide +kernel) (sh_isOb hkw6.1 (tlt 135 rfl) tbC_135) rfl rfl) rfl <| c14 hkw6.1 ⟨by decide, by decide⟩ hbu2 <| w_j b33 d33_46 rfl (p33 _ _) <| w_rz b33 d33_54 r33 (by decide) (((hkw6.2.2 c8).2 c27) _ rfl)))) (hkw3.2.1 c5)) (fun c5 => w_f b33 d33_15 rfl rfl rfl <| w_f b33 d33_16 rfl rfl rfl <| w_c b33 d33_17 rfl (pcl_v (n := 1) rfl rfl rfl (by decide +kernel) (sh_isOb hkw3.1 (tlt 135 rfl) tbC_135) rfl rfl) rfl _ (hK_I fun u32 w31 hbu32 hkw31 => w_rz b33 d33_20 r33 hkw31.2.1 hkw31.2.2) (hkw3.2.2 c5))) hkw1.2) h
theorem e33 {w : PW} {Q : PO → PW → Prop} {c : Nat} (hs : Sh w) (hc : bx c) (h : pC 12 [.ref 135] w (kI fun u2 w1 => Sh w1 ∧ pC 13 [.ref 135, iv u2, .ref (pSB + 5)] w1 (kI fun u4 w3 => Sh w3 ∧ (u4 = 0 → pC 13 [.ref 135, iv u2, .ref (pSB + 6)] w3 (kI fun u7 w6 => Sh w6 ∧ (u7 = 0 → pC 13 [.ref 135, iv u2, .ref (pSB + 7)] w6 (kI fun u10 w9 => Sh w9 ∧ (u10 = 0 → pC 13 [.ref 135, iv u2, .ref (pSB + 8)] w9 (kI fun u18 w17 => Sh w17 ∧ (u18 = 0 → ∀ w20 : PW, w20 = sI (sI w17 135 2 1) 135 3 u2 → Q (.inl (some (iv 0))) w20) ∧ (u18 ≠ 0 → pC 32 [.ref 135, .ref c] w17 (kI fun u22 w21 => Sh w21 ∧ (u22 = 0 ∨ u22 = 1) ∧ Q (.inl (some (iv u22))) w21)))) ∧ (u10 ≠ 0 → ((gI w9 (c + 4) 0) < 60 → pC 27 [.ref 135, .ref c] w9 (kI fun u25 w24 => Sh w24 ∧ (u25 = 0 ∨ u25 = 1) ∧ Q (.inl (some (iv u25))) w24)) ∧ (60 ≤ (gI w9 (c + 4) 0) → ∀ w26 : PW, w26 = sI (sI w9 135 2 3) 135 3 u2 → Q (.inl (some (iv 0))) w26)))) ∧ (u7 ≠ 0 → ((gI w6 c 4) < 12 → pC 25 [.ref 135, .ref c] w6 (kI fun u29 w28 => Sh w28 ∧ (u29 = 0 ∨ u29 = 1) ∧ Q (.inl (some (iv u29))) w28)) ∧ (12 ≤ (gI w6 c 4) → ∀ w30 : PW, w30 = sI (sI w6 135 2 3) 135 3 u2 → Q (.inl (some (iv 0))) w30)))) ∧ (u4 ≠ 0 → pC 21 [.ref 135, .ref c] w3 (kI fun u32 w31 => Sh w31 ∧ (u32 = 0 ∨ u32 = 1) ∧ Q (.inl (some (iv u32))) w31))))) : pC 33 [.ref 135, .ref c] w Q :=
  (pC_in (Nat.le_of_ble_eq_true rfl) rfl Q).mpr (v33_0 hs hc h)
/-! 34: PinBarrel$Reader.readInto(LPinBarrel$Box;)Z -/
theorem b34 : mB 34 = cX4_readInto := rfl
theorem r34 : mR 34 = (some .boolean) := rfl
theorem p34 (a b : Nat) : phi 34 a ≤ phi 34 b := Nat.le_refl 0
theorem d34_0 : decode cX4_readInto 0 = .ok (.aload_n 0, 1) := by decide +kernel
theorem d34_1 : decode cX4_readInto 1 = .ok (.iconst 0, 1) := by decide +kernel
theorem d34_2 : decode cX4_readInto 2 = .ok (.putfield 28, 3) := by decide +kernel
theorem d34_5 : decode cX4_readInto 5 = .ok (.aload_n 0, 1) := by decide +kernel
theorem d34_6 : decode cX4_readInto 6 = .ok (.iconst 0, 1) := by decide +kernel
theorem d34_7 : decode cX4_readInto 7 = .ok (.putfield 25, 3) := by decide +kernel
theorem d34_10 : decode cX4_readInto 10 = .ok (.aload_n 0, 1) := by decide +kernel
theorem d34_11 : decode cX4_readInto 11 = .ok (.iconst 0, 1) := by decide +kernel
theorem d34_12 : decode cX4_readInto 12 = .ok (.putfield 19, 3) := by decide +kernel
theorem d34_15 : decode cX4_readInto 15 = .ok (.aload_n 0, 1) := by decide +kernel
theorem d34_16 : decode cX4_readInto 16 = .ok (.iconst 0, 1) := by decide +kernel
theorem d34_17 : decode cX4_readInto 17 = .ok (.putfield 22, 3) := by decide +kernel
theorem d34_20 : decode cX4_readInto 20 = .ok (.aload_n 0, 1) := by decide +kernel
theorem d34_21 : decode cX4_readInto 21 = .ok (.aload_n 1, 1) := by decide +kernel
theorem d34_22 : decode cX4_readInto 22 = .ok (.invokevirtual 33, 3) := by decide +kernel
theorem d34_25 : decode cX4_readInto 25 = .ok (.ifCond .ne 5, 3) := by decide +kernel
theorem d34_28 : decode cX4_readInto 28 = .ok (.iconst 0, 1) := by decide +kernel
theorem d34_29 : decode cX4_readInto 29 = .ok (.ireturn, 1) := by decide +kernel
theorem d34_30 : decode cX4_readInto 30 = .ok (.iconst 0, 1) := by decide +kernel
theorem d34_31 : decode cX4_readInto 31 = .ok (.istore_n 2, 1) := by decide +kernel
theorem d34_32 : decode cX4_readInto 32 = .ok (.iload_n 2, 1) := by decide +kernel
theorem d34_33 : decode cX4_readInto 33 = .ok (.aload_n 0, 1) := by decide +kernel
theorem d34_34 : decode cX4_readInto 34 = .ok (.getfield 15, 3) := by decide +kernel
theorem d34_37 : decode cX4_readInto 37 = .ok (.if_icmp .gt 80, 3) := by decide +kernel
theorem d34_40 : decode cX4_readInto 40 = .ok (.aload_n 0, 1) := by decide +kernel
theorem d34_41 : decode cX4_readInto 41 = .ok (.invokevirtual 37, 3) := by decide +kernel
theorem d34_44 : decode cX4_readInto 44 = .ok (.aload_n 0, 1) := by decide +kernel
theorem d34_45 : decode cX4_readInto 45 = .ok (.getfield 28, 3) := by decide +kernel
theorem d34_48 : decode cX4_readInto 48 = .ok (.aload_n 0, 1) := by decide +kernel
theorem d34_49 : decode cX4_readInto 49 = .ok (.getfield 15, 3) := by decide +kernel
theorem d34_52 : decode cX4_readInto 52 = .ok (.if_icmp .lt 5, 3) := by decide +kernel
theorem d34_55 : decode cX4_readInto 55 = .ok (.iconst 1, 1) := by decide +kernel
theorem d34_56 : decode cX4_readInto 56 = .ok (.ireturn, 1) := by decide +kernel
theorem d34_57 : decode cX4_readInto 57 = .ok (.aload_n 0, 1) := by decide +kernel
theorem d34_58 : decode cX4_readInto 58 = .ok (.getfield 9, 3) := by decide +kernel
theorem d34_61 : decode cX4_readInto 61 = .ok (.aload_n 0, 1) := by decide +kernel
theorem d34_62 : decode cX4_readInto 62 = .ok (.getfield 28, 3) := by decide +kernel
theorem d34_65 : decode cX4_readInto 65 = .ok (.caload, 1) := by decide +kernel
theorem d34_66 : decode cX4_readInto 66 = .ok (.bipush 59, 2) := by decide +kernel
theorem d34_68 : decode cX4_readInto 68 = .ok (.if_icmp .eq 13, 3) := by decide +kernel
theorem d34_71 : decode cX4_readInto 71 = .ok (.aload_n 0, 1) := by decide +kernel
theorem d34_72 : decode cX4_readInto 72 = .ok (.iconst 1, 1) := by decide +kernel
theorem d34_73 : decode cX4_readInto 73 = .ok (.aload_n 0, 1) := by decide +kernel
theorem d34_74 : decode cX4_readInto 74 = .ok (.getfield 28, 3) := by decide +kernel
theorem d34_77 : decode cX4_readInto 77 = .ok (.invokevirtual 40, 3) := by decide +kernel
theorem d34_80 : decode cX4_readInto 80 = .ok (.ireturn, 1) := by decide +kernel
theorem d34_81 : decode cX4_readInto 81 = .ok (.aload_n 0, 1) := by decide +kernel
theorem d34_82 : decode cX4_readInto 82 = .ok (.dup, 1) := by decide +kernel
theorem d34_83 : decode cX4_readInto 83 = .ok (.getfield 28, 3) := by decide +kernel
theorem d34_86 : decode cX4_readInto 86 = .ok (.iconst 1, 1) := by decide +kernel
theorem d34_87 : decode cX4_readInto 87 = .ok (.iadd, 1) := by decide +kernel
theorem d34_88 : decode cX4_readInto 88 = .ok (.putfield 28, 3) := by decide +kernel
theorem d34_91 : decode cX4_readInto 91 = .ok (.aload_n 0, 1) := by decide +kernel
theorem d34_92 : decode cX4_readInto 92 = .ok (.dup, 1) := by decide +kernel
theorem d34_93 : decode cX4_readInto 93 = .ok (.getfield 25, 3) := by decide +kernel
theorem d34_96 : decode cX4_readInto 96 = .ok (.iconst 1, 1) := by decide +kernel
theorem d34_97 : decode cX4_readInto 97 = .ok (.iadd, 1) := by decide +kernel
theorem d34_98 : decode cX4_readInto 98 = .ok (.putfield 25, 3) := by decide +kernel
theorem d34_101 : decode cX4_readInto 101 = .ok (.aload_n 0, 1) := by decide +kernel
theorem d34_102 : decode cX4_readInto 102 = .ok (.aload_n 1, 1) := by decide +kernel
theorem d34_103 : decode cX4_readInto 103 = .ok (.invokevirtual 44, 3) := by decide +kernel
theorem d34_106 : decode cX4_readInto 106 = .ok (.ifCond .ne 5, 3) := by decide +kernel
theorem d34_109 : decode cX4_readInto 109 = .ok (.iconst 0, 1) := by decide +kernel
theorem d34_110 : decode cX4_readInto 110 = .ok (.ireturn, 1) := by decide +kernel
theorem d34_111 : decode cX4_readInto 111 = .ok (.iinc 2 1, 3) := by decide +kernel
theorem d34_114 : decode cX4_readInto 114 = .ok (.goto (-82), 3) := by decide +kernel
theorem d34_117 : decode cX4_readInto 117 = .ok (.iconst 1, 1) := by decide +kernel
theorem d34_118 : decode cX4_readInto 118 = .ok (.ireturn, 1) := by decide +kernel
theorem v34_0 {w : PW} {Q : PO → PW → Prop} {c : Nat} (hs : Sh w) (hc : bx c) (h : ∀ w1 : PW, w1 = sI w 135 5 0 → ∀ w2 : PW, w2 = sI w1 135 4 0 → ∀ w3 : PW, w3 = sI w2 135 2 0 → ∀ w4 : PW, w4 = sI w3 135 3 0 → pC 20 [.ref 135, .ref c] w4 (kI fun u6 w5 => Sh w5 ∧ (u6 ≠ 0 → pX 34 32 [some (.ref 135), some (.ref c), some (iv 0)] [] w5 Q) ∧ (u6 = 0 → Q (.inl (some (iv 0))) w5))) : pX 34 0 [some (.ref 135), some (.ref c), none] [] w Q :=
  w_f b34 d34_0 rfl rfl rfl <| w_f b34 d34_1 rfl rfl rfl <| w_pi b34 d34_2 rfl rfl hs (tlt 135 rfl) tbC_135 rfl rfl rfl <| w_f b34 d34_5 rfl rfl rfl <| w_f b34 d34_6 rfl rfl rfl <| w_pi b34 d34_7 rfl rfl (Sh_sI hs (slt_o tbC_135 rfl)) (tlt 135 rfl) tbC_135 rfl rfl rfl <| w_f b34 d34_10 rfl rfl rfl <| w_f b34 d34_11 rfl rfl rfl <| w_pi b34 d34_12 rfl rfl (Sh_sI (Sh_sI hs (slt_o tbC_135 rfl)) (slt_o tbC_135 rfl)) (tlt 135 rfl) tbC_135 rfl rfl rfl <| w_f b34 d34_15 rfl rfl rfl <| w_f b34 d34_16 rfl rfl rfl <| w_pi b34 d34_17 rfl rfl (Sh_sI (Sh_sI (Sh_sI hs (slt_o tbC_135 rfl)) (slt_o tbC_135 rfl)) (slt_o tbC_135 rfl)) (tlt 135 rfl) tbC_135 rfl rfl rfl <| w_f b34 d34_20 rfl rfl rfl <| w_f b34 d34_21 rfl rfl rfl <| w_c b34 d34_22 rfl (pcl_v (n := 1) rfl rfl rfl (by decide +kernel) (sh_isOb (Sh_sI (Sh_sI (Sh_sI (Sh_sI hs (slt_o tbC_135 rfl)) (slt_o tbC_135 rfl)) (slt_o tbC_135 rfl)) (slt_o tbC_135 rfl)) (tlt 135 rfl) tbC_135) rfl rfl) rfl _ (hK_I fun u6 w5 hbu6 hkw5 => w_ifne b34 d34_25 rfl rfl (p34 _ _) hbu6 (fun c7 => w_f b34 d34_30 rfl rfl rfl <| w_f b34 d34_31 rfl rfl rfl <| (hkw5.2.1 c7)) (fun c7 => w_f b34 d34_28 rfl rfl rfl <| w_rz b34 d34_29 r34 (by decide) (hkw5.2.2 c7))) ((((h _ rfl) _ rfl) _ rfl) _ rfl)
theorem e34 {w : PW} {Q : PO → PW → Prop} {c : Nat} (hs : Sh w) (hc : bx c) (h : ∀ w1 : PW, w1 = sI w 135 5 0 → ∀ w2 : PW, w2 = sI w1 135 4 0 → ∀ w3 : PW, w3 = sI w2 135 2 0 → ∀ w4 : PW, w4 = sI w3 135 3 0 → pC 20 [.ref 135, .ref c] w4 (kI fun u6 w5 => Sh w5 ∧ (u6 ≠ 0 → pX 34 32 [some (.ref 135), some (.ref c), some (iv 0)] [] w5 Q) ∧ (u6 = 0 → Q (.inl (some (iv 0))) w5))) : pC 34 [.ref 135, .ref c] w Q :=
  (pC_in (Nat.le_of_ble_eq_true rfl) rfl Q).mpr (v34_0 hs hc h)
theorem v34_32 {w : PW} {Q : PO → PW → Prop} {c : Nat} {x2 : Int} (hs : Sh w) (hc : bx c) (hx2 : bd x2) (h : ((gI w 135 1) < x2 → Q (.inl (some (iv 1))) w) ∧ (x2 ≤ (gI w 135 1) → pC 11 [.ref 135] w (kV fun w2 => Sh w2 ∧ ((gI w2 135 5) < (gI w2 135 1) → (0 ≤ (gI w2 135 5) ∧ (gI w2 135 5) < 700) ∧ ((gI w2 136 (gI w2 135 5).toNat) = 59 → ∀ w6 : PW, w6 = sI w2 135 5 ((gI w2 135 5) + 1) → ∀ w7 : PW, w7 = sI w6 135 4 ((gI w6 135 4) + 1) → pC 33 [.ref 135, .ref c] w7 (kI fun u9 w8 => Sh w8 ∧ (u9 ≠ 0 → pX 34 32 [some (.ref 135), some (.ref c), some (iv (x2 + 1))] [] w8 Q) ∧ (u9 = 0 → Q (.inl (some (iv 0))) w8))) ∧ ((gI w2 136 (gI w2 135 5).toNat) ≠ 59 → ∀ w11 : PW, w11 = sI (sI w2 135 2 1) 135 3 (gI w2 135 5) → Q (.inl (some (iv 0))) w11)) ∧ ((gI w2 135 1) ≤ (gI w2 135 5) → Q (.inl (some (iv 1))) w2)))) : pX 34 32 [some (.ref 135), some (.ref c), some (iv x2)] [] w Q :=
  w_f b34 d34_32 rfl rfl rfl <| w_f b34 d34_33 rfl rfl rfl <| w_gi b34 d34_34 rfl rfl hs (tlt 135 rfl) tbC_135 rfl <| w_icgt b34 d34_37 rfl rfl (p34 _ _) hx2 (bd_gI _ _ _) (fun c1 => w_f b34 d34_117 rfl rfl rfl <| w_rz b34 d34_118 r34 (by decide) (h.1 c1)) (fun c1 => w_f b34 d34_40 rfl rfl rfl <| w_c b34 d34_41 rfl (pcl_v (n := 0) rfl rfl rfl (by decide +kernel) (sh_isOb hs (tlt 135 rfl) tbC_135) rfl rfl) rfl _ (hK_V fun w2 hkw2 => w_f b34 d34_44 rfl rfl rfl <| w_gi b34 d34_45 rfl rfl hkw2.1 (tlt 135 rfl) tbC_135 rfl <| w_f b34 d34_48 rfl rfl rfl <| w_gi b34 d34_49 rfl rfl hkw2.1 (tlt 135 rfl) tbC_135 rfl <| w_iclt b34 d34_52 rfl rfl (p34 _ _) (bd_gI _ _ _) (bd_gI _ _ _) (fun c4 => w_f b34 d34_57 rfl rfl rfl <| w_gr b34 d34_58 rfl rfl hkw2.1 (tlt 135 rfl) tbC_135 rfl (by decide) <| w_f b34 d34_61 rfl rfl rfl <| w_gi b34 d34_62 rfl rfl hkw2.1 (tlt 135 rfl) tbC_135 rfl <| w_cal b34 d34_65 rfl hkw2.1 (tlt 136 rfl) tbC_136 (bdix (n := 700) (hkw2.2.1 c4).1 rfl) (hkw2.2.1 c4).1 <| w_f b34 d34_66 rfl rfl rfl <| w_iceq b34 d34_68 rfl rfl (p34 _ _) (bd_gI _ _ _) ⟨by decide, by decide⟩ (fun c5 => w_f b34 d34_81 rfl rfl rfl <| w_f b34 d34_82 rfl rfl rfl <| w_gi b34 d34_83 rfl rfl hkw2.1 (tlt 135 rfl) tbC_135 rfl <| w_f b34 d34_86 rfl rfl rfl <| w_f b34 d34_87 rfl (pf_iadd _ 1) rfl <| w_pi b34 d34_88 rfl rfl hkw2.1 (tlt 135 rfl) tbC_135 rfl rfl rfl <| w_f b34 d34_91 rfl rfl rfl <| w_f b34 d34_92 rfl rfl rfl <| w_gi b34 d34_93 rfl rfl (Sh_sI hkw2.1 (slt_o tbC_135 rfl)) (tlt 135 rfl) tbC_135 rfl <| w_f b34 d34_96 rfl rfl rfl <| w_f b34 d34_97 rfl (pf_iadd _ 1) rfl <| w_pi b34 d34_98 rfl rfl (Sh_sI hkw2.1 (slt_o tbC_135 rfl)) (tlt 135 rfl) tbC_135 rfl rfl rfl <| w_f b34 d34_101 rfl rfl rfl <| w_f b34 d34_102 rfl rfl rfl <| w_c b34 d34_103 rfl (pcl_v (n := 1) rfl rfl rfl (by decide +kernel) (sh_isOb (Sh_sI (Sh_sI hkw2.1 (slt_o tbC_135 rfl)) (slt_o tbC_135 rfl)) (tlt 135 rfl) tbC_135) rfl rfl) rfl _ (hK_I fun u9 w8 hbu9 hkw8 => w_ifne b34 d34_106 rfl rfl (p34 _ _) hbu9 (fun c10 => w_f b34 d34_111 rfl (pf_iinc rfl rfl) rfl <| w_j b34 d34_114 rfl (p34 _ _) <| (hkw8.2.1 c10)) (fun c10 => w_f b34 d34_109 rfl rfl rfl <| w_rz b34 d34_110 r34 (by decide) (hkw8.2.2 c10))) ((((hkw2.2.1 c4).2.1 c5) _ rfl) _ rfl)) (fun c5 => w_f b34 d34_71 rfl rfl rfl <| w_f b34 d34_72 rfl rfl rfl <| w_f b34 d34_73 rfl rfl rfl <| w_gi b34 d34_74 rfl rfl hkw2.1 (tlt 135 rfl) tbC_135 rfl <| w_cc b34 d34_77 rfl (pcl_v (n := 2) rfl rfl rfl (by decide +kernel) (sh_isOb hkw2.1 (tlt 135 rfl) tbC_135) rfl rfl) rfl <| c14 hkw2.1 ⟨by decide, by decide⟩ (bd_gI _ _ _) <| w_rz b34 d34_80 r34 (by decide) (((hkw2.2.1 c4).2.2 c5) _ rfl))) (fun c4 => w_f b34 d34_55 rfl rfl rfl <| w_rz b34 d34_56 r34 (by decide) (hkw2.2.2 c4))) (h.2 c1))
/-! 39: PinBarrel.load()I -/
theorem b39 : mB 39 = cX8_load := rfl
theorem r39 : mR 39 = (some .int) := rfl
theorem p39 (a b : Nat) : phi 39 a ≤ phi 39 b := Nat.le_refl 0
theorem d39_0 : decode cX8_load 0 = .ok (.aload_n 0, 1) := by decide +kernel
theorem d39_1 : decode cX8_load 1 = .ok (.getfield 37, 3) := by decide +kernel
theorem d39_4 : decode cX8_load 4 = .ok (.aload_n 0, 1) := by decide +kernel
theorem d39_5 : decode cX8_load 5 = .ok (.getfield 16, 3) := by decide +kernel
theorem d39_8 : decode cX8_load 8 = .ok (.invokevirtual 69, 3) := by decide +kernel
theorem d39_11 : decode cX8_load 11 = .ok (.istore_n 1, 1) := by decide +kernel
theorem d39_12 : decode cX8_load 12 = .ok (.aload_n 0, 1) := by decide +kernel
theorem d39_13 : decode cX8_load 13 = .ok (.getfield 37, 3) := by decide +kernel
theorem d39_16 : decode cX8_load 16 = .ok (.iconst 0, 1) := by decide +kernel
theorem d39_17 : decode cX8_load 17 = .ok (.putfield 66, 3) := by decide +kernel
theorem d39_20 : decode cX8_load 20 = .ok (.aload_n 0, 1) := by decide +kernel
theorem d39_21 : decode cX8_load 21 = .ok (.aload_n 0, 1) := by decide +kernel
theorem d39_22 : decode cX8_load 22 = .ok (.getfield 37, 3) := by decide +kernel
theorem d39_25 : decode cX8_load 25 = .ok (.getfield 73, 3) := by decide +kernel
theorem d39_28 : decode cX8_load 28 = .ok (.putfield 55, 3) := by decide +kernel
theorem d39_31 : decode cX8_load 31 = .ok (.iload_n 1, 1) := by decide +kernel
theorem d39_32 : decode cX8_load 32 = .ok (.ifCond .ne 25, 3) := by decide +kernel
theorem d39_35 : decode cX8_load 35 = .ok (.aload_n 0, 1) := by decide +kernel
theorem d39_36 : decode cX8_load 36 = .ok (.aload_n 0, 1) := by decide +kernel
theorem d39_37 : decode cX8_load 37 = .ok (.getfield 37, 3) := by decide +kernel
theorem d39_40 : decode cX8_load 40 = .ok (.getfield 74, 3) := by decide +kernel
theorem d39_43 : decode cX8_load 43 = .ok (.putfield 59, 3) := by decide +kernel
theorem d39_46 : decode cX8_load 46 = .ok (.bipush (-100), 2) := by decide +kernel
theorem d39_48 : decode cX8_load 48 = .ok (.aload_n 0, 1) := by decide +kernel
theorem d39_49 : decode cX8_load 49 = .ok (.getfield 37, 3) := by decide +kernel
theorem d39_52 : decode cX8_load 52 = .ok (.getfield 77, 3) := by decide +kernel
theorem d39_55 : decode cX8_load 55 = .ok (.isub, 1) := by decide +kernel
theorem d39_56 : decode cX8_load 56 = .ok (.ireturn, 1) := by decide +kernel
theorem d39_57 : decode cX8_load 57 = .ok (.aload_n 0, 1) := by decide +kernel
theorem d39_58 : decode cX8_load 58 = .ok (.iconst (-1), 1) := by decide +kernel
theorem d39_59 : decode cX8_load 59 = .ok (.putfield 59, 3) := by decide +kernel
theorem d39_62 : decode cX8_load 62 = .ok (.aload_n 0, 1) := by decide +kernel
theorem d39_63 : decode cX8_load 63 = .ok (.getfield 12, 3) := by decide +kernel
theorem d39_66 : decode cX8_load 66 = .ok (.aload_n 0, 1) := by decide +kernel
theorem d39_67 : decode cX8_load 67 = .ok (.getfield 16, 3) := by decide +kernel
theorem d39_70 : decode cX8_load 70 = .ok (.invokevirtual 80, 3) := by decide +kernel
theorem d39_73 : decode cX8_load 73 = .ok (.aload_n 0, 1) := by decide +kernel
theorem d39_74 : decode cX8_load 74 = .ok (.getfield 22, 3) := by decide +kernel
theorem d39_77 : decode cX8_load 77 = .ok (.invokevirtual 84, 3) := by decide +kernel
theorem d39_80 : decode cX8_load 80 = .ok (.aload_n 0, 1) := by decide +kernel
theorem d39_81 : decode cX8_load 81 = .ok (.getfield 12, 3) := by decide +kernel
theorem d39_84 : decode cX8_load 84 = .ok (.getfield 87, 3) := by decide +kernel
theorem d39_87 : decode cX8_load 87 = .ok (.getfield 91, 3) := by decide +kernel
theorem d39_90 : decode cX8_load 90 = .ok (.ireturn, 1) := by decide +kernel
theorem v39_0 {w : PW} {Q : PO → PW → Prop}  (hs : Sh w)  (h : pC 34 [.ref 135, .ref 14] w (kI fun u2 w1 => Sh w1 ∧ ∀ w3 : PW, w3 = sI w1 135 1 0 → ∀ w4 : PW, w4 = sI w3 0 8 (gI w3 135 2) → (u2 ≠ 0 → ∀ w6 : PW, w6 = sI w4 0 9 ((-1)) → pC 37 [.ref 1, .ref 14] w6 (kV fun w7 => Sh w7 ∧ pC 38 [.ref 27] w7 (kV fun w9 => Sh w9 ∧ Q (.inl (some (iv (gI w9 (1 + 4) 0)))) w9))) ∧ (u2 = 0 → ∀ w11 : PW, w11 = sI w4 0 9 (gI w4 135 4) → Q (.inl (some (iv (((-100)) - (gI w11 135 3))))) w11))) : pX 39 0 [some (.ref 0), none] [] w Q :=
  w_f b39 d39_0 rfl rfl rfl <| w_gr b39 d39_1 rfl rfl hs (tlt 0 rfl) tbC_0 rfl (by decide) <| w_f b39 d39_4 rfl rfl rfl <| w_gr b39 d39_5 rfl rfl hs (tlt 0 rfl) tbC_0 rfl (bxr0 (bxc 14 rfl)) <| w_c b39 d39_8 rfl (pcl_v (n := 1) rfl rfl rfl (by decide +kernel) (sh_isOb hs (tlt 135 rfl) tbC_135) rfl rfl) rfl _ (hK_I fun u2 w1 hbu2 hkw1 => w_f b39 d39_11 rfl rfl rfl <| w_f b39 d39_12 rfl rfl rfl <| w_gr b39 d39_13 rfl rfl hkw1.1 (tlt 0 rfl) tbC_0 rfl (by decide) <| w_f b39 d39_16 rfl rfl rfl <| w_pi b39 d39_17 rfl rfl hkw1.1 (tlt 135 rfl) tbC_135 rfl rfl rfl <| w_f b39 d39_20 rfl rfl rfl <| w_f b39 d39_21 rfl rfl rfl <| w_gr b39 d39_22 rfl rfl (Sh_sI hkw1.1 (slt_o tbC_135 rfl)) (tlt 0 rfl) tbC_0 rfl (by decide) <| w_gi b39 d39_25 rfl rfl (Sh_sI hkw1.1 (slt_o tbC_135 rfl)) (tlt 135 rfl) tbC_135 rfl <| w_pi b39 d39_28 rfl rfl (Sh_sI hkw1.1 (slt_o tbC_135 rfl)) (tlt 0 rfl) tbC_0 rfl rfl rfl <| w_f b39 d39_31 rfl rfl rfl <| w_ifne b39 d39_32 rfl rfl (p39 _ _) hbu2 (fun c5 => w_f b39 d39_57 rfl rfl rfl <| w_f b39 d39_58 rfl rfl rfl <| w_pi b39 d39_59 rfl rfl (Sh_sI (Sh_sI hkw1.1 (slt_o tbC_135 rfl)) (slt_o tbC_0 rfl)) (tlt 0 rfl) tbC_0 rfl rfl rfl <| w_f b39 d39_62 rfl rfl rfl <| w_gr b39 d39_63 rfl rfl (Sh_sI (Sh_sI (Sh_sI hkw1.1 (slt_o tbC_135 rfl)) (slt_o tbC_0 rfl)) (slt_o tbC_0 rfl)) (tlt 0 rfl) tbC_0 rfl (bxr0 (bxc 1 rfl)) <| w_f b39 d39_66 rfl rfl rfl <| w_gr b39 d39_67 rfl rfl (Sh_sI (Sh_sI (Sh_sI hkw1.1 (slt_o tbC_135 rfl)) (slt_o tbC_0 rfl)) (slt_o tbC_0 rfl)) (tlt 0 rfl) tbC_0 rfl (bxr0 (bxc 14 rfl)) <| w_c b39 d39_70 rfl (pcl_v (n := 1) rfl rfl rfl (by decide +kernel) (sh_isOb (Sh_sI (Sh_sI (Sh_sI hkw1.1 (slt_o tbC_135 rfl)) (slt_o tbC_0 rfl)) (slt_o tbC_0 rfl)) (bx00 (bxc 1 rfl)) (tb0 (bxc 1 rfl))) rfl rfl) rfl _ (hK_V fun w7 hkw7 => w_f b39 d39_73 rfl rfl rfl <| w_gr b39 d39_74 rfl rfl hkw7.1 (tlt 0 rfl) tbC_0 rfl (by decide) <| w_c b39 d39_77 rfl (pcl_v (n := 0) rfl rfl rfl (by decide +kernel) (sh_isOb hkw7.1 (tlt 27 rfl) tbC_27) rfl rfl) rfl _ (hK_V fun w9 hkw9 => w_f b39 d39_80 rfl rfl rfl <| w_gr b39 d39_81 rfl rfl hkw9.1 (tlt 0 rfl) tbC_0 rfl (bxr0 (bxc 1 rfl)) <| w_gr b39 d39_84 rfl rfl hkw9.1 (bx00 (bxc 1 rfl)) (tb0 (bxc 1 rfl)) rfl (bxr (bxc 1 rfl) 4 rfl) <| w_gi b39 d39_87 rfl rfl hkw9.1 (bxk (bxc 1 rfl) 4 rfl) (tb4 (bxc 1 rfl)) rfl <| w_ri b39 d39_90 r39 hkw9.2) hkw7.2) ((((hkw1.2 _ rfl) _ rfl).1 c5) _ rfl)) (fun c5 => w_f b39 d39_35 rfl rfl rfl <| w_f b39 d39_36 rfl rfl rfl <| w_gr b39 d39_37 rfl rfl (Sh_sI (Sh_sI hkw1.1 (slt_o tbC_135 rfl)) (slt_o tbC_0 rfl)) (tlt 0 rfl) tbC_0 rfl (by decide) <| w_gi b39 d39_40 rfl rfl (Sh_sI (Sh_sI hkw1.1 (slt_o tbC_135 rfl)) (slt_o tbC_0 rfl)) (tlt 135 rfl) tbC_135 rfl <| w_pi b39 d39_43 rfl rfl (Sh_sI (Sh_sI hkw1.1 (slt_o tbC_135 rfl)) (slt_o tbC_0 rfl)) (tlt 0 rfl) tbC_0 rfl rfl rfl <| w_f b39 d39_46 rfl (pf_bip (by decide +kernel)) rfl <| w_f b39 d39_48 rfl rfl rfl <| w_gr b39 d39_49 rfl rfl (Sh_sI (Sh_sI (Sh_sI hkw1.1 (slt_o tbC_135 rfl)) (slt_o tbC_0 rfl)) (slt_o tbC_0 rfl)) (tlt 0 rfl) tbC_0 rfl (by decide) <| w_gi b39 d39_52 rfl rfl (Sh_sI (Sh_sI (Sh_sI hkw1.1 (slt_o tbC_135 rfl)) (slt_o tbC_0 rfl)) (slt_o tbC_0 rfl)) (tlt 135 rfl) tbC_135 rfl <| w_f b39 d39_55 rfl (pf_isub ((-100)) _) rfl <| w_ri b39 d39_56 r39 ((((hkw1.2 _ rfl) _ rfl).2 c5) _ rfl))) h
theorem e39 {w : PW} {Q : PO → PW → Prop}  (hs : Sh w)  (h : pC 34 [.ref 135, .ref 14] w (kI fun u2 w1 => Sh w1 ∧ ∀ w3 : PW, w3 = sI w1 135 1 0 → ∀ w4 : PW, w4 = sI w3 0 8 (gI w3 135 2) → (u2 ≠ 0 → ∀ w6 : PW, w6 = sI w4 0 9 ((-1)) → pC 37 [.ref 1, .ref 14] w6 (kV fun w7 => Sh w7 ∧ pC 38 [.ref 27] w7 (kV fun w9 => Sh w9 ∧ Q (.inl (some (iv (gI w9 (1 + 4) 0)))) w9))) ∧ (u2 = 0 → ∀ w11 : PW, w11 = sI w4 0 9 (gI w4 135 4) → Q (.inl (some (iv (((-100)) - (gI w11 135 3))))) w11))) : pC 39 [.ref 0] w Q :=
  (pC_in (Nat.le_of_ble_eq_true rfl) rfl Q).mpr (v39_0 hs  h)
def sOth (l : List Nat) (p : Nat) (m : Row) : RSR :=
  if sIsW l (sW0 l p) (sW1 l p) wSpe = true then sSpe l (sW1 l p) m
  else if sIsW l (sW0 l p) (sW1 l p) wToo = true then (if m 4 < 12 then sToo l (sW1 l p) m else .inl (3, sW0 l p))
  else if sIsW l (sW0 l p) (sW1 l p) wNot = true then (if m 5 < 60 then sNot l (sW1 l p) m else .inl (3, sW0 l p))
  else if sIsW l (sW0 l p) (sW1 l p) wPin = true then sPin l (sW1 l p) m
  else .inl (1, sW0 l p)
section RSU
variable {w : PW} {Q : PO → PW → Prop} {l : List Nat} {p c : Nat} {m : Row} {a b s : Int}
theorem c33 (hs : Sh w) (hR : RD w l p a b s) (hB : BR w c m) (hE : ∀ kk aa, sOth l p m = .inl (kk, aa) → ∀ w2 q, Sh w2 → RD w2 l q kk (aa : Nat) s → RZ c w w2 → Q (.inl (some (iv 0))) w2) (hV : ∀ q m2, sOth l p m = .inr (q, m2) → ∀ w2, Sh w2 → RD w2 l q a b s → BR w2 c m2 → RZ c w w2 → Q (.inl (some (iv 1))) w2) : pC 33 [.ref 135, .ref c] w Q := by
  have h5 := hR.2.2.2.2.2.1
  have h7 := hR.2.2.2.2.2.2.1
  have h1 : p ≤ sW0 l p ∧ sW0 l p ≤ l.length := sWh_bd (P := isSp) h5
  have h2 : sW0 l p ≤ sW1 l p ∧ sW1 l p ≤ l.length := sWh_bd (P := isAz) h1.2
  have b1 : bd 1 := ⟨by decide, by decide⟩
  have hc := hB.bx
  unfold sOth at hE hV
  refine e33 hs hc (c12 hs hR (fun w2 s2 R2 F2 => kI_iv (bdk (by omega)) ⟨s2, c13 s2 R2 (by decide) h2.1 ?_⟩))
  have hB2 := F2.br hB
  rw [wds.2.1]
  by_cases q1 : sIsW l (sW0 l p) (sW1 l p) wSpe = true
  · rw [if_pos q1] at hE hV
    rw [if_pos q1]
    refine kI_iv b1 ⟨s2, fun z => absurd z (by decide), fun _ => c21 s2 R2 hB2 (fun kk aa e w3 p3 s3 R3 F3 => kI_iv bd0 ⟨s3, Or.inl rfl, hE kk aa e w3 p3 s3 R3 (F2.z.tr F3)⟩) (fun q m2 e w3 s3 R3 b3 F3 => kI_iv b1 ⟨s3, Or.inr rfl, hV q m2 e w3 s3 R3 b3 (F2.z.tr F3)⟩)⟩
  rw [if_neg q1] at hE hV
  rw [if_neg q1]
  refine kI_iv bd0 ⟨s2, fun _ => c13 s2 R2 (by decide) h2.1 ?_, fun z => absurd rfl z⟩
  rw [wds.2.2.1]
  by_cases q2 : sIsW l (sW0 l p) (sW1 l p) wToo = true
  · rw [if_pos q2] at hE hV
    rw [if_pos q2]
    refine kI_iv b1 ⟨s2, fun z => absurd z (by decide), fun _ => ?_⟩
    rw [hB2.t]
    refine ⟨fun q => ?_, fun q w3 e3 => ?_⟩
    · rw [if_pos q] at hE hV
      exact c25 s2 R2 hB2 q (fun kk aa e w3 p3 s3 R3 F3 => kI_iv bd0 ⟨s3, Or.inl rfl, hE kk aa e w3 p3 s3 R3 (F2.z.tr F3)⟩) (fun q m2 e w3 s3 R3 b3 F3 => kI_iv b1 ⟨s3, Or.inr rfl, hV q m2 e w3 s3 R3 b3 (F2.z.tr F3)⟩)
    · rw [if_neg (by omega)] at hE
      obtain ⟨s3, R3, F3⟩ := R2.fail s2 ⟨by decide, by decide⟩ (bdk (by omega)) e3
      exact hE 3 _ rfl w3 _ s3 R3 (F2.tr F3).z
  rw [if_neg q2] at hE hV
  rw [if_neg q2]
  refine kI_iv bd0 ⟨s2, fun _ => c13 s2 R2 (by decide) h2.1 ?_, fun z => absurd rfl z⟩
  rw [wds.2.2.2.1]
  by_cases q3 : sIsW l (sW0 l p) (sW1 l p) wNot = true
  · rw [if_pos q3] at hE hV
    rw [if_pos q3]
    refine kI_iv b1 ⟨s2, fun z => absurd z (by decide), fun _ => ?_⟩
    rw [hB2.n]
    refine ⟨fun q => ?_, fun q w3 e3 => ?_⟩
    · rw [if_pos q] at hE hV
      exact c27 s2 R2 hB2 q (fun kk aa e w3 p3 s3 R3 F3 => kI_iv bd0 ⟨s3, Or.inl rfl, hE kk aa e w3 p3 s3 R3 (F2.z.tr F3)⟩) (fun q m2 e w3 s3 R3 b3 F3 => kI_iv b1 ⟨s3, Or.inr rfl, hV q m2 e w3 s3 R3 b3 (F2.z.tr F3)⟩)
    · rw [if_neg (by omega)] at hE
      obtain ⟨s3, R3, F3⟩ := R2.fail s2 ⟨by decide, by decide⟩ (bdk (by omega)) e3
      exact hE 3 _ rfl w3 _ s3 R3 (F2.tr F3).z
  rw [if_neg q3] at hE hV
  rw [if_neg q3]
  refine kI_iv bd0 ⟨s2, fun _ => c13 s2 R2 (by decide) h2.1 ?_, fun z => absurd rfl z⟩
  rw [wds.2.2.2.2]
  by_cases q4 : sIsW l (sW0 l p) (sW1 l p) wPin = true
  · rw [if_pos q4] at hE hV
    rw [if_pos q4]
    refine kI_iv b1 ⟨s2, fun z => absurd z (by decide), fun _ => c32 s2 R2 hB2 (fun kk aa e w3 p3 s3 R3 F3 => kI_iv bd0 ⟨s3, Or.inl rfl, hE kk aa e w3 p3 s3 R3 (F2.z.tr F3)⟩) (fun q m2 e w3 s3 R3 b3 F3 => kI_iv b1 ⟨s3, Or.inr rfl, hV q m2 e w3 s3 R3 b3 (F2.z.tr F3)⟩)⟩
  rw [if_neg q4] at hE
  rw [if_neg q4]
  refine kI_iv bd0 ⟨s2, fun _ w3 e3 => ?_, fun z => absurd rfl z⟩
  obtain ⟨s3, R3, F3⟩ := R2.fail s2 ⟨by decide, by decide⟩ (bdk (by omega)) e3
  exact hE 1 _ rfl w3 _ s3 R3 (F2.tr F3).z
/-- the statements after the first one: what fails, with its number; or the row -/
def sStm (l : List Nat) : Nat → Nat → Row → Nat → (Int × Nat × Nat) ⊕ Row
  | 0, _, m, _ => .inr m
  | f + 1, p, m, s => if sW0 l p < l.length then (if l.getD (sW0 l p) 0 = 59 then (match sOth l (sW0 l p + 1) m with
      | .inl e => .inl (e.1, e.2, s + 1)
      | .inr y => sStm l f y.1 y.2 (s + 1)) else .inl (1, sW0 l p, s)) else .inr m
def sLoad (l : List Nat) : (Int × Nat × Nat) ⊕ Row := match sBar l 0 with
  | .inl e => .inl (e.1, e.2, 0)
  | .inr y => sStm l (l.length + 1) y.1 y.2 0
theorem l34_32 : ∀ (f i : Nat) (w : PW) (p : Nat) (m : Row) (s : Nat), i + f = l.length + 1 → s ≤ i → Sh w → RD w l p a b (s : Nat) → BR w c m → (∀ kk aa ss, sStm l f p m s = .inl (kk, aa, ss) → ∀ w2 q, Sh w2 → RD w2 l q kk (aa : Nat) (ss : Nat) → RZ c w w2 → Q (.inl (some (iv 0))) w2) → (∀ m2, sStm l f p m s = .inr m2 → ∀ w2 q ss, Sh w2 → RD w2 l q a b ss → BR w2 c m2 → RZ c w w2 → Q (.inl (some (iv 1))) w2) → pX 34 32 [some (.ref 135), some (.ref c), some (iv (i : Nat))] [] w Q := by
  intro f
  induction f with
  | zero =>
    intro i w p m s hi hsi hs hR hB hE hV
    have h7 := hR.2.2.2.2.2.2.1
    refine v34_32 hs hB.bx (bdk (by omega)) ?_
    rw [hR.1]
    exact ⟨fun _ => hV m rfl w p _ hs hR hB RZ.rf, fun q => by omega⟩
  | succ f ih =>
    intro i w p m s hi hsi hs hR hB hE hV
    have h5 := hR.2.2.2.2.2.1
    have h7 := hR.2.2.2.2.2.2.1
    have h1 : p ≤ sW0 l p ∧ sW0 l p ≤ l.length := sWh_bd (P := isSp) h5
    refine v34_32 hs hB.bx (bdk (by omega)) ?_
    rw [hR.1]
    refine ⟨fun q => by omega, fun _ => c11 hs hR (fun w2 s2 R2 F2 => ⟨s2, ?_⟩)⟩
    have hp : RD w2 l (sW0 l p) a b (s : Nat) := R2
    rw [hp.1, hp.2.2.2.2.1]
    have hB2 := F2.br hB
    unfold sStm at hE hV
    refine ⟨fun q => ⟨⟨by omega, by omega⟩, ?_⟩, fun q => ?_⟩
    · have hc := hp.2.2.2.2.2.2.2 (sW0 l p) (by omega)
      rw [Int.toNat_natCast, hc.1]
      rw [if_pos (by omega)] at hE hV
      refine ⟨fun q2 w3 e3 w4 e4 => ?_, fun q2 w3 e3 => ?_⟩
      · rw [if_pos (by omega)] at hE hV
        obtain ⟨s3, R3, F3⟩ := hp.next s2 (by omega) e3
        rw [R3.2.2.2.1] at e4
        obtain ⟨s4, g4, -, k4⟩ := stI e4 s3 (by omega) (slt_o tbC_135 rfl) ⟨by omega, by omega⟩
        have R4 : RD w4 l (sW0 l p + 1) a b ((s + 1 : Nat) : Int) := by
          obtain ⟨g1, g2, g3, g5, g6, g7, g8, g9⟩ := R3
          exact ⟨by rw [g4, if_neg (by omega)]; exact g1, by rw [g4, if_neg (by omega)]; exact g2, by rw [g4, if_neg (by omega)]; exact g3, by rw [g4, if_pos ⟨rfl, rfl⟩]; rfl, by rw [g4, if_neg (by omega)]; exact g6, g7, g8, fun k hk => by rw [g4, if_neg (by omega)]; exact g9 k hk⟩
        have F4 : RX w w4 := F2.tr (F3.tr k4)
        refine c33 s4 R4 (F4.br hB) (fun kk aa e w5 p5 s5 R5 F5 => kI_iv bd0 ⟨s5, fun z => absurd rfl z, fun _ => ?_⟩) (fun q5 m5 e w5 s5 R5 b5 F5 => kI_iv ⟨by decide, by decide⟩ ⟨s5, fun _ => ?_, fun z => absurd z (by decide)⟩)
        · rw [e] at hE
          exact hE kk aa _ rfl w5 p5 s5 R5 (F4.z.tr F5)
        · rw [e] at hE hV
          exact ih (i + 1) w5 q5 m5 (s + 1) (by omega) (by omega) s5 R5 b5 (fun kk aa ss e2 w6 q6 s6 R6 F6 => hE kk aa ss e2 w6 q6 s6 R6 (F4.z.tr (F5.tr F6))) (fun m6 e2 w6 q6 ss s6 R6 b6 F6 => hV m6 e2 w6 q6 ss s6 R6 b6 (F4.z.tr (F5.tr F6)))
      · rw [if_neg (by omega)] at hE
        obtain ⟨s3, R3, F3⟩ := hp.fail s2 ⟨by decide, by decide⟩ (bdk (by omega)) e3
        exact hE 1 _ _ rfl w3 _ s3 R3 (F2.tr F3).z
    · rw [if_neg (by omega)] at hV
      exact hV m rfl w2 _ _ s2 hp hB2 F2.z
/-- the text that waits -/
def TX (w : PW) (l : List Nat) : Prop := gI w 135 1 = (l.length : Nat) ∧ l.length ≤ 700 ∧ ∀ k, k < l.length → gI w 136 k = ((l.getD k 0 : Nat) : Int) ∧ l.getD k 0 < 256
theorem c34 (hs : Sh w) (hc : bx c) (hR : TX w l) (hE : ∀ kk aa ss, sLoad l = .inl (kk, aa, ss) → ∀ w2 q, Sh w2 → RD w2 l q kk (aa : Nat) (ss : Nat) → RZ c w w2 → Q (.inl (some (iv 0))) w2) (hV : ∀ m2, sLoad l = .inr m2 → ∀ w2 q ss, Sh w2 → RD w2 l q 0 0 ss → BR w2 c m2 → RZ c w w2 → Q (.inl (some (iv 1))) w2) : pC 34 [.ref 135, .ref c] w Q := by
  refine e34 hs hc (fun w1 e1 w2 e2 w3 e3 w4 e4 => ?_)
  obtain ⟨h1, h7, h8⟩ := hR
  obtain ⟨s1, g1, -, k1⟩ := stI e1 hs (by omega) (slt_o tbC_135 rfl) bd0
  obtain ⟨s2, g2, -, k2⟩ := stI e2 s1 (by omega) (slt_o tbC_135 rfl) bd0
  obtain ⟨s3, g3, -, k3⟩ := stI e3 s2 (by omega) (slt_o tbC_135 rfl) bd0
  obtain ⟨s4, g4, -, k4⟩ := stI e4 s3 (by omega) (slt_o tbC_135 rfl) bd0
  have F4 : RX w w4 := fun x hx => by rw [k4 x hx, k3 x hx, k2 x hx, k1 x hx]
  have R4 : RD w4 l 0 0 0 ((0 : Nat) : Int) := ⟨by rw [g4, if_neg (by omega), g3, if_neg (by omega), g2, if_neg (by omega), g1, if_neg (by omega)]; exact h1, by rw [g4, if_neg (by omega), g3, if_pos ⟨rfl, rfl⟩], by rw [g4, if_pos ⟨rfl, rfl⟩], by rw [g4, if_neg (by omega), g3, if_neg (by omega), g2, if_pos ⟨rfl, rfl⟩]; rfl, by rw [g4, if_neg (by omega), g3, if_neg (by omega), g2, if_neg (by omega), g1, if_pos ⟨rfl, rfl⟩]; rfl, Nat.zero_le _, h7, fun k hk => by rw [gI_cell (F4 136 (by omega))]; exact h8 k hk⟩
  unfold sLoad at hE hV
  refine c20 s4 hc R4 (fun kk aa e w5 p5 s5 R5 F5 => kI_iv bd0 ⟨s5, fun z => absurd rfl z, fun _ => ?_⟩) (fun q5 m5 e w5 s5 R5 b5 F5 => kI_iv ⟨by decide, by decide⟩ ⟨s5, fun _ => ?_, fun z => absurd z (by decide)⟩)
  · rw [e] at hE
    exact hE kk aa _ rfl w5 p5 s5 R5 (F4.z.tr F5)
  · rw [e] at hE hV
    exact l34_32 (l.length + 1) 0 w5 q5 m5 0 (Nat.zero_add _) (Nat.le_refl _) s5 R5 b5 (fun kk aa ss e2 w6 q6 s6 R6 F6 => hE kk aa ss e2 w6 q6 s6 R6 (F4.z.tr (F5.tr F6))) (fun m6 e2 w6 q6 ss s6 R6 b6 F6 => hV m6 e2 w6 q6 ss s6 R6 b6 (F4.z.tr (F5.tr F6)))
end RSU

