/-! THE MODEL PLAYS -/
/-! 318: PinBarrelModel.plucks(I)V -/
theorem b318 : mB 318 = cX9_plucks := rfl
theorem r318 : mR 318 = none := rfl
theorem p318 (a b : Nat) : phi 318 a ≤ phi 318 b := Nat.le_refl 0
theorem d318_0 : decode cX9_plucks 0 = .ok (.aload_n 0, 1) := by decide +kernel
theorem d318_1 : decode cX9_plucks 1 = .ok (.iload_n 1, 1) := by decide +kernel
theorem d318_2 : decode cX9_plucks 2 = .ok (.iconst 4, 1) := by decide +kernel
theorem d318_3 : decode cX9_plucks 3 = .ok (.invokevirtual 219, 3) := by decide +kernel
theorem d318_6 : decode cX9_plucks 6 = .ok (.istore_n 2, 1) := by decide +kernel
theorem d318_7 : decode cX9_plucks 7 = .ok (.iload_n 2, 1) := by decide +kernel
theorem d318_8 : decode cX9_plucks 8 = .ok (.iconst (-1), 1) := by decide +kernel
theorem d318_9 : decode cX9_plucks 9 = .ok (.if_icmp .eq 24, 3) := by decide +kernel
theorem d318_12 : decode cX9_plucks 12 = .ok (.aload_n 0, 1) := by decide +kernel
theorem d318_13 : decode cX9_plucks 13 = .ok (.getfield 9, 3) := by decide +kernel
theorem d318_16 : decode cX9_plucks 16 = .ok (.bipush 8, 2) := by decide +kernel
theorem d318_18 : decode cX9_plucks 18 = .ok (.iaload, 1) := by decide +kernel
theorem d318_19 : decode cX9_plucks 19 = .ok (.iload_n 2, 1) := by decide +kernel
theorem d318_20 : decode cX9_plucks 20 = .ok (.isub, 1) := by decide +kernel
theorem d318_21 : decode cX9_plucks 21 = .ok (.aload_n 0, 1) := by decide +kernel
theorem d318_22 : decode cX9_plucks 22 = .ok (.iload_n 1, 1) := by decide +kernel
theorem d318_23 : decode cX9_plucks 23 = .ok (.invokevirtual 238, 3) := by decide +kernel
theorem d318_26 : decode cX9_plucks 26 = .ok (.if_icmp .ge 7, 3) := by decide +kernel
theorem d318_29 : decode cX9_plucks 29 = .ok (.iconst 1, 1) := by decide +kernel
theorem d318_30 : decode cX9_plucks 30 = .ok (.goto 4, 3) := by decide +kernel
theorem d318_33 : decode cX9_plucks 33 = .ok (.iconst 0, 1) := by decide +kernel
theorem d318_34 : decode cX9_plucks 34 = .ok (.istore_n 3, 1) := by decide +kernel
theorem d318_35 : decode cX9_plucks 35 = .ok (.sipush 443, 3) := by decide +kernel
theorem d318_38 : decode cX9_plucks 38 = .ok (.iconst 4, 1) := by decide +kernel
theorem d318_39 : decode cX9_plucks 39 = .ok (.aload_n 0, 1) := by decide +kernel
theorem d318_40 : decode cX9_plucks 40 = .ok (.getfield 9, 3) := by decide +kernel
theorem d318_43 : decode cX9_plucks 43 = .ok (.bipush 9, 2) := by decide +kernel
theorem d318_45 : decode cX9_plucks 45 = .ok (.iaload, 1) := by decide +kernel
theorem d318_46 : decode cX9_plucks 46 = .ok (.bipush 100, 2) := by decide +kernel
theorem d318_48 : decode cX9_plucks 48 = .ok (.irem, 1) := by decide +kernel
theorem d318_49 : decode cX9_plucks 49 = .ok (.imul, 1) := by decide +kernel
theorem d318_50 : decode cX9_plucks 50 = .ok (.iadd, 1) := by decide +kernel
theorem d318_51 : decode cX9_plucks 51 = .ok (.istore 4, 2) := by decide +kernel
theorem d318_53 : decode cX9_plucks 53 = .ok (.aload_n 0, 1) := by decide +kernel
theorem d318_54 : decode cX9_plucks 54 = .ok (.getfield 9, 3) := by decide +kernel
theorem d318_57 : decode cX9_plucks 57 = .ok (.iload 4, 2) := by decide +kernel
theorem d318_59 : decode cX9_plucks 59 = .ok (.aload_n 0, 1) := by decide +kernel
theorem d318_60 : decode cX9_plucks 60 = .ok (.getfield 9, 3) := by decide +kernel
theorem d318_63 : decode cX9_plucks 63 = .ok (.bipush 8, 2) := by decide +kernel
theorem d318_65 : decode cX9_plucks 65 = .ok (.iaload, 1) := by decide +kernel
theorem d318_66 : decode cX9_plucks 66 = .ok (.iastore, 1) := by decide +kernel
theorem d318_67 : decode cX9_plucks 67 = .ok (.aload_n 0, 1) := by decide +kernel
theorem d318_68 : decode cX9_plucks 68 = .ok (.getfield 9, 3) := by decide +kernel
theorem d318_71 : decode cX9_plucks 71 = .ok (.iload 4, 2) := by decide +kernel
theorem d318_73 : decode cX9_plucks 73 = .ok (.iconst 1, 1) := by decide +kernel
theorem d318_74 : decode cX9_plucks 74 = .ok (.iadd, 1) := by decide +kernel
theorem d318_75 : decode cX9_plucks 75 = .ok (.iload_n 1, 1) := by decide +kernel
theorem d318_76 : decode cX9_plucks 76 = .ok (.iastore, 1) := by decide +kernel
theorem d318_77 : decode cX9_plucks 77 = .ok (.aload_n 0, 1) := by decide +kernel
theorem d318_78 : decode cX9_plucks 78 = .ok (.getfield 9, 3) := by decide +kernel
theorem d318_81 : decode cX9_plucks 81 = .ok (.iload 4, 2) := by decide +kernel
theorem d318_83 : decode cX9_plucks 83 = .ok (.iconst 2, 1) := by decide +kernel
theorem d318_84 : decode cX9_plucks 84 = .ok (.iadd, 1) := by decide +kernel
theorem d318_85 : decode cX9_plucks 85 = .ok (.aload_n 0, 1) := by decide +kernel
theorem d318_86 : decode cX9_plucks 86 = .ok (.iload_n 1, 1) := by decide +kernel
theorem d318_87 : decode cX9_plucks 87 = .ok (.iconst 0, 1) := by decide +kernel
theorem d318_88 : decode cX9_plucks 88 = .ok (.invokevirtual 219, 3) := by decide +kernel
theorem d318_91 : decode cX9_plucks 91 = .ok (.iastore, 1) := by decide +kernel
theorem d318_92 : decode cX9_plucks 92 = .ok (.aload_n 0, 1) := by decide +kernel
theorem d318_93 : decode cX9_plucks 93 = .ok (.getfield 9, 3) := by decide +kernel
theorem d318_96 : decode cX9_plucks 96 = .ok (.iload 4, 2) := by decide +kernel
theorem d318_98 : decode cX9_plucks 98 = .ok (.iconst 3, 1) := by decide +kernel
theorem d318_99 : decode cX9_plucks 99 = .ok (.iadd, 1) := by decide +kernel
theorem d318_100 : decode cX9_plucks 100 = .ok (.iload_n 3, 1) := by decide +kernel
theorem d318_101 : decode cX9_plucks 101 = .ok (.iastore, 1) := by decide +kernel
theorem d318_102 : decode cX9_plucks 102 = .ok (.aload_n 0, 1) := by decide +kernel
theorem d318_103 : decode cX9_plucks 103 = .ok (.getfield 9, 3) := by decide +kernel
theorem d318_106 : decode cX9_plucks 106 = .ok (.bipush 9, 2) := by decide +kernel
theorem d318_108 : decode cX9_plucks 108 = .ok (.dup2, 1) := by decide +kernel
theorem d318_109 : decode cX9_plucks 109 = .ok (.iaload, 1) := by decide +kernel
theorem d318_110 : decode cX9_plucks 110 = .ok (.iconst 1, 1) := by decide +kernel
theorem d318_111 : decode cX9_plucks 111 = .ok (.iadd, 1) := by decide +kernel
theorem d318_112 : decode cX9_plucks 112 = .ok (.iastore, 1) := by decide +kernel
theorem d318_113 : decode cX9_plucks 113 = .ok (.aload_n 0, 1) := by decide +kernel
theorem d318_114 : decode cX9_plucks 114 = .ok (.getfield 9, 3) := by decide +kernel
theorem d318_117 : decode cX9_plucks 117 = .ok (.bipush 10, 2) := by decide +kernel
theorem d318_119 : decode cX9_plucks 119 = .ok (.dup2, 1) := by decide +kernel
theorem d318_120 : decode cX9_plucks 120 = .ok (.iaload, 1) := by decide +kernel
theorem d318_121 : decode cX9_plucks 121 = .ok (.iload_n 3, 1) := by decide +kernel
theorem d318_122 : decode cX9_plucks 122 = .ok (.iadd, 1) := by decide +kernel
theorem d318_123 : decode cX9_plucks 123 = .ok (.iastore, 1) := by decide +kernel
theorem d318_124 : decode cX9_plucks 124 = .ok (.aload_n 0, 1) := by decide +kernel
theorem d318_125 : decode cX9_plucks 125 = .ok (.getfield 9, 3) := by decide +kernel
theorem d318_128 : decode cX9_plucks 128 = .ok (.iload_n 1, 1) := by decide +kernel
theorem d318_129 : decode cX9_plucks 129 = .ok (.iconst 2, 1) := by decide +kernel
theorem d318_130 : decode cX9_plucks 130 = .ok (.invokestatic 206, 3) := by decide +kernel
theorem d318_133 : decode cX9_plucks 133 = .ok (.dup2, 1) := by decide +kernel
theorem d318_134 : decode cX9_plucks 134 = .ok (.iaload, 1) := by decide +kernel
theorem d318_135 : decode cX9_plucks 135 = .ok (.iconst 1, 1) := by decide +kernel
theorem d318_136 : decode cX9_plucks 136 = .ok (.iadd, 1) := by decide +kernel
theorem d318_137 : decode cX9_plucks 137 = .ok (.iastore, 1) := by decide +kernel
theorem d318_138 : decode cX9_plucks 138 = .ok (.aload_n 0, 1) := by decide +kernel
theorem d318_139 : decode cX9_plucks 139 = .ok (.getfield 9, 3) := by decide +kernel
theorem d318_142 : decode cX9_plucks 142 = .ok (.iload_n 1, 1) := by decide +kernel
theorem d318_143 : decode cX9_plucks 143 = .ok (.iconst 3, 1) := by decide +kernel
theorem d318_144 : decode cX9_plucks 144 = .ok (.invokestatic 206, 3) := by decide +kernel
theorem d318_147 : decode cX9_plucks 147 = .ok (.dup2, 1) := by decide +kernel
theorem d318_148 : decode cX9_plucks 148 = .ok (.iaload, 1) := by decide +kernel
theorem d318_149 : decode cX9_plucks 149 = .ok (.iload_n 3, 1) := by decide +kernel
theorem d318_150 : decode cX9_plucks 150 = .ok (.iadd, 1) := by decide +kernel
theorem d318_151 : decode cX9_plucks 151 = .ok (.iastore, 1) := by decide +kernel
theorem d318_152 : decode cX9_plucks 152 = .ok (.aload_n 0, 1) := by decide +kernel
theorem d318_153 : decode cX9_plucks 153 = .ok (.getfield 9, 3) := by decide +kernel
theorem d318_156 : decode cX9_plucks 156 = .ok (.iload_n 1, 1) := by decide +kernel
theorem d318_157 : decode cX9_plucks 157 = .ok (.iconst 4, 1) := by decide +kernel
theorem d318_158 : decode cX9_plucks 158 = .ok (.invokestatic 206, 3) := by decide +kernel
theorem d318_161 : decode cX9_plucks 161 = .ok (.aload_n 0, 1) := by decide +kernel
theorem d318_162 : decode cX9_plucks 162 = .ok (.getfield 9, 3) := by decide +kernel
theorem d318_165 : decode cX9_plucks 165 = .ok (.bipush 8, 2) := by decide +kernel
theorem d318_167 : decode cX9_plucks 167 = .ok (.iaload, 1) := by decide +kernel
theorem d318_168 : decode cX9_plucks 168 = .ok (.iastore, 1) := by decide +kernel
theorem d318_169 : decode cX9_plucks 169 = .ok (.return_, 1) := by decide +kernel
theorem v318_0 {w : PW} {Q : PO → PW → Prop} {x1 : Int} (hs : Sh w) (hx1 : bd x1) (h : (0 ≤ (11 + 5 * x1) + 4 ∧ (11 + 5 * x1) + 4 < 843) ∧ ((gI w 170 ((11 + 5 * x1) + 4).toNat) = ((-1)) → (0 ≤ (443 + (4 * ((gI w 170 9).tmod 100))) ∧ (443 + (4 * ((gI w 170 9).tmod 100))) < 843) ∧ ∀ w2 : PW, w2 = sI w 170 (443 + (4 * ((gI w 170 9).tmod 100))).toNat (gI w 170 8) → (0 ≤ ((443 + (4 * ((gI w 170 9).tmod 100))) + 1) ∧ ((443 + (4 * ((gI w 170 9).tmod 100))) + 1) < 843) ∧ ∀ w3 : PW, w3 = sI w2 170 ((443 + (4 * ((gI w 170 9).tmod 100))) + 1).toNat x1 → (0 ≤ (11 + 5 * x1) + 0 ∧ (11 + 5 * x1) + 0 < 843) ∧ (0 ≤ ((443 + (4 * ((gI w 170 9).tmod 100))) + 2) ∧ ((443 + (4 * ((gI w 170 9).tmod 100))) + 2) < 843) ∧ ∀ w4 : PW, w4 = sI w3 170 ((443 + (4 * ((gI w 170 9).tmod 100))) + 2).toNat (gI w3 170 ((11 + 5 * x1) + 0).toNat) → (0 ≤ ((443 + (4 * ((gI w 170 9).tmod 100))) + 3) ∧ ((443 + (4 * ((gI w 170 9).tmod 100))) + 3) < 843) ∧ ∀ w5 : PW, w5 = sI w4 170 ((443 + (4 * ((gI w 170 9).tmod 100))) + 3).toNat 0 → ∀ w6 : PW, w6 = sI w5 170 9 ((gI w5 170 9) + 1) → ∀ w7 : PW, w7 = sI w6 170 10 ((gI w6 170 10) + 0) → (0 ≤ ((11 + 5 * x1) + 2) ∧ ((11 + 5 * x1) + 2) < 843) ∧ (0 ≤ ((11 + 5 * x1) + 2) ∧ ((11 + 5 * x1) + 2) < 843) ∧ ∀ w8 : PW, w8 = sI w7 170 ((11 + 5 * x1) + 2).toNat ((gI w7 170 ((11 + 5 * x1) + 2).toNat) + 1) → (0 ≤ ((11 + 5 * x1) + 3) ∧ ((11 + 5 * x1) + 3) < 843) ∧ (0 ≤ ((11 + 5 * x1) + 3) ∧ ((11 + 5 * x1) + 3) < 843) ∧ ∀ w9 : PW, w9 = sI w8 170 ((11 + 5 * x1) + 3).toNat ((gI w8 170 ((11 + 5 * x1) + 3).toNat) + 0) → (0 ≤ ((11 + 5 * x1) + 4) ∧ ((11 + 5 * x1) + 4) < 843) ∧ ∀ w10 : PW, w10 = sI w9 170 ((11 + 5 * x1) + 4).toNat (gI w9 170 8) → Q (.inl none) w10) ∧ ((gI w 170 ((11 + 5 * x1) + 4).toNat) ≠ ((-1)) → (0 ≤ (11 + 5 * x1) + 1 ∧ (11 + 5 * x1) + 1 < 843) ∧ (bd ((gI w 170 8) - (gI w 170 ((11 + 5 * x1) + 4).toNat))) ∧ (bd ((gI w 170 ((11 + 5 * x1) + 1).toNat) * (gI w 170 3))) ∧ (((gI w 170 ((11 + 5 * x1) + 1).toNat) * (gI w 170 3)) ≤ ((gI w 170 8) - (gI w 170 ((11 + 5 * x1) + 4).toNat)) → (0 ≤ (443 + (4 * ((gI w 170 9).tmod 100))) ∧ (443 + (4 * ((gI w 170 9).tmod 100))) < 843) ∧ ∀ w12 : PW, w12 = sI w 170 (443 + (4 * ((gI w 170 9).tmod 100))).toNat (gI w 170 8) → (0 ≤ ((443 + (4 * ((gI w 170 9).tmod 100))) + 1) ∧ ((443 + (4 * ((gI w 170 9).tmod 100))) + 1) < 843) ∧ ∀ w13 : PW, w13 = sI w12 170 ((443 + (4 * ((gI w 170 9).tmod 100))) + 1).toNat x1 → (0 ≤ (11 + 5 * x1) + 0 ∧ (11 + 5 * x1) + 0 < 843) ∧ (0 ≤ ((443 + (4 * ((gI w 170 9).tmod 100))) + 2) ∧ ((443 + (4 * ((gI w 170 9).tmod 100))) + 2) < 843) ∧ ∀ w14 : PW, w14 = sI w13 170 ((443 + (4 * ((gI w 170 9).tmod 100))) + 2).toNat (gI w13 170 ((11 + 5 * x1) + 0).toNat) → (0 ≤ ((443 + (4 * ((gI w 170 9).tmod 100))) + 3) ∧ ((443 + (4 * ((gI w 170 9).tmod 100))) + 3) < 843) ∧ ∀ w15 : PW, w15 = sI w14 170 ((443 + (4 * ((gI w 170 9).tmod 100))) + 3).toNat 0 → ∀ w16 : PW, w16 = sI w15 170 9 ((gI w15 170 9) + 1) → ∀ w17 : PW, w17 = sI w16 170 10 ((gI w16 170 10) + 0) → (0 ≤ ((11 + 5 * x1) + 2) ∧ ((11 + 5 * x1) + 2) < 843) ∧ (0 ≤ ((11 + 5 * x1) + 2) ∧ ((11 + 5 * x1) + 2) < 843) ∧ ∀ w18 : PW, w18 = sI w17 170 ((11 + 5 * x1) + 2).toNat ((gI w17 170 ((11 + 5 * x1) + 2).toNat) + 1) → (0 ≤ ((11 + 5 * x1) + 3) ∧ ((11 + 5 * x1) + 3) < 843) ∧ (0 ≤ ((11 + 5 * x1) + 3) ∧ ((11 + 5 * x1) + 3) < 843) ∧ ∀ w19 : PW, w19 = sI w18 170 ((11 + 5 * x1) + 3).toNat ((gI w18 170 ((11 + 5 * x1) + 3).toNat) + 0) → (0 ≤ ((11 + 5 * x1) + 4) ∧ ((11 + 5 * x1) + 4) < 843) ∧ ∀ w20 : PW, w20 = sI w19 170 ((11 + 5 * x1) + 4).toNat (gI w19 170 8) → Q (.inl none) w20) ∧ (((gI w 170 8) - (gI w 170 ((11 + 5 * x1) + 4).toNat)) < ((gI w 170 ((11 + 5 * x1) + 1).toNat) * (gI w 170 3)) → (0 ≤ (443 + (4 * ((gI w 170 9).tmod 100))) ∧ (443 + (4 * ((gI w 170 9).tmod 100))) < 843) ∧ ∀ w21 : PW, w21 = sI w 170 (443 + (4 * ((gI w 170 9).tmod 100))).toNat (gI w 170 8) → (0 ≤ ((443 + (4 * ((gI w 170 9).tmod 100))) + 1) ∧ ((443 + (4 * ((gI w 170 9).tmod 100))) + 1) < 843) ∧ ∀ w22 : PW, w22 = sI w21 170 ((443 + (4 * ((gI w 170 9).tmod 100))) + 1).toNat x1 → (0 ≤ (11 + 5 * x1) + 0 ∧ (11 + 5 * x1) + 0 < 843) ∧ (0 ≤ ((443 + (4 * ((gI w 170 9).tmod 100))) + 2) ∧ ((443 + (4 * ((gI w 170 9).tmod 100))) + 2) < 843) ∧ ∀ w23 : PW, w23 = sI w22 170 ((443 + (4 * ((gI w 170 9).tmod 100))) + 2).toNat (gI w22 170 ((11 + 5 * x1) + 0).toNat) → (0 ≤ ((443 + (4 * ((gI w 170 9).tmod 100))) + 3) ∧ ((443 + (4 * ((gI w 170 9).tmod 100))) + 3) < 843) ∧ ∀ w24 : PW, w24 = sI w23 170 ((443 + (4 * ((gI w 170 9).tmod 100))) + 3).toNat 1 → ∀ w25 : PW, w25 = sI w24 170 9 ((gI w24 170 9) + 1) → ∀ w26 : PW, w26 = sI w25 170 10 ((gI w25 170 10) + 1) → (0 ≤ ((11 + 5 * x1) + 2) ∧ ((11 + 5 * x1) + 2) < 843) ∧ (0 ≤ ((11 + 5 * x1) + 2) ∧ ((11 + 5 * x1) + 2) < 843) ∧ ∀ w27 : PW, w27 = sI w26 170 ((11 + 5 * x1) + 2).toNat ((gI w26 170 ((11 + 5 * x1) + 2).toNat) + 1) → (0 ≤ ((11 + 5 * x1) + 3) ∧ ((11 + 5 * x1) + 3) < 843) ∧ (0 ≤ ((11 + 5 * x1) + 3) ∧ ((11 + 5 * x1) + 3) < 843) ∧ ∀ w28 : PW, w28 = sI w27 170 ((11 + 5 * x1) + 3).toNat ((gI w27 170 ((11 + 5 * x1) + 3).toNat) + 1) → (0 ≤ ((11 + 5 * x1) + 4) ∧ ((11 + 5 * x1) + 4) < 843) ∧ ∀ w29 : PW, w29 = sI w28 170 ((11 + 5 * x1) + 4).toNat (gI w28 170 8) → Q (.inl none) w29))) : pX 318 0 [some (.ref 169), some (iv x1), none, none, none] [] w Q :=
  w_f b318 d318_0 rfl rfl rfl <| w_f b318 d318_1 rfl rfl rfl <| w_f b318 d318_2 rfl rfl rfl <| w_cc b318 d318_3 rfl (pcl_v (n := 2) rfl rfl rfl (by decide +kernel) (sh_isOb hs (tlt 169 rfl) tbC_169) rfl rfl) rfl <| c261 hs hx1 ⟨by decide, by decide⟩ h.1 <| w_f b318 d318_6 rfl rfl rfl <| w_f b318 d318_7 rfl rfl rfl <| w_f b318 d318_8 rfl rfl rfl <| w_iceq b318 d318_9 rfl rfl (p318 _ _) (bd_gI _ _ _) ⟨by decide, by decide⟩ (fun c1 => w_f b318 d318_33 rfl rfl rfl <| w_f b318 d318_34 rfl rfl rfl <| w_f b318 d318_35 rfl rfl rfl <| w_f b318 d318_38 rfl rfl rfl <| w_f b318 d318_39 rfl rfl rfl <| w_gr b318 d318_40 rfl rfl hs (tlt 169 rfl) tbC_169 rfl (by decide) <| w_f b318 d318_43 rfl rfl rfl <| w_ial b318 d318_45 rfl hs (tlt 170 rfl) tbC_170 (bdix (n := 843) ⟨by decide, by decide⟩ rfl) ⟨by decide, by decide⟩ <| w_f b318 d318_46 rfl rfl rfl <| w_f b318 d318_48 rfl (pf_irem (bd_gI _ _ _) ⟨by decide, by decide⟩) rfl <| w_f b318 d318_49 rfl (pf_imul 4 ((gI w 170 9).tmod 100)) rfl <| w_f b318 d318_50 rfl (pf_iadd 443 (4 * ((gI w 170 9).tmod 100))) rfl <| w_f b318 d318_51 rfl rfl rfl <| w_f b318 d318_53 rfl rfl rfl <| w_gr b318 d318_54 rfl rfl hs (tlt 169 rfl) tbC_169 rfl (by decide) <| w_f b318 d318_57 rfl rfl rfl <| w_f b318 d318_59 rfl rfl rfl <| w_gr b318 d318_60 rfl rfl hs (tlt 169 rfl) tbC_169 rfl (by decide) <| w_f b318 d318_63 rfl rfl rfl <| w_ial b318 d318_65 rfl hs (tlt 170 rfl) tbC_170 (bdix (n := 843) ⟨by decide, by decide⟩ rfl) ⟨by decide, by decide⟩ <| w_ias b318 d318_66 rfl hs (tlt 170 rfl) tbC_170 (bdix (n := 843) (h.2.1 c1).1 rfl) (h.2.1 c1).1 <| w_f b318 d318_67 rfl rfl rfl <| w_gr b318 d318_68 rfl rfl (Sh_sI hs (slt_a tbC_170)) (tlt 169 rfl) tbC_169 rfl (by decide) <| w_f b318 d318_71 rfl rfl rfl <| w_f b318 d318_73 rfl rfl rfl <| w_f b318 d318_74 rfl (pf_iadd (443 + (4 * ((gI w 170 9).tmod 100))) 1) rfl <| w_f b318 d318_75 rfl rfl rfl <| w_ias b318 d318_76 rfl (Sh_sI hs (slt_a tbC_170)) (tlt 170 rfl) tbC_170 (bdix (n := 843) ((h.2.1 c1).2 _ rfl).1 rfl) ((h.2.1 c1).2 _ rfl).1 <| w_f b318 d318_77 rfl rfl rfl <| w_gr b318 d318_78 rfl rfl (Sh_sI (Sh_sI hs (slt_a tbC_170)) (slt_a tbC_170)) (tlt 169 rfl) tbC_169 rfl (by decide) <| w_f b318 d318_81 rfl rfl rfl <| w_f b318 d318_83 rfl rfl rfl <| w_f b318 d318_84 rfl (pf_iadd (443 + (4 * ((gI w 170 9).tmod 100))) 2) rfl <| w_f b318 d318_85 rfl rfl rfl <| w_f b318 d318_86 rfl rfl rfl <| w_f b318 d318_87 rfl rfl rfl <| w_cc b318 d318_88 rfl (pcl_v (n := 2) rfl rfl rfl (by decide +kernel) (sh_isOb (Sh_sI (Sh_sI hs (slt_a tbC_170)) (slt_a tbC_170)) (tlt 169 rfl) tbC_169) rfl rfl) rfl <| c261 (Sh_sI (Sh_sI hs (slt_a tbC_170)) (slt_a tbC_170)) hx1 ⟨by decide, by decide⟩ (((h.2.1 c1).2 _ rfl).2 _ rfl).1 <| w_ias b318 d318_91 rfl (Sh_sI (Sh_sI hs (slt_a tbC_170)) (slt_a tbC_170)) (tlt 170 rfl) tbC_170 (bdix (n := 843) (((h.2.1 c1).2 _ rfl).2 _ rfl).2.1 rfl) (((h.2.1 c1).2 _ rfl).2 _ rfl).2.1 <| w_f b318 d318_92 rfl rfl rfl <| w_gr b318 d318_93 rfl rfl (Sh_sI (Sh_sI (Sh_sI hs (slt_a tbC_170)) (slt_a tbC_170)) (slt_a tbC_170)) (tlt 169 rfl) tbC_169 rfl (by decide) <| w_f b318 d318_96 rfl rfl rfl <| w_f b318 d318_98 rfl rfl rfl <| w_f b318 d318_99 rfl (pf_iadd (443 + (4 * ((gI w 170 9).tmod 100))) 3) rfl <| w_f b318 d318_100 rfl rfl rfl <| w_ias b318 d318_101 rfl (Sh_sI (Sh_sI (Sh_sI hs (slt_a tbC_170)) (slt_a tbC_170)) (slt_a tbC_170)) (tlt 170 rfl) tbC_170 (bdix (n := 843) ((((h.2.1 c1).2 _ rfl).2 _ rfl).2.2 _ rfl).1 rfl) ((((h.2.1 c1).2 _ rfl).2 _ rfl).2.2 _ rfl).1 <| w_f b318 d318_102 rfl rfl rfl <| w_gr b318 d318_103 rfl rfl (Sh_sI (Sh_sI (Sh_sI (Sh_sI hs (slt_a tbC_170)) (slt_a tbC_170)) (slt_a tbC_170)) (slt_a tbC_170)) (tlt 169 rfl) tbC_169 rfl (by decide) <| w_f b318 d318_106 rfl rfl rfl <| w_f b318 d318_108 rfl rfl rfl <| w_ial b318 d318_109 rfl (Sh_sI (Sh_sI (Sh_sI (Sh_sI hs (slt_a tbC_170)) (slt_a tbC_170)) (slt_a tbC_170)) (slt_a tbC_170)) (tlt 170 rfl) tbC_170 (bdix (n := 843) ⟨by decide, by decide⟩ rfl) ⟨by decide, by decide⟩ <| w_f b318 d318_110 rfl rfl rfl <| w_f b318 d318_111 rfl (pf_iadd _ 1) rfl <| w_ias b318 d318_112 rfl (Sh_sI (Sh_sI (Sh_sI (Sh_sI hs (slt_a tbC_170)) (slt_a tbC_170)) (slt_a tbC_170)) (slt_a tbC_170)) (tlt 170 rfl) tbC_170 (bdix (n := 843) ⟨by decide, by decide⟩ rfl) ⟨by decide, by decide⟩ <| w_f b318 d318_113 rfl rfl rfl <| w_gr b318 d318_114 rfl rfl (Sh_sI (Sh_sI (Sh_sI (Sh_sI (Sh_sI hs (slt_a tbC_170)) (slt_a tbC_170)) (slt_a tbC_170)) (slt_a tbC_170)) (slt_a tbC_170)) (tlt 169 rfl) tbC_169 rfl (by decide) <| w_f b318 d318_117 rfl rfl rfl <| w_f b318 d318_119 rfl rfl rfl <| w_ial b318 d318_120 rfl (Sh_sI (Sh_sI (Sh_sI (Sh_sI (Sh_sI hs (slt_a tbC_170)) (slt_a tbC_170)) (slt_a tbC_170)) (slt_a tbC_170)) (slt_a tbC_170)) (tlt 170 rfl) tbC_170 (bdix (n := 843) ⟨by decide, by decide⟩ rfl) ⟨by decide, by decide⟩ <| w_f b318 d318_121 rfl rfl rfl <| w_f b318 d318_122 rfl (pf_iadd _ 0) rfl <| w_ias b318 d318_123 rfl (Sh_sI (Sh_sI (Sh_sI (Sh_sI (Sh_sI hs (slt_a tbC_170)) (slt_a tbC_170)) (slt_a tbC_170)) (slt_a tbC_170)) (slt_a tbC_170)) (tlt 170 rfl) tbC_170 (bdix (n := 843) ⟨by decide, by decide⟩ rfl) ⟨by decide, by decide⟩ <| w_f b318 d318_124 rfl rfl rfl <| w_gr b318 d318_125 rfl rfl (Sh_sI (Sh_sI (Sh_sI (Sh_sI (Sh_sI (Sh_sI hs (slt_a tbC_170)) (slt_a tbC_170)) (slt_a tbC_170)) (slt_a tbC_170)) (slt_a tbC_170)) (slt_a tbC_170)) (tlt 169 rfl) tbC_169 rfl (by decide) <| w_f b318 d318_128 rfl rfl rfl <| w_f b318 d318_129 rfl rfl rfl <| w_cc b318 d318_130 rfl (pcl_s1 (n := 2) rfl rfl rfl (by decide +kernel) rfl rfl) rfl <| c230 (Sh_sI (Sh_sI (Sh_sI (Sh_sI (Sh_sI (Sh_sI hs (slt_a tbC_170)) (slt_a tbC_170)) (slt_a tbC_170)) (slt_a tbC_170)) (slt_a tbC_170)) (slt_a tbC_170)) hx1 ⟨by decide, by decide⟩ <| w_f b318 d318_133 rfl rfl rfl <| w_ial b318 d318_134 rfl (Sh_sI (Sh_sI (Sh_sI (Sh_sI (Sh_sI (Sh_sI hs (slt_a tbC_170)) (slt_a tbC_170)) (slt_a tbC_170)) (slt_a tbC_170)) (slt_a tbC_170)) (slt_a tbC_170)) (tlt 170 rfl) tbC_170 (bdix (n := 843) (((((((h.2.1 c1).2 _ rfl).2 _ rfl).2.2 _ rfl).2 _ rfl) _ rfl) _ rfl).1 rfl) (((((((h.2.1 c1).2 _ rfl).2 _ rfl).2.2 _ rfl).2 _ rfl) _ rfl) _ rfl).1 <| w_f b318 d318_135 rfl rfl rfl <| w_f b318 d318_136 rfl (pf_iadd _ 1) rfl <| w_ias b318 d318_137 rfl (Sh_sI (Sh_sI (Sh_sI (Sh_sI (Sh_sI (Sh_sI hs (slt_a tbC_170)) (slt_a tbC_170)) (slt_a tbC_170)) (slt_a tbC_170)) (slt_a tbC_170)) (slt_a tbC_170)) (tlt 170 rfl) tbC_170 (bdix (n := 843) (((((((h.2.1 c1).2 _ rfl).2 _ rfl).2.2 _ rfl).2 _ rfl) _ rfl) _ rfl).2.1 rfl) (((((((h.2.1 c1).2 _ rfl).2 _ rfl).2.2 _ rfl).2 _ rfl) _ rfl) _ rfl).2.1 <| w_f b318 d318_138 rfl rfl rfl <| w_gr b318 d318_139 rfl rfl (Sh_sI (Sh_sI (Sh_sI (Sh_sI (Sh_sI (Sh_sI (Sh_sI hs (slt_a tbC_170)) (slt_a tbC_170)) (slt_a tbC_170)) (slt_a tbC_170)) (slt_a tbC_170)) (slt_a tbC_170)) (slt_a tbC_170)) (tlt 169 rfl) tbC_169 rfl (by decide) <| w_f b318 d318_142 rfl rfl rfl <| w_f b318 d318_143 rfl rfl rfl <| w_cc b318 d318_144 rfl (pcl_s1 (n := 2) rfl rfl rfl (by decide +kernel) rfl rfl) rfl <| c230 (Sh_sI (Sh_sI (Sh_sI (Sh_sI (Sh_sI (Sh_sI (Sh_sI hs (slt_a tbC_170)) (slt_a tbC_170)) (slt_a tbC_170)) (slt_a tbC_170)) (slt_a tbC_170)) (slt_a tbC_170)) (slt_a tbC_170)) hx1 ⟨by decide, by decide⟩ <| w_f b318 d318_147 rfl rfl rfl <| w_ial b318 d318_148 rfl (Sh_sI (Sh_sI (Sh_sI (Sh_sI (Sh_sI (Sh_sI (Sh_sI hs (slt_a tbC_170)) (slt_a tbC_170)) (slt_a tbC_170)) (slt_a tbC_170)) (slt_a tbC_170)) (slt_a tbC_170)) (slt_a tbC_170)) (tlt 170 rfl) tbC_170 (bdix (n := 843) ((((((((h.2.1 c1).2 _ rfl).2 _ rfl).2.2 _ rfl).2 _ rfl) _ rfl) _ rfl).2.2 _ rfl).1 rfl) ((((((((h.2.1 c1).2 _ rfl).2 _ rfl).2.2 _ rfl).2 _ rfl) _ rfl) _ rfl).2.2 _ rfl).1 <| w_f b318 d318_149 rfl rfl rfl <| w_f b318 d318_150 rfl (pf_iadd _ 0) rfl <| w_ias b318 d318_151 rfl (Sh_sI (Sh_sI (Sh_sI (Sh_sI (Sh_sI (Sh_sI (Sh_sI hs (slt_a tbC_170)) (slt_a tbC_170)) (slt_a tbC_170)) (slt_a tbC_170)) (slt_a tbC_170)) (slt_a tbC_170)) (slt_a tbC_170)) (tlt 170 rfl) tbC_170 (bdix (n := 843) ((((((((h.2.1 c1).2 _ rfl).2 _ rfl).2.2 _ rfl).2 _ rfl) _ rfl) _ rfl).2.2 _ rfl).2.1 rfl) ((((((((h.2.1 c1).2 _ rfl).2 _ rfl).2.2 _ rfl).2 _ rfl) _ rfl) _ rfl).2.2 _ rfl).2.1 <| w_f b318 d318_152 rfl rfl rfl <| w_gr b318 d318_153 rfl rfl (Sh_sI (Sh_sI (Sh_sI (Sh_sI (Sh_sI (Sh_sI (Sh_sI (Sh_sI hs (slt_a tbC_170)) (slt_a tbC_170)) (slt_a tbC_170)) (slt_a tbC_170)) (slt_a tbC_170)) (slt_a tbC_170)) (slt_a tbC_170)) (slt_a tbC_170)) (tlt 169 rfl) tbC_169 rfl (by decide) <| w_f b318 d318_156 rfl rfl rfl <| w_f b318 d318_157 rfl rfl rfl <| w_cc b318 d318_158 rfl (pcl_s1 (n := 2) rfl rfl rfl (by decide +kernel) rfl rfl) rfl <| c230 (Sh_sI (Sh_sI (Sh_sI (Sh_sI (Sh_sI (Sh_sI (Sh_sI (Sh_sI hs (slt_a tbC_170)) (slt_a tbC_170)) (slt_a tbC_170)) (slt_a tbC_170)) (slt_a tbC_170)) (slt_a tbC_170)) (slt_a tbC_170)) (slt_a tbC_170)) hx1 ⟨by decide, by decide⟩ <| w_f b318 d318_161 rfl rfl rfl <| w_gr b318 d318_162 rfl rfl (Sh_sI (Sh_sI (Sh_sI (Sh_sI (Sh_sI (Sh_sI (Sh_sI (Sh_sI hs (slt_a tbC_170)) (slt_a tbC_170)) (slt_a tbC_170)) (slt_a tbC_170)) (slt_a tbC_170)) (slt_a tbC_170)) (slt_a tbC_170)) (slt_a tbC_170)) (tlt 169 rfl) tbC_169 rfl (by decide) <| w_f b318 d318_165 rfl rfl rfl <| w_ial b318 d318_167 rfl (Sh_sI (Sh_sI (Sh_sI (Sh_sI (Sh_sI (Sh_sI (Sh_sI (Sh_sI hs (slt_a tbC_170)) (slt_a tbC_170)) (slt_a tbC_170)) (slt_a tbC_170)) (slt_a tbC_170)) (slt_a tbC_170)) (slt_a tbC_170)) (slt_a tbC_170)) (tlt 170 rfl) tbC_170 (bdix (n := 843) ⟨by decide, by decide⟩ rfl) ⟨by decide, by decide⟩ <| w_ias b318 d318_168 rfl (Sh_sI (Sh_sI (Sh_sI (Sh_sI (Sh_sI (Sh_sI (Sh_sI (Sh_sI hs (slt_a tbC_170)) (slt_a tbC_170)) (slt_a tbC_170)) (slt_a tbC_170)) (slt_a tbC_170)) (slt_a tbC_170)) (slt_a tbC_170)) (slt_a tbC_170)) (tlt 170 rfl) tbC_170 (bdix (n := 843) (((((((((h.2.1 c1).2 _ rfl).2 _ rfl).2.2 _ rfl).2 _ rfl) _ rfl) _ rfl).2.2 _ rfl).2.2 _ rfl).1 rfl) (((((((((h.2.1 c1).2 _ rfl).2 _ rfl).2.2 _ rfl).2 _ rfl) _ rfl) _ rfl).2.2 _ rfl).2.2 _ rfl).1 <| w_rv b318 d318_169 r318 ((((((((((h.2.1 c1).2 _ rfl).2 _ rfl).2.2 _ rfl).2 _ rfl) _ rfl) _ rfl).2.2 _ rfl).2.2 _ rfl).2 _ rfl)) (fun c1 => w_f b318 d318_12 rfl rfl rfl <| w_gr b318 d318_13 rfl rfl hs (tlt 169 rfl) tbC_169 rfl (by decide) <| w_f b318 d318_16 rfl rfl rfl <| w_ial b318 d318_18 rfl hs (tlt 170 rfl) tbC_170 (bdix (n := 843) ⟨by decide, by decide⟩ rfl) ⟨by decide, by decide⟩ <| w_f b318 d318_19 rfl rfl rfl <| w_f b318 d318_20 rfl (pf_isub (gI w 170 8) (gI w 170 ((11 + 5 * x1) + 4).toNat)) rfl <| w_f b318 d318_21 rfl rfl rfl <| w_f b318 d318_22 rfl rfl rfl <| w_cc b318 d318_23 rfl (pcl_v (n := 1) rfl rfl rfl (by decide +kernel) (sh_isOb hs (tlt 169 rfl) tbC_169) rfl rfl) rfl <| c262 hs hx1 (h.2.2 c1).1 <| w_icge b318 d318_26 rfl rfl (p318 _ _) (h.2.2 c1).2.1 (h.2.2 c1).2.2.1 (fun c11 => w_f b318 d318_33 rfl rfl rfl <| w_f b318 d318_34 rfl rfl rfl <| w_f b318 d318_35 rfl rfl rfl <| w_f b318 d318_38 rfl rfl rfl <| w_f b318 d318_39 rfl rfl rfl <| w_gr b318 d318_40 rfl rfl hs (tlt 169 rfl) tbC_169 rfl (by decide) <| w_f b318 d318_43 rfl rfl rfl <| w_ial b318 d318_45 rfl hs (tlt 170 rfl) tbC_170 (bdix (n := 843) ⟨by decide, by decide⟩ rfl) ⟨by decide, by decide⟩ <| w_f b318 d318_46 rfl rfl rfl <| w_f b318 d318_48 rfl (pf_irem (bd_gI _ _ _) ⟨by decide, by decide⟩) rfl <| w_f b318 d318_49 rfl (pf_imul 4 ((gI w 170 9).tmod 100)) rfl <| w_f b318 d318_50 rfl (pf_iadd 443 (4 * ((gI w 170 9).tmod 100))) rfl <| w_f b318 d318_51 rfl rfl rfl <| w_f b318 d318_53 rfl rfl rfl <| w_gr b318 d318_54 rfl rfl hs (tlt 169 rfl) tbC_169 rfl (by decide) <| w_f b318 d318_57 rfl rfl rfl <| w_f b318 d318_59 rfl rfl rfl <| w_gr b318 d318_60 rfl rfl hs (tlt 169 rfl) tbC_169 rfl (by decide) <| w_f b318 d318_63 rfl rfl rfl <| w_ial b318 d318_65 rfl hs (tlt 170 rfl) tbC_170 (bdix (n := 843) ⟨by decide, by decide⟩ rfl) ⟨by decide, by decide⟩ <| w_ias b318 d318_66 rfl hs (tlt 170 rfl) tbC_170 (bdix (n := 843) ((h.2.2 c1).2.2.2.1 c11).1 rfl) ((h.2.2 c1).2.2.2.1 c11).1 <| w_f b318 d318_67 rfl rfl rfl <| w_gr b318 d318_68 rfl rfl (Sh_sI hs (slt_a tbC_170)) (tlt 169 rfl) tbC_169 rfl (by decide) <| w_f b318 d318_71 rfl rfl rfl <| w_f b318 d318_73 rfl rfl rfl <| w_f b318 d318_74 rfl (pf_iadd (443 + (4 * ((gI w 170 9).tmod 100))) 1) rfl <| w_f b318 d318_75 rfl rfl rfl <| w_ias b318 d318_76 rfl (Sh_sI hs (slt_a tbC_170)) (tlt 170 rfl) tbC_170 (bdix (n := 843) (((h.2.2 c1).2.2.2.1 c11).2 _ rfl).1 rfl) (((h.2.2 c1).2.2.2.1 c11).2 _ rfl).1 <| w_f b318 d318_77 rfl rfl rfl <| w_gr b318 d318_78 rfl rfl (Sh_sI (Sh_sI hs (slt_a tbC_170)) (slt_a tbC_170)) (tlt 169 rfl) tbC_169 rfl (by decide) <| w_f b318 d318_81 rfl rfl rfl <| w_f b318 d318_83 rfl rfl rfl <| w_f b318 d318_84 rfl (pf_iadd (443 + (4 * ((gI w 170 9).tmod 100))) 2) rfl <| w_f b318 d318_85 rfl rfl rfl <| w_f b318 d318_86 rfl rfl rfl <| w_f b318 d318_87 rfl rfl rfl <| w_cc b318 d318_88 rfl (pcl_v (n := 2) rfl rfl rfl (by decide +kernel) (sh_isOb (Sh_sI (Sh_sI hs (slt_a tbC_170)) (slt_a tbC_170)) (tlt 169 rfl) tbC_169) rfl rfl) rfl <| c261 (Sh_sI (Sh_sI hs (slt_a tbC_170)) (slt_a tbC_170)) hx1 ⟨by decide, by decide⟩ ((((h.2.2 c1).2.2.2.1 c11).2 _ rfl).2 _ rfl).1 <| w_ias b318 d318_91 rfl (Sh_sI (Sh_sI hs (slt_a tbC_170)) (slt_a tbC_170)) (tlt 170 rfl) tbC_170 (bdix (n := 843) ((((h.2.2 c1).2.2.2.1 c11).2 _ rfl).2 _ rfl).2.1 rfl) ((((h.2.2 c1).2.2.2.1 c11).2 _ rfl).2 _ rfl).2.1 <| w_f b318 d318_92 rfl rfl rfl <| w_gr b318 d318_93 rfl rfl (Sh_sI (Sh_sI (Sh_sI hs (slt_a tbC_170)) (slt_a tbC_170)) (slt_a tbC_170)) (tlt 169 rfl) tbC_169 rfl (by decide) <| w_f b318 d318_96 rfl rfl rfl <| w_f b318 d318_98 rfl rfl rfl <| w_f b318 d318_99 rfl (pf_iadd (443 + (4 * ((gI w 170 9).tmod 100))) 3) rfl <| w_f b318 d318_100 rfl rfl rfl <| w_ias b318 d318_101 rfl (Sh_sI (Sh_sI (Sh_sI hs (slt_a tbC_170)) (slt_a tbC_170)) (slt_a tbC_170)) (tlt 170 rfl) tbC_170 (bdix (n := 843) (((((h.2.2 c1).2.2.2.1 c11).2 _ rfl).2 _ rfl).2.2 _ rfl).1 rfl) (((((h.2.2 c1).2.2.2.1 c11).2 _ rfl).2 _ rfl).2.2 _ rfl).1 <| w_f b318 d318_102 rfl rfl rfl <| w_gr b318 d318_103 rfl rfl (Sh_sI (Sh_sI (Sh_sI (Sh_sI hs (slt_a tbC_170)) (slt_a tbC_170)) (slt_a tbC_170)) (slt_a tbC_170)) (tlt 169 rfl) tbC_169 rfl (by decide) <| w_f b318 d318_106 rfl rfl rfl <| w_f b318 d318_108 rfl rfl rfl <| w_ial b318 d318_109 rfl (Sh_sI (Sh_sI (Sh_sI (Sh_sI hs (slt_a tbC_170)) (slt_a tbC_170)) (slt_a tbC_170)) (slt_a tbC_170)) (tlt 170 rfl) tbC_170 (bdix (n := 843) ⟨by decide, by decide⟩ rfl) ⟨by decide, by decide⟩ <| w_f b318 d318_110 rfl rfl rfl <| w_f b318 d318_111 rfl (pf_iadd _ 1) rfl <| w_ias b318 d318_112 rfl (Sh_sI (Sh_sI (Sh_sI (Sh_sI hs (slt_a tbC_170)) (slt_a tbC_170)) (slt_a tbC_170)) (slt_a tbC_170)) (tlt 170 rfl) tbC_170 (bdix (n := 843) ⟨by decide, by decide⟩ rfl) ⟨by decide, by decide⟩ <| w_f b318 d318_113 rfl rfl rfl <| w_gr b318 d318_114 rfl rfl (Sh_sI (Sh_sI (Sh_sI (Sh_sI (Sh_sI hs (slt_a tbC_170)) (slt_a tbC_170)) (slt_a tbC_170)) (slt_a tbC_170)) (slt_a tbC_170)) (tlt 169 rfl) tbC_169 rfl (by decide) <| w_f b318 d318_117 rfl rfl rfl <| w_f b318 d318_119 rfl rfl rfl <| w_ial b318 d318_120 rfl (Sh_sI (Sh_sI (Sh_sI (Sh_sI (Sh_sI hs (slt_a tbC_170)) (slt_a tbC_170)) (slt_a tbC_170)) (slt_a tbC_170)) (slt_a tbC_170)) (tlt 170 rfl) tbC_170 (bdix (n := 843) ⟨by decide, by decide⟩ rfl) ⟨by decide, by decide⟩ <| w_f b318 d318_121 rfl rfl rfl <| w_f b318 d318_122 rfl (pf_iadd _ 0) rfl <| w_ias b318 d318_123 rfl (Sh_sI (Sh_sI (Sh_sI (Sh_sI (Sh_sI hs (slt_a tbC_170)) (slt_a tbC_170)) (slt_a tbC_170)) (slt_a tbC_170)) (slt_a tbC_170)) (tlt 170 rfl) tbC_170 (bdix (n := 843) ⟨by decide, by decide⟩ rfl) ⟨by decide, by decide⟩ <| w_f b318 d318_124 rfl rfl rfl <| w_gr b318 d318_125 rfl rfl (Sh_sI (Sh_sI (Sh_sI (Sh_sI (Sh_sI (Sh_sI hs (slt_a tbC_170)) (slt_a tbC_170)) (slt_a tbC_170)) (slt_a tbC_170)) (slt_a tbC_170)) (slt_a tbC_170)) (tlt 169 rfl) tbC_169 rfl (by decide) <| w_f b318 d318_128 rfl rfl rfl <| w_f b318 d318_129 rfl rfl rfl <| w_cc b318 d318_130 rfl (pcl_s1 (n := 2) rfl rfl rfl (by decide +kernel) rfl rfl) rfl <| c230 (Sh_sI (Sh_sI (Sh_sI (Sh_sI (Sh_sI (Sh_sI hs (slt_a tbC_170)) (slt_a tbC_170)) (slt_a tbC_170)) (slt_a tbC_170)) (slt_a tbC_170)) (slt_a tbC_170)) hx1 ⟨by decide, by decide⟩ <| w_f b318 d318_133 rfl rfl rfl <| w_ial b318 d318_134 rfl (Sh_sI (Sh_sI (Sh_sI (Sh_sI (Sh_sI (Sh_sI hs (slt_a tbC_170)) (slt_a tbC_170)) (slt_a tbC_170)) (slt_a tbC_170)) (slt_a tbC_170)) (slt_a tbC_170)) (tlt 170 rfl) tbC_170 (bdix (n := 843) ((((((((h.2.2 c1).2.2.2.1 c11).2 _ rfl).2 _ rfl).2.2 _ rfl).2 _ rfl) _ rfl) _ rfl).1 rfl) ((((((((h.2.2 c1).2.2.2.1 c11).2 _ rfl).2 _ rfl).2.2 _ rfl).2 _ rfl) _ rfl) _ rfl).1 <| w_f b318 d318_135 rfl rfl rfl <| w_f b318 d318_136 rfl (pf_iadd _ 1) rfl <| w_ias b318 d318_137 rfl (Sh_sI (Sh_sI (Sh_sI (Sh_sI (Sh_sI (Sh_sI hs (slt_a tbC_170)) (slt_a tbC_170)) (slt_a tbC_170)) (slt_a tbC_170)) (slt_a tbC_170)) (slt_a tbC_170)) (tlt 170 rfl) tbC_170 (bdix (n := 843) ((((((((h.2.2 c1).2.2.2.1 c11).2 _ rfl).2 _ rfl).2.2 _ rfl).2 _ rfl) _ rfl) _ rfl).2.1 rfl) ((((((((h.2.2 c1).2.2.2.1 c11).2 _ rfl).2 _ rfl).2.2 _ rfl).2 _ rfl) _ rfl) _ rfl).2.1 <| w_f b318 d318_138 rfl rfl rfl <| w_gr b318 d318_139 rfl rfl (Sh_sI (Sh_sI (Sh_sI (Sh_sI (Sh_sI (Sh_sI (Sh_sI hs (slt_a tbC_170)) (slt_a tbC_170)) (slt_a tbC_170)) (slt_a tbC_170)) (slt_a tbC_170)) (slt_a tbC_170)) (slt_a tbC_170)) (tlt 169 rfl) tbC_169 rfl (by decide) <| w_f b318 d318_142 rfl rfl rfl <| w_f b318 d318_143 rfl rfl rfl <| w_cc b318 d318_144 rfl (pcl_s1 (n := 2) rfl rfl rfl (by decide +kernel) rfl rfl) rfl <| c230 (Sh_sI (Sh_sI (Sh_sI (Sh_sI (Sh_sI (Sh_sI (Sh_sI hs (slt_a tbC_170)) (slt_a tbC_170)) (slt_a tbC_170)) (slt_a tbC_170)) (slt_a tbC_170)) (slt_a tbC_170)) (slt_a tbC_170)) hx1 ⟨by decide, by decide⟩ <| w_f b318 d318_147 rfl rfl rfl <| w_ial b318 d318_148 rfl (Sh_sI (Sh_sI (Sh_sI (Sh_sI (Sh_sI (Sh_sI (Sh_sI hs (slt_a tbC_170)) (slt_a tbC_170)) (slt_a tbC_170)) (slt_a tbC_170)) (slt_a tbC_170)) (slt_a tbC_170)) (slt_a tbC_170)) (tlt 170 rfl) tbC_170 (bdix (n := 843) (((((((((h.2.2 c1).2.2.2.1 c11).2 _ rfl).2 _ rfl).2.2 _ rfl).2 _ rfl) _ rfl) _ rfl).2.2 _ rfl).1 rfl) (((((((((h.2.2 c1).2.2.2.1 c11).2 _ rfl).2 _ rfl).2.2 _ rfl).2 _ rfl) _ rfl) _ rfl).2.2 _ rfl).1 <| w_f b318 d318_149 rfl rfl rfl <| w_f b318 d318_150 rfl (pf_iadd _ 0) rfl <| w_ias b318 d318_151 rfl (Sh_sI (Sh_sI (Sh_sI (Sh_sI (Sh_sI (Sh_sI (Sh_sI hs (slt_a tbC_170)) (slt_a tbC_170)) (slt_a tbC_170)) (slt_a tbC_170)) (slt_a tbC_170)) (slt_a tbC_170)) (slt_a tbC_170)) (tlt 170 rfl) tbC_170 (bdix (n := 843) (((((((((h.2.2 c1).2.2.2.1 c11).2 _ rfl).2 _ rfl).2.2 _ rfl).2 _ rfl) _ rfl) _ rfl).2.2 _ rfl).2.1 rfl) (((((((((h.2.2 c1).2.2.2.1 c11).2 _ rfl).2 _ rfl).2.2 _ rfl).2 _ rfl) _ rfl) _ rfl).2.2 _ rfl).2.1 <| w_f b318 d318_152 rfl rfl rfl <| w_gr b318 d318_153 rfl rfl (Sh_sI (Sh_sI (Sh_sI (Sh_sI (Sh_sI (Sh_sI (Sh_sI (Sh_sI hs (slt_a tbC_170)) (slt_a tbC_170)) (slt_a tbC_170)) (slt_a tbC_170)) (slt_a tbC_170)) (slt_a tbC_170)) (slt_a tbC_170)) (slt_a tbC_170)) (tlt 169 rfl) tbC_169 rfl (by decide) <| w_f b318 d318_156 rfl rfl rfl <| w_f b318 d318_157 rfl rfl rfl <| w_cc b318 d318_158 rfl (pcl_s1 (n := 2) rfl rfl rfl (by decide +kernel) rfl rfl) rfl <| c230 (Sh_sI (Sh_sI (Sh_sI (Sh_sI (Sh_sI (Sh_sI (Sh_sI (Sh_sI hs (slt_a tbC_170)) (slt_a tbC_170)) (slt_a tbC_170)) (slt_a tbC_170)) (slt_a tbC_170)) (slt_a tbC_170)) (slt_a tbC_170)) (slt_a tbC_170)) hx1 ⟨by decide, by decide⟩ <| w_f b318 d318_161 rfl rfl rfl <| w_gr b318 d318_162 rfl rfl (Sh_sI (Sh_sI (Sh_sI (Sh_sI (Sh_sI (Sh_sI (Sh_sI (Sh_sI hs (slt_a tbC_170)) (slt_a tbC_170)) (slt_a tbC_170)) (slt_a tbC_170)) (slt_a tbC_170)) (slt_a tbC_170)) (slt_a tbC_170)) (slt_a tbC_170)) (tlt 169 rfl) tbC_169 rfl (by decide) <| w_f b318 d318_165 rfl rfl rfl <| w_ial b318 d318_167 rfl (Sh_sI (Sh_sI (Sh_sI (Sh_sI (Sh_sI (Sh_sI (Sh_sI (Sh_sI hs (slt_a tbC_170)) (slt_a tbC_170)) (slt_a tbC_170)) (slt_a tbC_170)) (slt_a tbC_170)) (slt_a tbC_170)) (slt_a tbC_170)) (slt_a tbC_170)) (tlt 170 rfl) tbC_170 (bdix (n := 843) ⟨by decide, by decide⟩ rfl) ⟨by decide, by decide⟩ <| w_ias b318 d318_168 rfl (Sh_sI (Sh_sI (Sh_sI (Sh_sI (Sh_sI (Sh_sI (Sh_sI (Sh_sI hs (slt_a tbC_170)) (slt_a tbC_170)) (slt_a tbC_170)) (slt_a tbC_170)) (slt_a tbC_170)) (slt_a tbC_170)) (slt_a tbC_170)) (slt_a tbC_170)) (tlt 170 rfl) tbC_170 (bdix (n := 843) ((((((((((h.2.2 c1).2.2.2.1 c11).2 _ rfl).2 _ rfl).2.2 _ rfl).2 _ rfl) _ rfl) _ rfl).2.2 _ rfl).2.2 _ rfl).1 rfl) ((((((((((h.2.2 c1).2.2.2.1 c11).2 _ rfl).2 _ rfl).2.2 _ rfl).2 _ rfl) _ rfl) _ rfl).2.2 _ rfl).2.2 _ rfl).1 <| w_rv b318 d318_169 r318 (((((((((((h.2.2 c1).2.2.2.1 c11).2 _ rfl).2 _ rfl).2.2 _ rfl).2 _ rfl) _ rfl) _ rfl).2.2 _ rfl).2.2 _ rfl).2 _ rfl)) (fun c11 => w_f b318 d318_29 rfl rfl rfl <| w_j b318 d318_30 rfl (p318 _ _) <| w_f b318 d318_34 rfl rfl rfl <| w_f b318 d318_35 rfl rfl rfl <| w_f b318 d318_38 rfl rfl rfl <| w_f b318 d318_39 rfl rfl rfl <| w_gr b318 d318_40 rfl rfl hs (tlt 169 rfl) tbC_169 rfl (by decide) <| w_f b318 d318_43 rfl rfl rfl <| w_ial b318 d318_45 rfl hs (tlt 170 rfl) tbC_170 (bdix (n := 843) ⟨by decide, by decide⟩ rfl) ⟨by decide, by decide⟩ <| w_f b318 d318_46 rfl rfl rfl <| w_f b318 d318_48 rfl (pf_irem (bd_gI _ _ _) ⟨by decide, by decide⟩) rfl <| w_f b318 d318_49 rfl (pf_imul 4 ((gI w 170 9).tmod 100)) rfl <| w_f b318 d318_50 rfl (pf_iadd 443 (4 * ((gI w 170 9).tmod 100))) rfl <| w_f b318 d318_51 rfl rfl rfl <| w_f b318 d318_53 rfl rfl rfl <| w_gr b318 d318_54 rfl rfl hs (tlt 169 rfl) tbC_169 rfl (by decide) <| w_f b318 d318_57 rfl rfl rfl <| w_f b318 d318_59 rfl rfl rfl <| w_gr b318 d318_60 rfl rfl hs (tlt 169 rfl) tbC_169 rfl (by decide) <| w_f b318 d318_63 rfl rfl rfl <| w_ial b318 d318_65 rfl hs (tlt 170 rfl) tbC_170 (bdix (n := 843) ⟨by decide, by decide⟩ rfl) ⟨by decide, by decide⟩ <| w_ias b318 d318_66 rfl hs (tlt 170 rfl) tbC_170 (bdix (n := 843) ((h.2.2 c1).2.2.2.2 c11).1 rfl) ((h.2.2 c1).2.2.2.2 c11).1 <| w_f b318 d318_67 rfl rfl rfl <| w_gr b318 d318_68 rfl rfl (Sh_sI hs (slt_a tbC_170)) (tlt 169 rfl) tbC_169 rfl (by decide) <| w_f b318 d318_71 rfl rfl rfl <| w_f b318 d318_73 rfl rfl rfl <| w_f b318 d318_74 rfl (pf_iadd (443 + (4 * ((gI w 170 9).tmod 100))) 1) rfl <| w_f b318 d318_75 rfl rfl rfl <| w_ias b318 d318_76 rfl (Sh_sI hs (slt_a tbC_170)) (tlt 170 rfl) tbC_170 (bdix (n := 843) (((h.2.2 c1).2.2.2.2 c11).2 _ rfl).1 rfl) (((h.2.2 c1).2.2.2.2 c11).2 _ rfl).1 <| w_f b318 d318_77 rfl rfl rfl <| w_gr b318 d318_78 rfl rfl (Sh_sI (Sh_sI hs (slt_a tbC_170)) (slt_a tbC_170)) (tlt 169 rfl) tbC_169 rfl (by decide) <| w_f b318 d318_81 rfl rfl rfl <| w_f b318 d318_83 rfl rfl rfl <| w_f b318 d318_84 rfl (pf_iadd (443 + (4 * ((gI w 170 9).tmod 100))) 2) rfl <| w_f b318 d318_85 rfl rfl rfl <| w_f b318 d318_86 rfl rfl rfl <| w_f b318 d318_87 rfl rfl rfl <| w_cc b318 d318_88 rfl (pcl_v (n := 2) rfl rfl rfl (by decide +kernel) (sh_isOb (Sh_sI (Sh_sI hs (slt_a tbC_170)) (slt_a tbC_170)) (tlt 169 rfl) tbC_169) rfl rfl) rfl <| c261 (Sh_sI (Sh_sI hs (slt_a tbC_170)) (slt_a tbC_170)) hx1 ⟨by decide, by decide⟩ ((((h.2.2 c1).2.2.2.2 c11).2 _ rfl).2 _ rfl).1 <| w_ias b318 d318_91 rfl (Sh_sI (Sh_sI hs (slt_a tbC_170)) (slt_a tbC_170)) (tlt 170 rfl) tbC_170 (bdix (n := 843) ((((h.2.2 c1).2.2.2.2 c11).2 _ rfl).2 _ rfl).2.1 rfl) ((((h.2.2 c1).2.2.2.2 c11).2 _ rfl).2 _ rfl).2.1 <| w_f b318 d318_92 rfl rfl rfl <| w_gr b318 d318_93 rfl rfl (Sh_sI (Sh_sI (Sh_sI hs (slt_a tbC_170)) (slt_a tbC_170)) (slt_a tbC_170)) (tlt 169 rfl) tbC_169 rfl (by decide) <| w_f b318 d318_96 rfl rfl rfl <| w_f b318 d318_98 rfl rfl rfl <| w_f b318 d318_99 rfl (pf_iadd (443 + (4 * ((gI w 170 9).tmod 100))) 3) rfl <| w_f b318 d318_100 rfl rfl rfl <| w_ias b318 d318_101 rfl (Sh_sI (Sh_sI (Sh_sI hs (slt_a tbC_170)) (slt_a tbC_170)) (slt_a tbC_170)) (tlt 170 rfl) tbC_170 (bdix (n := 843) (((((h.2.2 c1).2.2.2.2 c11).2 _ rfl).2 _ rfl).2.2 _ rfl).1 rfl) (((((h.2.2 c1).2.2.2.2 c11).2 _ rfl).2 _ rfl).2.2 _ rfl).1 <| w_f b318 d318_102 rfl rfl rfl <| w_gr b318 d318_103 rfl rfl (Sh_sI (Sh_sI (Sh_sI (Sh_sI hs (slt_a tbC_170)) (slt_a tbC_170)) (slt_a tbC_170)) (slt_a tbC_170)) (tlt 169 rfl) tbC_169 rfl (by decide) <| w_f b318 d318_106 rfl rfl rfl <| w_f b318 d318_108 rfl rfl rfl <| w_ial b318 d318_109 rfl (Sh_sI (Sh_sI (Sh_sI (Sh_sI hs (slt_a tbC_170)) (slt_a tbC_170)) (slt_a tbC_170)) (slt_a tbC_170)) (tlt 170 rfl) tbC_170 (bdix (n := 843) ⟨by decide, by decide⟩ rfl) ⟨by decide, by decide⟩ <| w_f b318 d318_110 rfl rfl rfl <| w_f b318 d318_111 rfl (pf_iadd _ 1) rfl <| w_ias b318 d318_112 rfl (Sh_sI (Sh_sI (Sh_sI (Sh_sI hs (slt_a tbC_170)) (slt_a tbC_170)) (slt_a tbC_170)) (slt_a tbC_170)) (tlt 170 rfl) tbC_170 (bdix (n := 843) ⟨by decide, by decide⟩ rfl) ⟨by decide, by decide⟩ <| w_f b318 d318_113 rfl rfl rfl <| w_gr b318 d318_114 rfl rfl (Sh_sI (Sh_sI (Sh_sI (Sh_sI (Sh_sI hs (slt_a tbC_170)) (slt_a tbC_170)) (slt_a tbC_170)) (slt_a tbC_170)) (slt_a tbC_170)) (tlt 169 rfl) tbC_169 rfl (by decide) <| w_f b318 d318_117 rfl rfl rfl <| w_f b318 d318_119 rfl rfl rfl <| w_ial b318 d318_120 rfl (Sh_sI (Sh_sI (Sh_sI (Sh_sI (Sh_sI hs (slt_a tbC_170)) (slt_a tbC_170)) (slt_a tbC_170)) (slt_a tbC_170)) (slt_a tbC_170)) (tlt 170 rfl) tbC_170 (bdix (n := 843) ⟨by decide, by decide⟩ rfl) ⟨by decide, by decide⟩ <| w_f b318 d318_121 rfl rfl rfl <| w_f b318 d318_122 rfl (pf_iadd _ 1) rfl <| w_ias b318 d318_123 rfl (Sh_sI (Sh_sI (Sh_sI (Sh_sI (Sh_sI hs (slt_a tbC_170)) (slt_a tbC_170)) (slt_a tbC_170)) (slt_a tbC_170)) (slt_a tbC_170)) (tlt 170 rfl) tbC_170 (bdix (n := 843) ⟨by decide, by decide⟩ rfl) ⟨by decide, by decide⟩ <| w_f b318 d318_124 rfl rfl rfl <| w_gr b318 d318_125 rfl rfl (Sh_sI (Sh_sI (Sh_sI (Sh_sI (Sh_sI (Sh_sI hs (slt_a tbC_170)) (slt_a tbC_170)) (slt_a tbC_170)) (slt_a tbC_170)) (slt_a tbC_170)) (slt_a tbC_170)) (tlt 169 rfl) tbC_169 rfl (by decide) <| w_f b318 d318_128 rfl rfl rfl <| w_f b318 d318_129 rfl rfl rfl <| w_cc b318 d318_130 rfl (pcl_s1 (n := 2) rfl rfl rfl (by decide +kernel) rfl rfl) rfl <| c230 (Sh_sI (Sh_sI (Sh_sI (Sh_sI (Sh_sI (Sh_sI hs (slt_a tbC_170)) (slt_a tbC_170)) (slt_a tbC_170)) (slt_a tbC_170)) (slt_a tbC_170)) (slt_a tbC_170)) hx1 ⟨by decide, by decide⟩ <| w_f b318 d318_133 rfl rfl rfl <| w_ial b318 d318_134 rfl (Sh_sI (Sh_sI (Sh_sI (Sh_sI (Sh_sI (Sh_sI hs (slt_a tbC_170)) (slt_a tbC_170)) (slt_a tbC_170)) (slt_a tbC_170)) (slt_a tbC_170)) (slt_a tbC_170)) (tlt 170 rfl) tbC_170 (bdix (n := 843) ((((((((h.2.2 c1).2.2.2.2 c11).2 _ rfl).2 _ rfl).2.2 _ rfl).2 _ rfl) _ rfl) _ rfl).1 rfl) ((((((((h.2.2 c1).2.2.2.2 c11).2 _ rfl).2 _ rfl).2.2 _ rfl).2 _ rfl) _ rfl) _ rfl).1 <| w_f b318 d318_135 rfl rfl rfl <| w_f b318 d318_136 rfl (pf_iadd _ 1) rfl <| w_ias b318 d318_137 rfl (Sh_sI (Sh_sI (Sh_sI (Sh_sI (Sh_sI (Sh_sI hs (slt_a tbC_170)) (slt_a tbC_170)) (slt_a tbC_170)) (slt_a tbC_170)) (slt_a tbC_170)) (slt_a tbC_170)) (tlt 170 rfl) tbC_170 (bdix (n := 843) ((((((((h.2.2 c1).2.2.2.2 c11).2 _ rfl).2 _ rfl).2.2 _ rfl).2 _ rfl) _ rfl) _ rfl).2.1 rfl) ((((((((h.2.2 c1).2.2.2.2 c11).2 _ rfl).2 _ rfl).2.2 _ rfl).2 _ rfl) _ rfl) _ rfl).2.1 <| w_f b318 d318_138 rfl rfl rfl <| w_gr b318 d318_139 rfl rfl (Sh_sI (Sh_sI (Sh_sI (Sh_sI (Sh_sI (Sh_sI (Sh_sI hs (slt_a tbC_170)) (slt_a tbC_170)) (slt_a tbC_170)) (slt_a tbC_170)) (slt_a tbC_170)) (slt_a tbC_170)) (slt_a tbC_170)) (tlt 169 rfl) tbC_169 rfl (by decide) <| w_f b318 d318_142 rfl rfl rfl <| w_f b318 d318_143 rfl rfl rfl <| w_cc b318 d318_144 rfl (pcl_s1 (n := 2) rfl rfl rfl (by decide +kernel) rfl rfl) rfl <| c230 (Sh_sI (Sh_sI (Sh_sI (Sh_sI (Sh_sI (Sh_sI (Sh_sI hs (slt_a tbC_170)) (slt_a tbC_170)) (slt_a tbC_170)) (slt_a tbC_170)) (slt_a tbC_170)) (slt_a tbC_170)) (slt_a tbC_170)) hx1 ⟨by decide, by decide⟩ <| w_f b318 d318_147 rfl rfl rfl <| w_ial b318 d318_148 rfl (Sh_sI (Sh_sI (Sh_sI (Sh_sI (Sh_sI (Sh_sI (Sh_sI hs (slt_a tbC_170)) (slt_a tbC_170)) (slt_a tbC_170)) (slt_a tbC_170)) (slt_a tbC_170)) (slt_a tbC_170)) (slt_a tbC_170)) (tlt 170 rfl) tbC_170 (bdix (n := 843) (((((((((h.2.2 c1).2.2.2.2 c11).2 _ rfl).2 _ rfl).2.2 _ rfl).2 _ rfl) _ rfl) _ rfl).2.2 _ rfl).1 rfl) (((((((((h.2.2 c1).2.2.2.2 c11).2 _ rfl).2 _ rfl).2.2 _ rfl).2 _ rfl) _ rfl) _ rfl).2.2 _ rfl).1 <| w_f b318 d318_149 rfl rfl rfl <| w_f b318 d318_150 rfl (pf_iadd _ 1) rfl <| w_ias b318 d318_151 rfl (Sh_sI (Sh_sI (Sh_sI (Sh_sI (Sh_sI (Sh_sI (Sh_sI hs (slt_a tbC_170)) (slt_a tbC_170)) (slt_a tbC_170)) (slt_a tbC_170)) (slt_a tbC_170)) (slt_a tbC_170)) (slt_a tbC_170)) (tlt 170 rfl) tbC_170 (bdix (n := 843) (((((((((h.2.2 c1).2.2.2.2 c11).2 _ rfl).2 _ rfl).2.2 _ rfl).2 _ rfl) _ rfl) _ rfl).2.2 _ rfl).2.1 rfl) (((((((((h.2.2 c1).2.2.2.2 c11).2 _ rfl).2 _ rfl).2.2 _ rfl).2 _ rfl) _ rfl) _ rfl).2.2 _ rfl).2.1 <| w_f b318 d318_152 rfl rfl rfl <| w_gr b318 d318_153 rfl rfl (Sh_sI (Sh_sI (Sh_sI (Sh_sI (Sh_sI (Sh_sI (Sh_sI (Sh_sI hs (slt_a tbC_170)) (slt_a tbC_170)) (slt_a tbC_170)) (slt_a tbC_170)) (slt_a tbC_170)) (slt_a tbC_170)) (slt_a tbC_170)) (slt_a tbC_170)) (tlt 169 rfl) tbC_169 rfl (by decide) <| w_f b318 d318_156 rfl rfl rfl <| w_f b318 d318_157 rfl rfl rfl <| w_cc b318 d318_158 rfl (pcl_s1 (n := 2) rfl rfl rfl (by decide +kernel) rfl rfl) rfl <| c230 (Sh_sI (Sh_sI (Sh_sI (Sh_sI (Sh_sI (Sh_sI (Sh_sI (Sh_sI hs (slt_a tbC_170)) (slt_a tbC_170)) (slt_a tbC_170)) (slt_a tbC_170)) (slt_a tbC_170)) (slt_a tbC_170)) (slt_a tbC_170)) (slt_a tbC_170)) hx1 ⟨by decide, by decide⟩ <| w_f b318 d318_161 rfl rfl rfl <| w_gr b318 d318_162 rfl rfl (Sh_sI (Sh_sI (Sh_sI (Sh_sI (Sh_sI (Sh_sI (Sh_sI (Sh_sI hs (slt_a tbC_170)) (slt_a tbC_170)) (slt_a tbC_170)) (slt_a tbC_170)) (slt_a tbC_170)) (slt_a tbC_170)) (slt_a tbC_170)) (slt_a tbC_170)) (tlt 169 rfl) tbC_169 rfl (by decide) <| w_f b318 d318_165 rfl rfl rfl <| w_ial b318 d318_167 rfl (Sh_sI (Sh_sI (Sh_sI (Sh_sI (Sh_sI (Sh_sI (Sh_sI (Sh_sI hs (slt_a tbC_170)) (slt_a tbC_170)) (slt_a tbC_170)) (slt_a tbC_170)) (slt_a tbC_170)) (slt_a tbC_170)) (slt_a tbC_170)) (slt_a tbC_170)) (tlt 170 rfl) tbC_170 (bdix (n := 843) ⟨by decide, by decide⟩ rfl) ⟨by decide, by decide⟩ <| w_ias b318 d318_168 rfl (Sh_sI (Sh_sI (Sh_sI (Sh_sI (Sh_sI (Sh_sI (Sh_sI (Sh_sI hs (slt_a tbC_170)) (slt_a tbC_170)) (slt_a tbC_170)) (slt_a tbC_170)) (slt_a tbC_170)) (slt_a tbC_170)) (slt_a tbC_170)) (slt_a tbC_170)) (tlt 170 rfl) tbC_170 (bdix (n := 843) ((((((((((h.2.2 c1).2.2.2.2 c11).2 _ rfl).2 _ rfl).2.2 _ rfl).2 _ rfl) _ rfl) _ rfl).2.2 _ rfl).2.2 _ rfl).1 rfl) ((((((((((h.2.2 c1).2.2.2.2 c11).2 _ rfl).2 _ rfl).2.2 _ rfl).2 _ rfl) _ rfl) _ rfl).2.2 _ rfl).2.2 _ rfl).1 <| w_rv b318 d318_169 r318 (((((((((((h.2.2 c1).2.2.2.2 c11).2 _ rfl).2 _ rfl).2.2 _ rfl).2 _ rfl) _ rfl) _ rfl).2.2 _ rfl).2.2 _ rfl).2 _ rfl)))
theorem e318 {w : PW} {Q : PO → PW → Prop} {x1 : Int} (hs : Sh w) (hx1 : bd x1) (h : (0 ≤ (11 + 5 * x1) + 4 ∧ (11 + 5 * x1) + 4 < 843) ∧ ((gI w 170 ((11 + 5 * x1) + 4).toNat) = ((-1)) → (0 ≤ (443 + (4 * ((gI w 170 9).tmod 100))) ∧ (443 + (4 * ((gI w 170 9).tmod 100))) < 843) ∧ ∀ w2 : PW, w2 = sI w 170 (443 + (4 * ((gI w 170 9).tmod 100))).toNat (gI w 170 8) → (0 ≤ ((443 + (4 * ((gI w 170 9).tmod 100))) + 1) ∧ ((443 + (4 * ((gI w 170 9).tmod 100))) + 1) < 843) ∧ ∀ w3 : PW, w3 = sI w2 170 ((443 + (4 * ((gI w 170 9).tmod 100))) + 1).toNat x1 → (0 ≤ (11 + 5 * x1) + 0 ∧ (11 + 5 * x1) + 0 < 843) ∧ (0 ≤ ((443 + (4 * ((gI w 170 9).tmod 100))) + 2) ∧ ((443 + (4 * ((gI w 170 9).tmod 100))) + 2) < 843) ∧ ∀ w4 : PW, w4 = sI w3 170 ((443 + (4 * ((gI w 170 9).tmod 100))) + 2).toNat (gI w3 170 ((11 + 5 * x1) + 0).toNat) → (0 ≤ ((443 + (4 * ((gI w 170 9).tmod 100))) + 3) ∧ ((443 + (4 * ((gI w 170 9).tmod 100))) + 3) < 843) ∧ ∀ w5 : PW, w5 = sI w4 170 ((443 + (4 * ((gI w 170 9).tmod 100))) + 3).toNat 0 → ∀ w6 : PW, w6 = sI w5 170 9 ((gI w5 170 9) + 1) → ∀ w7 : PW, w7 = sI w6 170 10 ((gI w6 170 10) + 0) → (0 ≤ ((11 + 5 * x1) + 2) ∧ ((11 + 5 * x1) + 2) < 843) ∧ (0 ≤ ((11 + 5 * x1) + 2) ∧ ((11 + 5 * x1) + 2) < 843) ∧ ∀ w8 : PW, w8 = sI w7 170 ((11 + 5 * x1) + 2).toNat ((gI w7 170 ((11 + 5 * x1) + 2).toNat) + 1) → (0 ≤ ((11 + 5 * x1) + 3) ∧ ((11 + 5 * x1) + 3) < 843) ∧ (0 ≤ ((11 + 5 * x1) + 3) ∧ ((11 + 5 * x1) + 3) < 843) ∧ ∀ w9 : PW, w9 = sI w8 170 ((11 + 5 * x1) + 3).toNat ((gI w8 170 ((11 + 5 * x1) + 3).toNat) + 0) → (0 ≤ ((11 + 5 * x1) + 4) ∧ ((11 + 5 * x1) + 4) < 843) ∧ ∀ w10 : PW, w10 = sI w9 170 ((11 + 5 * x1) + 4).toNat (gI w9 170 8) → Q (.inl none) w10) ∧ ((gI w 170 ((11 + 5 * x1) + 4).toNat) ≠ ((-1)) → (0 ≤ (11 + 5 * x1) + 1 ∧ (11 + 5 * x1) + 1 < 843) ∧ (bd ((gI w 170 8) - (gI w 170 ((11 + 5 * x1) + 4).toNat))) ∧ (bd ((gI w 170 ((11 + 5 * x1) + 1).toNat) * (gI w 170 3))) ∧ (((gI w 170 ((11 + 5 * x1) + 1).toNat) * (gI w 170 3)) ≤ ((gI w 170 8) - (gI w 170 ((11 + 5 * x1) + 4).toNat)) → (0 ≤ (443 + (4 * ((gI w 170 9).tmod 100))) ∧ (443 + (4 * ((gI w 170 9).tmod 100))) < 843) ∧ ∀ w12 : PW, w12 = sI w 170 (443 + (4 * ((gI w 170 9).tmod 100))).toNat (gI w 170 8) → (0 ≤ ((443 + (4 * ((gI w 170 9).tmod 100))) + 1) ∧ ((443 + (4 * ((gI w 170 9).tmod 100))) + 1) < 843) ∧ ∀ w13 : PW, w13 = sI w12 170 ((443 + (4 * ((gI w 170 9).tmod 100))) + 1).toNat x1 → (0 ≤ (11 + 5 * x1) + 0 ∧ (11 + 5 * x1) + 0 < 843) ∧ (0 ≤ ((443 + (4 * ((gI w 170 9).tmod 100))) + 2) ∧ ((443 + (4 * ((gI w 170 9).tmod 100))) + 2) < 843) ∧ ∀ w14 : PW, w14 = sI w13 170 ((443 + (4 * ((gI w 170 9).tmod 100))) + 2).toNat (gI w13 170 ((11 + 5 * x1) + 0).toNat) → (0 ≤ ((443 + (4 * ((gI w 170 9).tmod 100))) + 3) ∧ ((443 + (4 * ((gI w 170 9).tmod 100))) + 3) < 843) ∧ ∀ w15 : PW, w15 = sI w14 170 ((443 + (4 * ((gI w 170 9).tmod 100))) + 3).toNat 0 → ∀ w16 : PW, w16 = sI w15 170 9 ((gI w15 170 9) + 1) → ∀ w17 : PW, w17 = sI w16 170 10 ((gI w16 170 10) + 0) → (0 ≤ ((11 + 5 * x1) + 2) ∧ ((11 + 5 * x1) + 2) < 843) ∧ (0 ≤ ((11 + 5 * x1) + 2) ∧ ((11 + 5 * x1) + 2) < 843) ∧ ∀ w18 : PW, w18 = sI w17 170 ((11 + 5 * x1) + 2).toNat ((gI w17 170 ((11 + 5 * x1) + 2).toNat) + 1) → (0 ≤ ((11 + 5 * x1) + 3) ∧ ((11 + 5 * x1) + 3) < 843) ∧ (0 ≤ ((11 + 5 * x1) + 3) ∧ ((11 + 5 * x1) + 3) < 843) ∧ ∀ w19 : PW, w19 = sI w18 170 ((11 + 5 * x1) + 3).toNat ((gI w18 170 ((11 + 5 * x1) + 3).toNat) + 0) → (0 ≤ ((11 + 5 * x1) + 4) ∧ ((11 + 5 * x1) + 4) < 843) ∧ ∀ w20 : PW, w20 = sI w19 170 ((11 + 5 * x1) + 4).toNat (gI w19 170 8) → Q (.inl none) w20) ∧ (((gI w 170 8) - (gI w 170 ((11 + 5 * x1) + 4).toNat)) < ((gI w 170 ((11 + 5 * x1) + 1).toNat) * (gI w 170 3)) → (0 ≤ (443 + (4 * ((gI w 170 9).tmod 100))) ∧ (443 + (4 * ((gI w 170 9).tmod 100))) < 843) ∧ ∀ w21 : PW, w21 = sI w 170 (443 + (4 * ((gI w 170 9).tmod 100))).toNat (gI w 170 8) → (0 ≤ ((443 + (4 * ((gI w 170 9).tmod 100))) + 1) ∧ ((443 + (4 * ((gI w 170 9).tmod 100))) + 1) < 843) ∧ ∀ w22 : PW, w22 = sI w21 170 ((443 + (4 * ((gI w 170 9).tmod 100))) + 1).toNat x1 → (0 ≤ (11 + 5 * x1) + 0 ∧ (11 + 5 * x1) + 0 < 843) ∧ (0 ≤ ((443 + (4 * ((gI w 170 9).tmod 100))) + 2) ∧ ((443 + (4 * ((gI w 170 9).tmod 100))) + 2) < 843) ∧ ∀ w23 : PW, w23 = sI w22 170 ((443 + (4 * ((gI w 170 9).tmod 100))) + 2).toNat (gI w22 170 ((11 + 5 * x1) + 0).toNat) → (0 ≤ ((443 + (4 * ((gI w 170 9).tmod 100))) + 3) ∧ ((443 + (4 * ((gI w 170 9).tmod 100))) + 3) < 843) ∧ ∀ w24 : PW, w24 = sI w23 170 ((443 + (4 * ((gI w 170 9).tmod 100))) + 3).toNat 1 → ∀ w25 : PW, w25 = sI w24 170 9 ((gI w24 170 9) + 1) → ∀ w26 : PW, w26 = sI w25 170 10 ((gI w25 170 10) + 1) → (0 ≤ ((11 + 5 * x1) + 2) ∧ ((11 + 5 * x1) + 2) < 843) ∧ (0 ≤ ((11 + 5 * x1) + 2) ∧ ((11 + 5 * x1) + 2) < 843) ∧ ∀ w27 : PW, w27 = sI w26 170 ((11 + 5 * x1) + 2).toNat ((gI w26 170 ((11 + 5 * x1) + 2).toNat) + 1) → (0 ≤ ((11 + 5 * x1) + 3) ∧ ((11 + 5 * x1) + 3) < 843) ∧ (0 ≤ ((11 + 5 * x1) + 3) ∧ ((11 + 5 * x1) + 3) < 843) ∧ ∀ w28 : PW, w28 = sI w27 170 ((11 + 5 * x1) + 3).toNat ((gI w27 170 ((11 + 5 * x1) + 3).toNat) + 1) → (0 ≤ ((11 + 5 * x1) + 4) ∧ ((11 + 5 * x1) + 4) < 843) ∧ ∀ w29 : PW, w29 = sI w28 170 ((11 + 5 * x1) + 4).toNat (gI w28 170 8) → Q (.inl none) w29))) : pC 318 [.ref 169, iv x1] w Q :=
  (pC_in (Nat.le_of_ble_eq_true rfl) rfl Q).mpr (v318_0 hs hx1 h)
/-! 319: PinBarrelModel.ticks()I -/
theorem b319 : mB 319 = cX9_ticks := rfl
theorem r319 : mR 319 = (some .int) := rfl
theorem p319 (a b : Nat) : phi 319 a ≤ phi 319 b := Nat.le_refl 0
theorem d319_0 : decode cX9_ticks 0 = .ok (.iconst 0, 1) := by decide +kernel
theorem d319_1 : decode cX9_ticks 1 = .ok (.istore_n 1, 1) := by decide +kernel
theorem d319_2 : decode cX9_ticks 2 = .ok (.iconst 0, 1) := by decide +kernel
theorem d319_3 : decode cX9_ticks 3 = .ok (.istore_n 2, 1) := by decide +kernel
theorem d319_4 : decode cX9_ticks 4 = .ok (.iload_n 2, 1) := by decide +kernel
theorem d319_5 : decode cX9_ticks 5 = .ok (.aload_n 0, 1) := by decide +kernel
theorem d319_6 : decode cX9_ticks 6 = .ok (.getfield 9, 3) := by decide +kernel
theorem d319_9 : decode cX9_ticks 9 = .ok (.iconst 4, 1) := by decide +kernel
theorem d319_10 : decode cX9_ticks 10 = .ok (.iaload, 1) := by decide +kernel
theorem d319_11 : decode cX9_ticks 11 = .ok (.if_icmp .ge 42, 3) := by decide +kernel
theorem d319_14 : decode cX9_ticks 14 = .ok (.aload_n 0, 1) := by decide +kernel
theorem d319_15 : decode cX9_ticks 15 = .ok (.aload_n 0, 1) := by decide +kernel
theorem d319_16 : decode cX9_ticks 16 = .ok (.getfield 9, 3) := by decide +kernel
theorem d319_19 : decode cX9_ticks 19 = .ok (.bipush 6, 2) := by decide +kernel
theorem d319_21 : decode cX9_ticks 21 = .ok (.iaload, 1) := by decide +kernel
theorem d319_22 : decode cX9_ticks 22 = .ok (.aload_n 0, 1) := by decide +kernel
theorem d319_23 : decode cX9_ticks 23 = .ok (.getfield 9, 3) := by decide +kernel
theorem d319_26 : decode cX9_ticks 26 = .ok (.bipush 7, 2) := by decide +kernel
theorem d319_28 : decode cX9_ticks 28 = .ok (.iaload, 1) := by decide +kernel
theorem d319_29 : decode cX9_ticks 29 = .ok (.iload_n 2, 1) := by decide +kernel
theorem d319_30 : decode cX9_ticks 30 = .ok (.invokevirtual 228, 3) := by decide +kernel
theorem d319_33 : decode cX9_ticks 33 = .ok (.ifCond .ne 6, 3) := by decide +kernel
theorem d319_36 : decode cX9_ticks 36 = .ok (.goto 11, 3) := by decide +kernel
theorem d319_39 : decode cX9_ticks 39 = .ok (.aload_n 0, 1) := by decide +kernel
theorem d319_40 : decode cX9_ticks 40 = .ok (.iload_n 2, 1) := by decide +kernel
theorem d319_41 : decode cX9_ticks 41 = .ok (.invokevirtual 323, 3) := by decide +kernel
theorem d319_44 : decode cX9_ticks 44 = .ok (.iinc 1 1, 3) := by decide +kernel
theorem d319_47 : decode cX9_ticks 47 = .ok (.iinc 2 1, 3) := by decide +kernel
theorem d319_50 : decode cX9_ticks 50 = .ok (.goto (-46), 3) := by decide +kernel
theorem d319_53 : decode cX9_ticks 53 = .ok (.aload_n 0, 1) := by decide +kernel
theorem d319_54 : decode cX9_ticks 54 = .ok (.getfield 9, 3) := by decide +kernel
theorem d319_57 : decode cX9_ticks 57 = .ok (.bipush 7, 2) := by decide +kernel
theorem d319_59 : decode cX9_ticks 59 = .ok (.aload_n 0, 1) := by decide +kernel
theorem d319_60 : decode cX9_ticks 60 = .ok (.getfield 9, 3) := by decide +kernel
theorem d319_63 : decode cX9_ticks 63 = .ok (.bipush 7, 2) := by decide +kernel
theorem d319_65 : decode cX9_ticks 65 = .ok (.iaload, 1) := by decide +kernel
theorem d319_66 : decode cX9_ticks 66 = .ok (.iconst 1, 1) := by decide +kernel
theorem d319_67 : decode cX9_ticks 67 = .ok (.iadd, 1) := by decide +kernel
theorem d319_68 : decode cX9_ticks 68 = .ok (.aload_n 0, 1) := by decide +kernel
theorem d319_69 : decode cX9_ticks 69 = .ok (.getfield 9, 3) := by decide +kernel
theorem d319_72 : decode cX9_ticks 72 = .ok (.iconst 0, 1) := by decide +kernel
theorem d319_73 : decode cX9_ticks 73 = .ok (.iaload, 1) := by decide +kernel
theorem d319_74 : decode cX9_ticks 74 = .ok (.irem, 1) := by decide +kernel
theorem d319_75 : decode cX9_ticks 75 = .ok (.iastore, 1) := by decide +kernel
theorem d319_76 : decode cX9_ticks 76 = .ok (.aload_n 0, 1) := by decide +kernel
theorem d319_77 : decode cX9_ticks 77 = .ok (.getfield 9, 3) := by decide +kernel
theorem d319_80 : decode cX9_ticks 80 = .ok (.bipush 8, 2) := by decide +kernel
theorem d319_82 : decode cX9_ticks 82 = .ok (.dup2, 1) := by decide +kernel
theorem d319_83 : decode cX9_ticks 83 = .ok (.iaload, 1) := by decide +kernel
theorem d319_84 : decode cX9_ticks 84 = .ok (.iconst 1, 1) := by decide +kernel
theorem d319_85 : decode cX9_ticks 85 = .ok (.iadd, 1) := by decide +kernel
theorem d319_86 : decode cX9_ticks 86 = .ok (.iastore, 1) := by decide +kernel
theorem d319_87 : decode cX9_ticks 87 = .ok (.iload_n 1, 1) := by decide +kernel
theorem d319_88 : decode cX9_ticks 88 = .ok (.ireturn, 1) := by decide +kernel
theorem v319_0 {w : PW} {Q : PO → PW → Prop}  (hs : Sh w)  (h : pX 319 4 [some (.ref 169), some (iv 0), some (iv 0)] [] w Q) : pX 319 0 [some (.ref 169), none, none] [] w Q :=
  w_f b319 d319_0 rfl rfl rfl <| w_f b319 d319_1 rfl rfl rfl <| w_f b319 d319_2 rfl rfl rfl <| w_f b319 d319_3 rfl rfl rfl <| h
theorem e319 {w : PW} {Q : PO → PW → Prop}  (hs : Sh w)  (h : pX 319 4 [some (.ref 169), some (iv 0), some (iv 0)] [] w Q) : pC 319 [.ref 169] w Q :=
  (pC_in (Nat.le_of_ble_eq_true rfl) rfl Q).mpr (v319_0 hs  h)
theorem v319_4 {w : PW} {Q : PO → PW → Prop} {x1 : Int} {x2 : Int} (hs : Sh w) (hx1 : bd x1) (hx2 : bd x2) (h : ((gI w 170 4) ≤ x2 → (bd ((gI w 170 7) + 1)) ∧ (0 < (gI w 170 0) ∧ (gI w 170 0) < 2147483648) ∧ ∀ w2 : PW, w2 = sI w 170 7 (((gI w 170 7) + 1).tmod (gI w 170 0)) → ∀ w3 : PW, w3 = sI w2 170 8 ((gI w2 170 8) + 1) → Q (.inl (some (iv x1))) w3) ∧ (x2 < (gI w 170 4) → (bd ((251 + 64 * (gI w 170 6)) + (gI w 170 7))) ∧ (0 ≤ (251 + 64 * (gI w 170 6)) + (gI w 170 7) ∧ (251 + 64 * (gI w 170 6)) + (gI w 170 7) < 843) ∧ (0 ≤ x2 ∧ x2 < 32) ∧ ((tI (gI w 170 ((251 + 64 * (gI w 170 6)) + (gI w 170 7)).toNat) (x2).toNat = true) → pC 318 [.ref 169, iv x2] w (kV fun w5 => Sh w5 ∧ pX 319 4 [some (.ref 169), some (iv (x1 + 1)), some (iv (x2 + 1))] [] w5 Q)) ∧ ((¬ (tI (gI w 170 ((251 + 64 * (gI w 170 6)) + (gI w 170 7)).toNat) (x2).toNat = true)) → pX 319 4 [some (.ref 169), some (iv x1), some (iv (x2 + 1))] [] w Q))) : pX 319 4 [some (.ref 169), some (iv x1), some (iv x2)] [] w Q :=
  w_f b319 d319_4 rfl rfl rfl <| w_f b319 d319_5 rfl rfl rfl <| w_gr b319 d319_6 rfl rfl hs (tlt 169 rfl) tbC_169 rfl (by decide) <| w_f b319 d319_9 rfl rfl rfl <| w_ial b319 d319_10 rfl hs (tlt 170 rfl) tbC_170 (bdix (n := 843) ⟨by decide, by decide⟩ rfl) ⟨by decide, by decide⟩ <| w_icge b319 d319_11 rfl rfl (p319 _ _) hx2 (bd_gI _ _ _) (fun c1 => w_f b319 d319_53 rfl rfl rfl <| w_gr b319 d319_54 rfl rfl hs (tlt 169 rfl) tbC_169 rfl (by decide) <| w_f b319 d319_57 rfl rfl rfl <| w_f b319 d319_59 rfl rfl rfl <| w_gr b319 d319_60 rfl rfl hs (tlt 169 rfl) tbC_169 rfl (by decide) <| w_f b319 d319_63 rfl rfl rfl <| w_ial b319 d319_65 rfl hs (tlt 170 rfl) tbC_170 (bdix (n := 843) ⟨by decide, by decide⟩ rfl) ⟨by decide, by decide⟩ <| w_f b319 d319_66 rfl rfl rfl <| w_f b319 d319_67 rfl (pf_iadd (gI w 170 7) 1) rfl <| w_f b319 d319_68 rfl rfl rfl <| w_gr b319 d319_69 rfl rfl hs (tlt 169 rfl) tbC_169 rfl (by decide) <| w_f b319 d319_72 rfl rfl rfl <| w_ial b319 d319_73 rfl hs (tlt 170 rfl) tbC_170 (bdix (n := 843) ⟨by decide, by decide⟩ rfl) ⟨by decide, by decide⟩ <| w_f b319 d319_74 rfl (pf_irem (h.1 c1).1 (h.1 c1).2.1) rfl <| w_ias b319 d319_75 rfl hs (tlt 170 rfl) tbC_170 (bdix (n := 843) ⟨by decide, by decide⟩ rfl) ⟨by decide, by decide⟩ <| w_f b319 d319_76 rfl rfl rfl <| w_gr b319 d319_77 rfl rfl (Sh_sI hs (slt_a tbC_170)) (tlt 169 rfl) tbC_169 rfl (by decide) <| w_f b319 d319_80 rfl rfl rfl <| w_f b319 d319_82 rfl rfl rfl <| w_ial b319 d319_83 rfl (Sh_sI hs (slt_a tbC_170)) (tlt 170 rfl) tbC_170 (bdix (n := 843) ⟨by decide, by decide⟩ rfl) ⟨by decide, by decide⟩ <| w_f b319 d319_84 rfl rfl rfl <| w_f b319 d319_85 rfl (pf_iadd _ 1) rfl <| w_ias b319 d319_86 rfl (Sh_sI hs (slt_a tbC_170)) (tlt 170 rfl) tbC_170 (bdix (n := 843) ⟨by decide, by decide⟩ rfl) ⟨by decide, by decide⟩ <| w_f b319 d319_87 rfl rfl rfl <| w_ri b319 d319_88 r319 (((h.1 c1).2.2 _ rfl) _ rfl)) (fun c1 => w_f b319 d319_14 rfl rfl rfl <| w_f b319 d319_15 rfl rfl rfl <| w_gr b319 d319_16 rfl rfl hs (tlt 169 rfl) tbC_169 rfl (by decide) <| w_f b319 d319_19 rfl rfl rfl <| w_ial b319 d319_21 rfl hs (tlt 170 rfl) tbC_170 (bdix (n := 843) ⟨by decide, by decide⟩ rfl) ⟨by decide, by decide⟩ <| w_f b319 d319_22 rfl rfl rfl <| w_gr b319 d319_23 rfl rfl hs (tlt 169 rfl) tbC_169 rfl (by decide) <| w_f b319 d319_26 rfl rfl rfl <| w_ial b319 d319_28 rfl hs (tlt 170 rfl) tbC_170 (bdix (n := 843) ⟨by decide, by decide⟩ rfl) ⟨by decide, by decide⟩ <| w_f b319 d319_29 rfl rfl rfl <| w_cc b319 d319_30 rfl (pcl_v (n := 3) rfl rfl rfl (by decide +kernel) (sh_isOb hs (tlt 169 rfl) tbC_169) rfl rfl) rfl <| c251 hs (bd_gI _ _ _) (bd_gI _ _ _) hx2 (h.2 c1).1 (h.2 c1).2.1 (h.2 c1).2.2.1 <| w_ifneZ b319 d319_33 rfl rfl (p319 _ _) (fun c4 => w_f b319 d319_39 rfl rfl rfl <| w_f b319 d319_40 rfl rfl rfl <| w_c b319 d319_41 rfl (pcl_v (n := 1) rfl rfl rfl (by decide +kernel) (sh_isOb hs (tlt 169 rfl) tbC_169) rfl rfl) rfl _ (hK_V fun w5 hkw5 => w_f b319 d319_44 rfl (pf_iinc rfl rfl) rfl <| w_f b319 d319_47 rfl (pf_iinc rfl rfl) rfl <| w_j b319 d319_50 rfl (p319 _ _) <| hkw5.2) ((h.2 c1).2.2.2.1 c4)) (fun c4 => w_j b319 d319_36 rfl (p319 _ _) <| w_f b319 d319_47 rfl (pf_iinc rfl rfl) rfl <| w_j b319 d319_50 rfl (p319 _ _) <| ((h.2 c1).2.2.2.2 c4)))
/-! 320: PinBarrelModel.runs(I)I -/
theorem b320 : mB 320 = cX9_runs := rfl
theorem r320 : mR 320 = (some .int) := rfl
theorem p320 (a b : Nat) : phi 320 a ≤ phi 320 b := Nat.le_refl 0
theorem d320_0 : decode cX9_runs 0 = .ok (.iconst 0, 1) := by decide +kernel
theorem d320_1 : decode cX9_runs 1 = .ok (.istore_n 2, 1) := by decide +kernel
theorem d320_2 : decode cX9_runs 2 = .ok (.iconst 0, 1) := by decide +kernel
theorem d320_3 : decode cX9_runs 3 = .ok (.istore_n 3, 1) := by decide +kernel
theorem d320_4 : decode cX9_runs 4 = .ok (.iload_n 3, 1) := by decide +kernel
theorem d320_5 : decode cX9_runs 5 = .ok (.iload_n 1, 1) := by decide +kernel
theorem d320_6 : decode cX9_runs 6 = .ok (.if_icmp .ge 16, 3) := by decide +kernel
theorem d320_9 : decode cX9_runs 9 = .ok (.iload_n 2, 1) := by decide +kernel
theorem d320_10 : decode cX9_runs 10 = .ok (.aload_n 0, 1) := by decide +kernel
theorem d320_11 : decode cX9_runs 11 = .ok (.invokevirtual 408, 3) := by decide +kernel
theorem d320_14 : decode cX9_runs 14 = .ok (.iadd, 1) := by decide +kernel
theorem d320_15 : decode cX9_runs 15 = .ok (.istore_n 2, 1) := by decide +kernel
theorem d320_16 : decode cX9_runs 16 = .ok (.iinc 3 1, 3) := by decide +kernel
theorem d320_19 : decode cX9_runs 19 = .ok (.goto (-15), 3) := by decide +kernel
theorem d320_22 : decode cX9_runs 22 = .ok (.iload_n 2, 1) := by decide +kernel
theorem d320_23 : decode cX9_runs 23 = .ok (.ireturn, 1) := by decide +kernel
theorem v320_0 {w : PW} {Q : PO → PW → Prop} {x1 : Int} (hs : Sh w) (hx1 : bd x1) (h : pX 320 4 [some (.ref 169), some (iv x1), some (iv 0), some (iv 0)] [] w Q) : pX 320 0 [some (.ref 169), some (iv x1), none, none] [] w Q :=
  w_f b320 d320_0 rfl rfl rfl <| w_f b320 d320_1 rfl rfl rfl <| w_f b320 d320_2 rfl rfl rfl <| w_f b320 d320_3 rfl rfl rfl <| h
theorem e320 {w : PW} {Q : PO → PW → Prop} {x1 : Int} (hs : Sh w) (hx1 : bd x1) (h : pX 320 4 [some (.ref 169), some (iv x1), some (iv 0), some (iv 0)] [] w Q) : pC 320 [.ref 169, iv x1] w Q :=
  (pC_in (Nat.le_of_ble_eq_true rfl) rfl Q).mpr (v320_0 hs hx1 h)
theorem v320_4 {w : PW} {Q : PO → PW → Prop} {x1 : Int} {x2 : Int} {x3 : Int} (hs : Sh w) (hx1 : bd x1) (hx2 : bd x2) (hx3 : bd x3) (h : (x1 ≤ x3 → Q (.inl (some (iv x2))) w) ∧ (x3 < x1 → pC 319 [.ref 169] w (kI fun u3 w2 => Sh w2 ∧ pX 320 4 [some (.ref 169), some (iv x1), some (iv (x2 + u3)), some (iv (x3 + 1))] [] w2 Q))) : pX 320 4 [some (.ref 169), some (iv x1), some (iv x2), some (iv x3)] [] w Q :=
  w_f b320 d320_4 rfl rfl rfl <| w_f b320 d320_5 rfl rfl rfl <| w_icge b320 d320_6 rfl rfl (p320 _ _) hx3 hx1 (fun c1 => w_f b320 d320_22 rfl rfl rfl <| w_ri b320 d320_23 r320 (h.1 c1)) (fun c1 => w_f b320 d320_9 rfl rfl rfl <| w_f b320 d320_10 rfl rfl rfl <| w_c b320 d320_11 rfl (pcl_v (n := 0) rfl rfl rfl (by decide +kernel) (sh_isOb hs (tlt 169 rfl) tbC_169) rfl rfl) rfl _ (hK_I fun u3 w2 hbu3 hkw2 => w_f b320 d320_14 rfl (pf_iadd x2 _) rfl <| w_f b320 d320_15 rfl rfl rfl <| w_f b320 d320_16 rfl (pf_iinc rfl rfl) rfl <| w_j b320 d320_19 rfl (p320 _ _) <| hkw2.2) (h.2 c1))
section MPL
variable {w w2 w3 w4 w5 w6 w7 w8 w9 w10 : PW} {Q : PO → PW → Prop} {m : Row}
theorem l318 {t : Nat} {z : Int} (hs : Sh w) (hM : MR w m) (ht : (t : Int) < m 4) (hr : m 9 ≤ 12 * m 8 + 11) (hz : z = rBuzz m t)
    (e2 : w2 = sI w 170 (443 + (4 * ((gI w 170 9).tmod 100))).toNat (gI w 170 8))
    (e3 : w3 = sI w2 170 ((443 + (4 * ((gI w 170 9).tmod 100))) + 1).toNat (t : Nat))
    (e4 : w4 = sI w3 170 ((443 + (4 * ((gI w 170 9).tmod 100))) + 2).toNat (gI w3 170 ((11 + 5 * (t : Int)) + 0).toNat))
    (e5 : w5 = sI w4 170 ((443 + (4 * ((gI w 170 9).tmod 100))) + 3).toNat z)
    (e6 : w6 = sI w5 170 9 ((gI w5 170 9) + 1))
    (e7 : w7 = sI w6 170 10 ((gI w6 170 10) + z))
    (e8 : w8 = sI w7 170 ((11 + 5 * (t : Int)) + 2).toNat ((gI w7 170 ((11 + 5 * (t : Int)) + 2).toNat) + 1))
    (e9 : w9 = sI w8 170 ((11 + 5 * (t : Int)) + 3).toNat ((gI w8 170 ((11 + 5 * (t : Int)) + 3).toNat) + z))
    (e10 : w10 = sI w9 170 ((11 + 5 * (t : Int)) + 4).toNat (gI w9 170 8)) : MG w w10 ∧ MR w10 (rPluck m t) := by
  have h4 := hM.ok.t
  have h8 := hM.ok.pt
  have h9 := hM.ok.pp
  have h10 := hM.ok.pb
  obtain ⟨b1, b2, b3, b4, b5⟩ := hM.ok.T ht
  have hzb := rBuzz_bd m t
  subst hz
  obtain ⟨R, hR⟩ : ∃ R : Nat, R = (m 9).toNat % 100 := ⟨_, rfl⟩
  have eR : (m 9).tmod 100 = ((R : Nat) : Int) := by rw [Int.tmod_eq_emod_of_nonneg (by omega)]; omega
  have hR2 : R < 100 := by omega
  have a0 : ((11 + 5 * (t : Int)) + 0).toNat = 11 + 5 * t + 0 := by omega
  have a2 : ((11 + 5 * (t : Int)) + 2).toNat = 11 + 5 * t + 2 := by omega
  have a3 : ((11 + 5 * (t : Int)) + 3).toNat = 11 + 5 * t + 3 := by omega
  have a4 : ((11 + 5 * (t : Int)) + 4).toNat = 11 + 5 * t + 4 := by omega
  rw [hM.g (k := 9) rfl, eR] at e2 e3 e4 e5
  rw [hM.g (k := 8) rfl, show (443 + (4 * ((R : Nat) : Int))).toNat = 443 + 4 * R from by omega] at e2
  rw [show ((443 + (4 * ((R : Nat) : Int))) + 1).toNat = 443 + 4 * R + 1 from by omega] at e3
  rw [show ((443 + (4 * ((R : Nat) : Int))) + 2).toNat = 443 + 4 * R + 2 from by omega, a0] at e4
  rw [show ((443 + (4 * ((R : Nat) : Int))) + 3).toNat = 443 + 4 * R + 3 from by omega] at e5
  rw [a2] at e8
  rw [a3] at e9
  rw [a4] at e10
  obtain ⟨G2, g2⟩ := MG.put hs e2 ⟨by omega, by omega⟩
  obtain ⟨G3, g3⟩ := MG.put G2.1 e3 ⟨by omega, by omega⟩
  rw [g3, if_neg (by omega), g2, if_neg (by omega), hM.2 _ (by omega)] at e4
  rw [show m (11 + 5 * t + 0) = rT m t 0 from rfl] at e4
  obtain ⟨G4, g4⟩ := MG.put G3.1 e4 ⟨by omega, by omega⟩
  obtain ⟨G5, g5⟩ := MG.put G4.1 e5 ⟨by omega, by omega⟩
  rw [g5, if_neg (by omega), g4, if_neg (by omega), g3, if_neg (by omega), g2, if_neg (by omega), hM.2 _ (by decide)] at e6
  obtain ⟨G6, g6⟩ := MG.put G5.1 e6 ⟨by omega, by omega⟩
  rw [g6, if_neg (by omega), g5, if_neg (by omega), g4, if_neg (by omega), g3, if_neg (by omega), g2, if_neg (by omega), hM.2 _ (by decide)] at e7
  obtain ⟨G7, g7⟩ := MG.put G6.1 e7 ⟨by omega, by omega⟩
  rw [g7, if_neg (by omega), g6, if_neg (by omega), g5, if_neg (by omega), g4, if_neg (by omega), g3, if_neg (by omega), g2, if_neg (by omega), hM.2 _ (by omega)] at e8
  rw [show m (11 + 5 * t + 2) = rT m t 2 from rfl] at e8
  obtain ⟨G8, g8⟩ := MG.put G7.1 e8 ⟨by omega, by omega⟩
  rw [g8, if_neg (by omega), g7, if_neg (by omega), g6, if_neg (by omega), g5, if_neg (by omega), g4, if_neg (by omega), g3, if_neg (by omega), g2, if_neg (by omega), hM.2 _ (by omega)] at e9
  rw [show m (11 + 5 * t + 3) = rT m t 3 from rfl] at e9
  obtain ⟨G9, g9⟩ := MG.put G8.1 e9 ⟨by omega, by omega⟩
  rw [g9, if_neg (by omega), g8, if_neg (by omega), g7, if_neg (by omega), g6, if_neg (by omega), g5, if_neg (by omega), g4, if_neg (by omega), g3, if_neg (by omega), g2, if_neg (by omega), hM.2 _ (by decide)] at e10
  obtain ⟨G10, g10⟩ := MG.put G9.1 e10 ⟨by omega, by omega⟩
  refine ⟨G2.tr (G3.tr (G4.tr (G5.tr (G6.tr (G7.tr (G8.tr (G9.tr G10))))))), rPluck_ok hM.ok ht hr, fun j hj => ?_⟩
  have hj2 := hM.2 j hj
  rw [g10, g9, g8, g7, g6, g5, g4, g3, g2, hj2]
  unfold rPluck
  rw [← hR]
  by_cases q0 : j = 443 + 4 * R
  · rw [if_neg (by omega), if_neg (by omega), if_neg (by omega), if_neg (by omega), if_neg (by omega), if_neg (by omega), if_neg (by omega), if_neg (by omega), if_pos q0, if_pos q0]
  · skip
    by_cases q1 : j = 443 + 4 * R + 1
    · rw [if_neg (by omega), if_neg (by omega), if_neg (by omega), if_neg (by omega), if_neg (by omega), if_neg (by omega), if_neg (by omega), if_pos q1, if_neg q0, if_pos q1]
    · skip
      by_cases q2 : j = 443 + 4 * R + 2
      · rw [if_neg (by omega), if_neg (by omega), if_neg (by omega), if_neg (by omega), if_neg (by omega), if_neg (by omega), if_pos q2, if_neg q0, if_neg q1, if_pos q2]
      · skip
        by_cases q3 : j = 443 + 4 * R + 3
        · rw [if_neg (by omega), if_neg (by omega), if_neg (by omega), if_neg (by omega), if_neg (by omega), if_pos q3, if_neg q0, if_neg q1, if_neg q2, if_pos q3]
        · skip
          by_cases q4 : j = 9
          · rw [if_neg (by omega), if_neg (by omega), if_neg (by omega), if_neg (by omega), if_pos q4, if_neg q0, if_neg q1, if_neg q2, if_neg q3, if_pos q4]
          · skip
            by_cases q5 : j = 10
            · rw [if_neg (by omega), if_neg (by omega), if_neg (by omega), if_pos q5, if_neg q0, if_neg q1, if_neg q2, if_neg q3, if_neg q4, if_pos q5]
            · skip
              by_cases q6 : j = 11 + 5 * t + 2
              · rw [if_neg (by omega), if_neg (by omega), if_pos q6, if_neg q0, if_neg q1, if_neg q2, if_neg q3, if_neg q4, if_neg q5, if_pos q6]
              · skip
                by_cases q7 : j = 11 + 5 * t + 3
                · rw [if_neg (by omega), if_pos q7, if_neg q0, if_neg q1, if_neg q2, if_neg q3, if_neg q4, if_neg q5, if_neg q6, if_pos q7]
                · skip
                  by_cases q8 : j = 11 + 5 * t + 4
                  · rw [if_pos q8, if_neg q0, if_neg q1, if_neg q2, if_neg q3, if_neg q4, if_neg q5, if_neg q6, if_neg q7, if_pos q8]
                  · skip
                    rw [if_neg q8, if_neg q7, if_neg q6, if_neg q5, if_neg q4, if_neg q3, if_neg q2, if_neg q1, if_neg q0, if_neg q0, if_neg q1, if_neg q2, if_neg q3, if_neg q4, if_neg q5, if_neg q6, if_neg q7, if_neg q8]
theorem c318 {t : Nat} (hs : Sh w) (hM : MR w m) (ht : (t : Int) < m 4) (hr : m 9 ≤ 12 * m 8 + 11) (h : ∀ w2, MG w w2 → MR w2 (rPluck m t) → Q (.inl none) w2) : pC 318 [.ref 169, iv (t : Nat)] w Q := by
  have h4 := hM.ok.t
  have h8 := hM.ok.pt
  have h9 := hM.ok.pp
  obtain ⟨b1, b2, b3, b4, b5⟩ := hM.ok.T ht
  have hn := sNeed_bd hM.ok ht
  have eR : (gI w 170 9).tmod 100 = (((m 9).toNat % 100 : Nat) : Int) := by rw [hM.g (k := 9) rfl, Int.tmod_eq_emod_of_nonneg (by omega)]; omega
  have hR2 : (0 : Int) ≤ (gI w 170 9).tmod 100 ∧ (gI w 170 9).tmod 100 < 100 := by rw [eR]; exact ⟨by omega, by omega⟩
  have hfin : ∀ z : Int, z = rBuzz m t → ∀ w2, w2 = sI w 170 (443 + (4 * ((gI w 170 9).tmod 100))).toNat (gI w 170 8) → ∀ w3, w3 = sI w2 170 ((443 + (4 * ((gI w 170 9).tmod 100))) + 1).toNat (t : Nat) → ∀ w4, w4 = sI w3 170 ((443 + (4 * ((gI w 170 9).tmod 100))) + 2).toNat (gI w3 170 ((11 + 5 * (t : Int)) + 0).toNat) → ∀ w5, w5 = sI w4 170 ((443 + (4 * ((gI w 170 9).tmod 100))) + 3).toNat z → ∀ w6, w6 = sI w5 170 9 ((gI w5 170 9) + 1) → ∀ w7, w7 = sI w6 170 10 ((gI w6 170 10) + z) → ∀ w8, w8 = sI w7 170 ((11 + 5 * (t : Int)) + 2).toNat ((gI w7 170 ((11 + 5 * (t : Int)) + 2).toNat) + 1) → ∀ w9, w9 = sI w8 170 ((11 + 5 * (t : Int)) + 3).toNat ((gI w8 170 ((11 + 5 * (t : Int)) + 3).toNat) + z) → ∀ w10, w10 = sI w9 170 ((11 + 5 * (t : Int)) + 4).toNat (gI w9 170 8) → Q (.inl none) w10 := fun z hz w2 e2 w3 e3 w4 e4 w5 e5 w6 e6 w7 e7 w8 e8 w9 e9 w10 e10 => by
    obtain ⟨G, M⟩ := l318 hs hM ht hr hz e2 e3 e4 e5 e6 e7 e8 e9 e10
    exact h w10 G M
  have cR : 0 ≤ (443 + (4 * ((gI w 170 9).tmod 100))) ∧ (443 + (4 * ((gI w 170 9).tmod 100))) < 843 := ⟨by omega, by omega⟩
  have cR1 : 0 ≤ ((443 + (4 * ((gI w 170 9).tmod 100))) + 1) ∧ ((443 + (4 * ((gI w 170 9).tmod 100))) + 1) < 843 := ⟨by omega, by omega⟩
  have cR2 : 0 ≤ ((443 + (4 * ((gI w 170 9).tmod 100))) + 2) ∧ ((443 + (4 * ((gI w 170 9).tmod 100))) + 2) < 843 := ⟨by omega, by omega⟩
  have cR3 : 0 ≤ ((443 + (4 * ((gI w 170 9).tmod 100))) + 3) ∧ ((443 + (4 * ((gI w 170 9).tmod 100))) + 3) < 843 := ⟨by omega, by omega⟩
  have cT : ∀ c : Int, 0 ≤ c → c < 5 → 0 ≤ (11 + 5 * (t : Int)) + c ∧ (11 + 5 * (t : Int)) + c < 843 := fun c h1 h2 => ⟨by omega, by omega⟩
  have c0 := cT 0 (by decide) (by decide)
  have c2 := cT 2 (by decide) (by decide)
  have c3 := cT 3 (by decide) (by decide)
  have c4 := cT 4 (by decide) (by decide)
  have eB : rBuzz m t = if rT m t 4 ≠ -1 ∧ m 8 - rT m t 4 < sNeed m t then 1 else 0 := rfl
  refine e318 hs (bdk (by omega)) ?_
  refine ⟨c4, fun q => ⟨cR, fun w2 e2 => ⟨cR1, fun w3 e3 => ⟨c0, cR2, fun w4 e4 => ⟨cR3, fun w5 e5 w6 e6 w7 e7 => ⟨c2, c2, fun w8 e8 => ⟨c3, c3, fun w9 e9 => ⟨c4, fun w10 e10 => hfin 0 ?_ w2 e2 w3 e3 w4 e4 w5 e5 w6 e6 w7 e7 w8 e8 w9 e9 w10 e10⟩⟩⟩⟩⟩⟩⟩, fun q => ⟨cT 1 (by decide) (by decide), ?_, ?_, fun q2 => ⟨cR, fun w2 e2 => ⟨cR1, fun w3 e3 => ⟨c0, cR2, fun w4 e4 => ⟨cR3, fun w5 e5 w6 e6 w7 e7 => ⟨c2, c2, fun w8 e8 => ⟨c3, c3, fun w9 e9 => ⟨c4, fun w10 e10 => hfin 0 ?_ w2 e2 w3 e3 w4 e4 w5 e5 w6 e6 w7 e7 w8 e8 w9 e9 w10 e10⟩⟩⟩⟩⟩⟩⟩, fun q2 => ⟨cR, fun w2 e2 => ⟨cR1, fun w3 e3 => ⟨c0, cR2, fun w4 e4 => ⟨cR3, fun w5 e5 w6 e6 w7 e7 => ⟨c2, c2, fun w8 e8 => ⟨c3, c3, fun w9 e9 => ⟨c4, fun w10 e10 => hfin 1 ?_ w2 e2 w3 e3 w4 e4 w5 e5 w6 e6 w7 e7 w8 e8 w9 e9 w10 e10⟩⟩⟩⟩⟩⟩⟩⟩⟩
  · rw [hM.T4 (by omega)] at q
    rw [eB, if_neg (fun z => z.1 q)]
  · rw [hM.T4 (by omega), hM.g (k := 8) rfl]
    exact ⟨by omega, by omega⟩
  · rw [hM.need (by omega)]
    exact ⟨by omega, by omega⟩
  · rw [hM.need (by omega), hM.T4 (by omega), hM.g (k := 8) rfl] at q2
    rw [eB, if_neg (fun z => by omega)]
  · rw [hM.T4 (by omega)] at q
    rw [hM.need (by omega), hM.T4 (by omega), hM.g (k := 8) rfl] at q2
    rw [eB, if_pos ⟨q, q2⟩]
theorem l319_4 {w : PW} {Q : PO → PW → Prop} {m : Row} (hs : Sh w) (hR : RowOK m) (hF : m 9 ≤ 12 * m 8) (h8 : m 8 < 100200) (h : ∀ w2, MG w w2 → MR w2 (rTick m) → Q (.inl (some (iv (rTick m 9 - m 9)))) w2) : ∀ k i : Nat, i + k = (m 4).toNat → ∀ w1, MG w w1 → MR w1 (rTk m i) → pX 319 4 [some (.ref 169), some (iv (rTk m i 9 - m 9)), some (iv (i : Nat))] [] w1 Q := by
  have h0 := hR.s
  have h1 := hR.u
  have h4 := hR.t
  have h6 := hR.pu
  have h7 := hR.ps
  have h9 := hR.pp
  intro k
  induction k with
  | zero =>
    intro i hi w1 G1 M1
    have h9b := M1.ok.pp
    have h8b := M1.ok.pt
    obtain ⟨r1, r2⟩ := rTk_ok hR hF i (by omega)
    refine v319_4 G1.1 ⟨by omega, by omega⟩ (bdk (by omega)) ?_
    rw [M1.g (k := 4) rfl, M1.g (k := 7) rfl, M1.g (k := 0) rfl, rTk_lo (j := 4) (by decide), rTk_lo (j := 7) (by decide), rTk_lo (j := 0) (by decide)]
    refine ⟨fun _ => ⟨⟨by omega, by omega⟩, ⟨by omega, by omega⟩, fun w2 e2 w3 e3 => ?_⟩, fun q => by omega⟩
    have em : (m 7 + 1).tmod (m 0) = if m 7 + 1 < m 0 then m 7 + 1 else 0 := by
      rw [Int.tmod_eq_emod_of_nonneg (by omega)]
      by_cases q : m 7 + 1 < m 0
      · rw [if_pos q]; exact Int.emod_eq_of_lt (by omega) q
      · rw [if_neg q, show m 7 + 1 = m 0 from by omega]; exact Int.emod_self
    rw [em] at e2
    obtain ⟨G2, g2⟩ := MG.put G1.1 e2 (by split <;> exact ⟨by omega, by omega⟩)
    rw [g2, if_neg (by decide), M1.g (k := 8) rfl, rTk_lo (j := 8) (by decide)] at e3
    obtain ⟨G3, g3⟩ := MG.put G2.1 e3 ⟨by omega, by omega⟩
    have hT : (m 4).toNat = i := by omega
    have e9 : rTick m 9 = rTk m i 9 := by rw [rTick_hi (by decide), hT]
    have := h w3 (G1.tr (G2.tr G3)) ⟨(rTick_ok hR hF h8).1, fun j hj => ?_⟩
    · rw [e9] at this
      exact this
    · rw [g3, g2, M1.2 j hj]
      unfold rTick
      rw [hT]
      by_cases q7 : j = 7
      · rw [if_neg (by omega), if_pos q7, if_pos q7]
      · by_cases q8 : j = 8
        · rw [if_pos q8, if_neg q7, if_pos q8]
        · rw [if_neg q8, if_neg q7, if_neg q7, if_neg q8]
  | succ k ih =>
    intro i hi w1 G1 M1
    have h9b := M1.ok.pp
    have h8b := M1.ok.pt
    obtain ⟨r1, r2⟩ := rTk_ok hR hF i (by omega)
    have e4 : rTk m i 4 = m 4 := rTk_lo (by decide)
    have e8 : rTk m i 8 = m 8 := rTk_lo (by decide)
    obtain ⟨U, hU⟩ := nat_of h6.1
    obtain ⟨S, hS⟩ := nat_of h7.1
    refine v319_4 G1.1 ⟨by omega, by omega⟩ (bdk (by omega)) ?_
    rw [M1.g (k := 4) rfl, M1.g (k := 7) rfl, M1.g (k := 0) rfl, M1.g (k := 6) rfl, rTk_lo (j := 4) (by decide), rTk_lo (j := 7) (by decide), rTk_lo (j := 0) (by decide), rTk_lo (j := 6) (by decide), hU, hS, M1.pin (by omega) (by omega), rTk_mid (j := 251 + 64 * U + S) (by omega) (by omega) (by omega), Int.toNat_natCast]
    have hp : tI (m (251 + 64 * U + S)) i = rPin m (m 6).toNat (m 7).toNat i := by rw [hU, hS]; rfl
    rw [hp]
    refine ⟨fun q => by omega, fun _ => ⟨⟨by omega, by omega⟩, ⟨by omega, by omega⟩, ⟨by omega, by omega⟩, fun q => ?_, fun q => ?_⟩⟩
    · have e : rTk m (i + 1) = rPluck (rTk m i) i := if_pos q
      refine c318 G1.1 M1 (by omega) (by omega) (fun w5 G5 M5 => ⟨G5.1, ?_⟩)
      have := ih (i + 1) (by omega) w5 (G1.tr G5) (by rw [e]; exact M5)
      rw [e, rPluck_9, show rTk m i 9 + 1 - m 9 = rTk m i 9 - m 9 + 1 from by omega] at this
      exact this
    · have e : rTk m (i + 1) = rTk m i := if_neg q
      have := ih (i + 1) (by omega) w1 G1 (by rw [e]; exact M1)
      rw [e] at this
      exact this
theorem c319 (hs : Sh w) (hM : MR w m) (hF : m 9 ≤ 12 * m 8) (h8 : m 8 < 100200) (h : ∀ w2, MG w w2 → MR w2 (rTick m) → Q (.inl (some (iv (rTick m 9 - m 9)))) w2) : pC 319 [.ref 169] w Q := by
  have := l319_4 hs hM.ok hF h8 h _ 0 (Nat.zero_add _) w (MG.rf hs) hM
  rw [show rTk m 0 9 - m 9 = 0 from by show m 9 - m 9 = 0; omega] at this
  exact e319 hs this
theorem rRun_lo (m : Row) {j : Nat} (hj : j < 7) : ∀ n, rRun m n j = m j := by
  intro n
  induction n with
  | zero => rfl
  | succ n ih =>
    show rTick (rRun m n) j = m j
    rw [rTick_lo hj, ih]
theorem l320_4 {w : PW} {Q : PO → PW → Prop} {n : Nat} {m : Row} (hs : Sh w) (hR : RowOK m) (hF : m 9 ≤ 12 * m 8) (h8 : m 8 + n ≤ 100200) (h : ∀ w2, MG w w2 → MR w2 (rRun m n) → Q (.inl (some (iv (rRun m n 9 - m 9)))) w2) : ∀ k i : Nat, i + k = n → ∀ w1, MG w w1 → MR w1 (rRun m i) → pX 320 4 [some (.ref 169), some (iv (n : Nat)), some (iv (rRun m i 9 - m 9)), some (iv (i : Nat))] [] w1 Q := by
  have h9 := hR.pp
  have h8c := hR.pt
  intro k
  induction k with
  | zero =>
    intro i hi w1 G1 M1
    have h9b := M1.ok.pp
    have h8b := M1.ok.pt
    refine v320_4 G1.1 (bdk (by omega)) ⟨by omega, by omega⟩ (bdk (by omega)) ⟨fun _ => ?_, fun q => by omega⟩
    have e : n = i := by omega
    subst e
    exact h w1 G1 M1
  | succ k ih =>
    intro i hi w1 G1 M1
    have h9b := M1.ok.pp
    have h8b := M1.ok.pt
    obtain ⟨r1, r2, r3⟩ := rRun_ok hR hF i (by omega)
    refine v320_4 G1.1 (bdk (by omega)) ⟨by omega, by omega⟩ (bdk (by omega)) ⟨fun q => by omega, fun _ => c319 G1.1 M1 r2 (by omega) (fun w2 G2 M2 => kI_iv ?_ ⟨G2.1, ?_⟩)⟩
    · have := M2.ok.pp
      have := M2.ok.pt
      exact ⟨by omega, by omega⟩
    · have := ih (i + 1) (by omega) w2 (G1.tr G2) M2
      rw [show rRun m (i + 1) 9 = rTick (rRun m i) 9 from rfl] at this
      rw [show rRun m i 9 - m 9 + (rTick (rRun m i) 9 - rRun m i 9) = rTick (rRun m i) 9 - m 9 from by omega]
      exact this
theorem c320 {n : Nat} (hs : Sh w) (hM : MR w m) (hF : m 9 ≤ 12 * m 8) (h8 : m 8 + n ≤ 100200) (h : ∀ w2, MG w w2 → MR w2 (rRun m n) → Q (.inl (some (iv (rRun m n 9 - m 9)))) w2) : pC 320 [.ref 169, iv (n : Nat)] w Q := by
  have h8c := hM.ok.pt
  have := l320_4 hs hM.ok hF h8 h _ 0 (Nat.zero_add _) w (MG.rf hs) hM
  rw [show rRun m 0 9 - m 9 = 0 from by show m 9 - m 9 = 0; omega] at this
  exact e320 hs (bdk (by omega)) this
end MPL
