/-! THE LAW's METHODS: whole -/
/-! 225: PinBarrelLaw.whole(LPinBarrel;)J -/
theorem b225 : mB 225 = cL_whole := rfl
theorem r225 : mR 225 = (some .long) := rfl
theorem d225_0 : decode cL_whole 0 = .ok (.aload_n 0, 1) := by decide +kernel
theorem d225_1 : decode cL_whole 1 = .ok (.aload_n 0, 1) := by decide +kernel
theorem d225_2 : decode cL_whole 2 = .ok (.bipush 10, 2) := by decide +kernel
theorem d225_4 : decode cL_whole 4 = .ok (.invokevirtual 79, 3) := by decide +kernel
theorem d225_7 : decode cL_whole 7 = .ok (.iconst 1, 1) := by decide +kernel
theorem d225_8 : decode cL_whole 8 = .ok (.isub, 1) := by decide +kernel
theorem d225_9 : decode cL_whole 9 = .ok (.iconst 0, 1) := by decide +kernel
theorem d225_10 : decode cL_whole 10 = .ok (.invokevirtual 136, 3) := by decide +kernel
theorem d225_13 : decode cL_whole 13 = .ok (.i2l, 1) := by decide +kernel
theorem d225_14 : decode cL_whole 14 = .ok (.lstore_n 1, 1) := by decide +kernel
theorem d225_15 : decode cL_whole 15 = .ok (.iconst 0, 1) := by decide +kernel
theorem d225_16 : decode cL_whole 16 = .ok (.istore_n 3, 1) := by decide +kernel
theorem d225_17 : decode cL_whole 17 = .ok (.iload_n 3, 1) := by decide +kernel
theorem d225_18 : decode cL_whole 18 = .ok (.bipush 12, 2) := by decide +kernel
theorem d225_20 : decode cL_whole 20 = .ok (.if_icmp .gt 22, 3) := by decide +kernel
theorem d225_23 : decode cL_whole 23 = .ok (.ldc2_w 139, 3) := by decide +kernel
theorem d225_26 : decode cL_whole 26 = .ok (.lload_n 1, 1) := by decide +kernel
theorem d225_27 : decode cL_whole 27 = .ok (.lmul, 1) := by decide +kernel
theorem d225_28 : decode cL_whole 28 = .ok (.aload_n 0, 1) := by decide +kernel
theorem d225_29 : decode cL_whole 29 = .ok (.iload_n 3, 1) := by decide +kernel
theorem d225_30 : decode cL_whole 30 = .ok (.invokevirtual 79, 3) := by decide +kernel
theorem d225_33 : decode cL_whole 33 = .ok (.i2l, 1) := by decide +kernel
theorem d225_34 : decode cL_whole 34 = .ok (.ladd, 1) := by decide +kernel
theorem d225_35 : decode cL_whole 35 = .ok (.lstore_n 1, 1) := by decide +kernel
theorem d225_36 : decode cL_whole 36 = .ok (.iinc 3 1, 3) := by decide +kernel
theorem d225_39 : decode cL_whole 39 = .ok (.goto (-22), 3) := by decide +kernel
theorem d225_42 : decode cL_whole 42 = .ok (.iconst 0, 1) := by decide +kernel
theorem d225_43 : decode cL_whole 43 = .ok (.istore_n 3, 1) := by decide +kernel
theorem d225_44 : decode cL_whole 44 = .ok (.iload_n 3, 1) := by decide +kernel
theorem d225_45 : decode cL_whole 45 = .ok (.aload_n 0, 1) := by decide +kernel
theorem d225_46 : decode cL_whole 46 = .ok (.iconst 4, 1) := by decide +kernel
theorem d225_47 : decode cL_whole 47 = .ok (.invokevirtual 79, 3) := by decide +kernel
theorem d225_50 : decode cL_whole 50 = .ok (.if_icmp .ge 40, 3) := by decide +kernel
theorem d225_53 : decode cL_whole 53 = .ok (.iconst 0, 1) := by decide +kernel
theorem d225_54 : decode cL_whole 54 = .ok (.istore 4, 2) := by decide +kernel
theorem d225_56 : decode cL_whole 56 = .ok (.iload 4, 2) := by decide +kernel
theorem d225_58 : decode cL_whole 58 = .ok (.bipush 7, 2) := by decide +kernel
theorem d225_60 : decode cL_whole 60 = .ok (.if_icmp .gt 24, 3) := by decide +kernel
theorem d225_63 : decode cL_whole 63 = .ok (.ldc2_w 139, 3) := by decide +kernel
theorem d225_66 : decode cL_whole 66 = .ok (.lload_n 1, 1) := by decide +kernel
theorem d225_67 : decode cL_whole 67 = .ok (.lmul, 1) := by decide +kernel
theorem d225_68 : decode cL_whole 68 = .ok (.aload_n 0, 1) := by decide +kernel
theorem d225_69 : decode cL_whole 69 = .ok (.iload_n 3, 1) := by decide +kernel
theorem d225_70 : decode cL_whole 70 = .ok (.iload 4, 2) := by decide +kernel
theorem d225_72 : decode cL_whole 72 = .ok (.invokevirtual 141, 3) := by decide +kernel
theorem d225_75 : decode cL_whole 75 = .ok (.i2l, 1) := by decide +kernel
theorem d225_76 : decode cL_whole 76 = .ok (.ladd, 1) := by decide +kernel
theorem d225_77 : decode cL_whole 77 = .ok (.lstore_n 1, 1) := by decide +kernel
theorem d225_78 : decode cL_whole 78 = .ok (.iinc 4 1, 3) := by decide +kernel
theorem d225_81 : decode cL_whole 81 = .ok (.goto (-25), 3) := by decide +kernel
theorem d225_84 : decode cL_whole 84 = .ok (.iinc 3 1, 3) := by decide +kernel
theorem d225_87 : decode cL_whole 87 = .ok (.goto (-43), 3) := by decide +kernel
theorem d225_90 : decode cL_whole 90 = .ok (.iconst 0, 1) := by decide +kernel
theorem d225_91 : decode cL_whole 91 = .ok (.istore_n 3, 1) := by decide +kernel
theorem d225_92 : decode cL_whole 92 = .ok (.iload_n 3, 1) := by decide +kernel
theorem d225_93 : decode cL_whole 93 = .ok (.aload_n 0, 1) := by decide +kernel
theorem d225_94 : decode cL_whole 94 = .ok (.iconst 5, 1) := by decide +kernel
theorem d225_95 : decode cL_whole 95 = .ok (.invokevirtual 79, 3) := by decide +kernel
theorem d225_98 : decode cL_whole 98 = .ok (.if_icmp .ge 39, 3) := by decide +kernel
theorem d225_101 : decode cL_whole 101 = .ok (.iconst 0, 1) := by decide +kernel
theorem d225_102 : decode cL_whole 102 = .ok (.istore 4, 2) := by decide +kernel
theorem d225_104 : decode cL_whole 104 = .ok (.iload 4, 2) := by decide +kernel
theorem d225_106 : decode cL_whole 106 = .ok (.iconst 3, 1) := by decide +kernel
theorem d225_107 : decode cL_whole 107 = .ok (.if_icmp .gt 24, 3) := by decide +kernel
theorem d225_110 : decode cL_whole 110 = .ok (.ldc2_w 139, 3) := by decide +kernel
theorem d225_113 : decode cL_whole 113 = .ok (.lload_n 1, 1) := by decide +kernel
theorem d225_114 : decode cL_whole 114 = .ok (.lmul, 1) := by decide +kernel
theorem d225_115 : decode cL_whole 115 = .ok (.aload_n 0, 1) := by decide +kernel
theorem d225_116 : decode cL_whole 116 = .ok (.iload_n 3, 1) := by decide +kernel
theorem d225_117 : decode cL_whole 117 = .ok (.iload 4, 2) := by decide +kernel
theorem d225_119 : decode cL_whole 119 = .ok (.invokevirtual 144, 3) := by decide +kernel
theorem d225_122 : decode cL_whole 122 = .ok (.i2l, 1) := by decide +kernel
theorem d225_123 : decode cL_whole 123 = .ok (.ladd, 1) := by decide +kernel
theorem d225_124 : decode cL_whole 124 = .ok (.lstore_n 1, 1) := by decide +kernel
theorem d225_125 : decode cL_whole 125 = .ok (.iinc 4 1, 3) := by decide +kernel
theorem d225_128 : decode cL_whole 128 = .ok (.goto (-24), 3) := by decide +kernel
theorem d225_131 : decode cL_whole 131 = .ok (.iinc 3 1, 3) := by decide +kernel
theorem d225_134 : decode cL_whole 134 = .ok (.goto (-42), 3) := by decide +kernel
theorem d225_137 : decode cL_whole 137 = .ok (.iconst 0, 1) := by decide +kernel
theorem d225_138 : decode cL_whole 138 = .ok (.istore_n 3, 1) := by decide +kernel
theorem d225_139 : decode cL_whole 139 = .ok (.iload_n 3, 1) := by decide +kernel
theorem d225_140 : decode cL_whole 140 = .ok (.aload_n 0, 1) := by decide +kernel
theorem d225_141 : decode cL_whole 141 = .ok (.iconst 1, 1) := by decide +kernel
theorem d225_142 : decode cL_whole 142 = .ok (.invokevirtual 79, 3) := by decide +kernel
theorem d225_145 : decode cL_whole 145 = .ok (.if_icmp .ge 43, 3) := by decide +kernel
theorem d225_148 : decode cL_whole 148 = .ok (.iconst 0, 1) := by decide +kernel
theorem d225_149 : decode cL_whole 149 = .ok (.istore 4, 2) := by decide +kernel
theorem d225_151 : decode cL_whole 151 = .ok (.iload 4, 2) := by decide +kernel
theorem d225_153 : decode cL_whole 153 = .ok (.aload_n 0, 1) := by decide +kernel
theorem d225_154 : decode cL_whole 154 = .ok (.iconst 0, 1) := by decide +kernel
theorem d225_155 : decode cL_whole 155 = .ok (.invokevirtual 79, 3) := by decide +kernel
theorem d225_158 : decode cL_whole 158 = .ok (.if_icmp .ge 24, 3) := by decide +kernel
theorem d225_161 : decode cL_whole 161 = .ok (.ldc2_w 139, 3) := by decide +kernel
theorem d225_164 : decode cL_whole 164 = .ok (.lload_n 1, 1) := by decide +kernel
theorem d225_165 : decode cL_whole 165 = .ok (.lmul, 1) := by decide +kernel
theorem d225_166 : decode cL_whole 166 = .ok (.aload_n 0, 1) := by decide +kernel
theorem d225_167 : decode cL_whole 167 = .ok (.iload_n 3, 1) := by decide +kernel
theorem d225_168 : decode cL_whole 168 = .ok (.iload 4, 2) := by decide +kernel
theorem d225_170 : decode cL_whole 170 = .ok (.invokevirtual 147, 3) := by decide +kernel
theorem d225_173 : decode cL_whole 173 = .ok (.i2l, 1) := by decide +kernel
theorem d225_174 : decode cL_whole 174 = .ok (.ladd, 1) := by decide +kernel
theorem d225_175 : decode cL_whole 175 = .ok (.lstore_n 1, 1) := by decide +kernel
theorem d225_176 : decode cL_whole 176 = .ok (.iinc 4 1, 3) := by decide +kernel
theorem d225_179 : decode cL_whole 179 = .ok (.goto (-28), 3) := by decide +kernel
theorem d225_182 : decode cL_whole 182 = .ok (.iinc 3 1, 3) := by decide +kernel
theorem d225_185 : decode cL_whole 185 = .ok (.goto (-46), 3) := by decide +kernel
theorem d225_188 : decode cL_whole 188 = .ok (.lload_n 1, 1) := by decide +kernel
theorem d225_189 : decode cL_whole 189 = .ok (.lreturn, 1) := by decide +kernel
theorem v225_0 {w : PW} {Q : PO → PW → Prop} {m : Row} {H : Nat → Row} {n : Nat} {k0 : Option Row} {sn : Nat} {sf : Nat → Int32} (hl : LW w m H n k0 sn sf)  (h : ∀ w1 : PW, LW w1 m H n k0 sn sf → bd (m 9) → (bd ((m 9) - 1)) ∧ (0 ≤ (0 : Int) ∧ (0 : Int) ≤ 3) ∧ ∀ w2 : PW, LW w2 m H n k0 sn sf → bd (sHeard m ((m 9) - 1) (0 : Int)) → pX 225 17 [some (.ref 0), some (.long (i2L (sHeard m ((m 9) - 1) (0 : Int)))), none, some (iv 0), none] [] w2 Q) : pX 225 0 [some (.ref 0), none, none, none, none] [] w Q :=
  w_f b225 d225_0 rfl rfl rfl <| w_f b225 d225_1 rfl rfl rfl <| w_f b225 d225_2 rfl rfl rfl <| w_cc b225 d225_4 rfl (pcl_v (n := 1) rfl rfl rfl (by decide +kernel) (sh_isOb hl.sh (tlt 0 rfl) tbC_0) rfl rfl) rfl <| q65_10 hl ⟨by decide, by decide⟩ (fun w1 lw1 bw1 => w_f b225 d225_7 rfl rfl rfl <| w_f b225 d225_8 rfl (pf_isub (m 9) 1) rfl <| w_f b225 d225_9 rfl rfl rfl <| w_cc b225 d225_10 rfl (pcl_v (n := 2) rfl rfl rfl (by decide +kernel) (sh_isOb lw1.sh (tlt 0 rfl) tbC_0) rfl rfl) rfl <| q158 lw1 (h w1 lw1 bw1).1 ⟨by decide, by decide⟩ (h w1 lw1 bw1).2.1 (fun w2 lw2 bw2 => w_f b225 d225_13 rfl rfl rfl <| w_f b225 d225_14 rfl rfl rfl <| w_f b225 d225_15 rfl rfl rfl <| w_f b225 d225_16 rfl rfl rfl <| ((h w1 lw1 bw1).2.2 w2 lw2 bw2)))
theorem e225 {w : PW} {Q : PO → PW → Prop} {m : Row} {H : Nat → Row} {n : Nat} {k0 : Option Row} {sn : Nat} {sf : Nat → Int32} (hl : LW w m H n k0 sn sf)  (h : ∀ w1 : PW, LW w1 m H n k0 sn sf → bd (m 9) → (bd ((m 9) - 1)) ∧ (0 ≤ (0 : Int) ∧ (0 : Int) ≤ 3) ∧ ∀ w2 : PW, LW w2 m H n k0 sn sf → bd (sHeard m ((m 9) - 1) (0 : Int)) → pX 225 17 [some (.ref 0), some (.long (i2L (sHeard m ((m 9) - 1) (0 : Int)))), none, some (iv 0), none] [] w2 Q) : pC 225 [.ref 0] w Q :=
  (pC_in (Nat.le_of_ble_eq_true rfl) rfl Q).mpr (v225_0 hl  h)
theorem v225_17 {w : PW} {Q : PO → PW → Prop} {m : Row} {H : Nat → Row} {n : Nat} {k0 : Option Row} {sn : Nat} {sf : Nat → Int32} {y1 : Int64} {x3 : Int} {o4 : Option Value} (hl : LW w m H n k0 sn sf) (hx3 : bd x3) (ho4 : pc2 o4 = false) (h : (12 < x3 → pX 225 44 [some (.ref 0), some (.long y1), none, some (iv 0), o4] [] w Q) ∧ (x3 ≤ 12 → (0 ≤ x3 ∧ x3 ≤ 12) ∧ ∀ w2 : PW, LW w2 m H n k0 sn sf → bd (sSize m n x3) → pX 225 17 [some (.ref 0), some (.long ((((31 : Int64)) * y1) + (i2L (sSize m n x3)))), none, some (iv (x3 + 1)), o4] [] w2 Q)) : pX 225 17 [some (.ref 0), some (.long y1), none, some (iv x3), o4] [] w Q :=
  w_f b225 d225_17 rfl rfl rfl <| w_f b225 d225_18 rfl rfl rfl <| w_icgt b225 d225_20 rfl rfl (by decide +kernel) hx3 ⟨by decide, by decide⟩ (fun c1 => w_f b225 d225_42 rfl rfl rfl <| w_f b225 d225_43 rfl rfl rfl <| (h.1 c1)) (fun c1 => w_ldcL b225 d225_23 rfl rfl <| w_f b225 d225_26 rfl rfl rfl <| w_f b225 d225_27 rfl rfl rfl <| w_f b225 d225_28 rfl rfl rfl <| w_f b225 d225_29 rfl rfl rfl <| w_cc b225 d225_30 rfl (pcl_v (n := 1) rfl rfl rfl (by decide +kernel) (sh_isOb hl.sh (tlt 0 rfl) tbC_0) rfl rfl) rfl <| q65 hl hx3 (h.2 c1).1 (fun w2 lw2 bw2 => w_f b225 d225_33 rfl rfl rfl <| w_f b225 d225_34 rfl rfl rfl <| w_f b225 d225_35 rfl rfl rfl <| w_f b225 d225_36 rfl (pf_iinc rfl rfl) rfl <| w_j b225 d225_39 rfl (by decide +kernel) <| ((h.2 c1).2 w2 lw2 bw2)))
theorem v225_44 {w : PW} {Q : PO → PW → Prop} {m : Row} {H : Nat → Row} {n : Nat} {k0 : Option Row} {sn : Nat} {sf : Nat → Int32} {y1 : Int64} {x3 : Int} {o4 : Option Value} (hl : LW w m H n k0 sn sf) (hx3 : bd x3) (ho4 : pc2 o4 = false) (h : ∀ w1 : PW, LW w1 m H n k0 sn sf → bd (m 4) → ((m 4) ≤ x3 → pX 225 92 [some (.ref 0), some (.long y1), none, some (iv 0), o4] [] w1 Q) ∧ (x3 < (m 4) → pX 225 56 [some (.ref 0), some (.long y1), none, some (iv x3), some (iv 0)] [] w1 Q)) : pX 225 44 [some (.ref 0), some (.long y1), none, some (iv x3), o4] [] w Q :=
  w_f b225 d225_44 rfl rfl rfl <| w_f b225 d225_45 rfl rfl rfl <| w_f b225 d225_46 rfl rfl rfl <| w_cc b225 d225_47 rfl (pcl_v (n := 1) rfl rfl rfl (by decide +kernel) (sh_isOb hl.sh (tlt 0 rfl) tbC_0) rfl rfl) rfl <| q65_4 hl ⟨by decide, by decide⟩ (fun w1 lw1 bw1 => w_icge b225 d225_50 rfl rfl (by decide +kernel) hx3 bw1 (fun c2 => w_f b225 d225_90 rfl rfl rfl <| w_f b225 d225_91 rfl rfl rfl <| ((h w1 lw1 bw1).1 c2)) (fun c2 => w_f b225 d225_53 rfl rfl rfl <| w_f b225 d225_54 rfl rfl rfl <| ((h w1 lw1 bw1).2 c2)))
theorem v225_56 {w : PW} {Q : PO → PW → Prop} {m : Row} {H : Nat → Row} {n : Nat} {k0 : Option Row} {sn : Nat} {sf : Nat → Int32} {y1 : Int64} {x3 : Int} {x4 : Int} (hl : LW w m H n k0 sn sf) (hx3 : bd x3) (hx4 : bd x4) (h : (7 < x4 → pX 225 44 [some (.ref 0), some (.long y1), none, some (iv (x3 + 1)), some (iv x4)] [] w Q) ∧ (x4 ≤ 7 → (0 ≤ x3 ∧ x3 < m 4) ∧ (0 ≤ x4 ∧ x4 ≤ 7) ∧ ∀ w2 : PW, LW w2 m H n k0 sn sf → bd (sTooA m (x3).toNat x4) → pX 225 56 [some (.ref 0), some (.long ((((31 : Int64)) * y1) + (i2L (sTooA m (x3).toNat x4)))), none, some (iv x3), some (iv (x4 + 1))] [] w2 Q)) : pX 225 56 [some (.ref 0), some (.long y1), none, some (iv x3), some (iv x4)] [] w Q :=
  w_f b225 d225_56 rfl rfl rfl <| w_f b225 d225_58 rfl rfl rfl <| w_icgt b225 d225_60 rfl rfl (by decide +kernel) hx4 ⟨by decide, by decide⟩ (fun c1 => w_f b225 d225_84 rfl (pf_iinc rfl rfl) rfl <| w_j b225 d225_87 rfl (by decide +kernel) <| (h.1 c1)) (fun c1 => w_ldcL b225 d225_63 rfl rfl <| w_f b225 d225_66 rfl rfl rfl <| w_f b225 d225_67 rfl rfl rfl <| w_f b225 d225_68 rfl rfl rfl <| w_f b225 d225_69 rfl rfl rfl <| w_f b225 d225_70 rfl rfl rfl <| w_cc b225 d225_72 rfl (pcl_v (n := 2) rfl rfl rfl (by decide +kernel) (sh_isOb hl.sh (tlt 0 rfl) tbC_0) rfl rfl) rfl <| q69 hl hx3 hx4 (h.2 c1).1 (h.2 c1).2.1 (fun w2 lw2 bw2 => w_f b225 d225_75 rfl rfl rfl <| w_f b225 d225_76 rfl rfl rfl <| w_f b225 d225_77 rfl rfl rfl <| w_f b225 d225_78 rfl (pf_iinc rfl rfl) rfl <| w_j b225 d225_81 rfl (by decide +kernel) <| ((h.2 c1).2.2 w2 lw2 bw2)))
theorem v225_92 {w : PW} {Q : PO → PW → Prop} {m : Row} {H : Nat → Row} {n : Nat} {k0 : Option Row} {sn : Nat} {sf : Nat → Int32} {y1 : Int64} {x3 : Int} {o4 : Option Value} (hl : LW w m H n k0 sn sf) (hx3 : bd x3) (ho4 : pc2 o4 = false) (h : ∀ w1 : PW, LW w1 m H n k0 sn sf → bd (m 5) → ((m 5) ≤ x3 → pX 225 139 [some (.ref 0), some (.long y1), none, some (iv 0), o4] [] w1 Q) ∧ (x3 < (m 5) → pX 225 104 [some (.ref 0), some (.long y1), none, some (iv x3), some (iv 0)] [] w1 Q)) : pX 225 92 [some (.ref 0), some (.long y1), none, some (iv x3), o4] [] w Q :=
  w_f b225 d225_92 rfl rfl rfl <| w_f b225 d225_93 rfl rfl rfl <| w_f b225 d225_94 rfl rfl rfl <| w_cc b225 d225_95 rfl (pcl_v (n := 1) rfl rfl rfl (by decide +kernel) (sh_isOb hl.sh (tlt 0 rfl) tbC_0) rfl rfl) rfl <| q65_5 hl ⟨by decide, by decide⟩ (fun w1 lw1 bw1 => w_icge b225 d225_98 rfl rfl (by decide +kernel) hx3 bw1 (fun c2 => w_f b225 d225_137 rfl rfl rfl <| w_f b225 d225_138 rfl rfl rfl <| ((h w1 lw1 bw1).1 c2)) (fun c2 => w_f b225 d225_101 rfl rfl rfl <| w_f b225 d225_102 rfl rfl rfl <| ((h w1 lw1 bw1).2 c2)))
theorem v225_104 {w : PW} {Q : PO → PW → Prop} {m : Row} {H : Nat → Row} {n : Nat} {k0 : Option Row} {sn : Nat} {sf : Nat → Int32} {y1 : Int64} {x3 : Int} {x4 : Int} (hl : LW w m H n k0 sn sf) (hx3 : bd x3) (hx4 : bd x4) (h : (3 < x4 → pX 225 92 [some (.ref 0), some (.long y1), none, some (iv (x3 + 1)), some (iv x4)] [] w Q) ∧ (x4 ≤ 3 → (0 ≤ x3 ∧ x3 < m 5) ∧ (0 ≤ x4 ∧ x4 ≤ 3) ∧ ∀ w2 : PW, LW w2 m H n k0 sn sf → bd (sNotA m (x3).toNat x4) → pX 225 104 [some (.ref 0), some (.long ((((31 : Int64)) * y1) + (i2L (sNotA m (x3).toNat x4)))), none, some (iv x3), some (iv (x4 + 1))] [] w2 Q)) : pX 225 104 [some (.ref 0), some (.long y1), none, some (iv x3), some (iv x4)] [] w Q :=
  w_f b225 d225_104 rfl rfl rfl <| w_f b225 d225_106 rfl rfl rfl <| w_icgt b225 d225_107 rfl rfl (by decide +kernel) hx4 ⟨by decide, by decide⟩ (fun c1 => w_f b225 d225_131 rfl (pf_iinc rfl rfl) rfl <| w_j b225 d225_134 rfl (by decide +kernel) <| (h.1 c1)) (fun c1 => w_ldcL b225 d225_110 rfl rfl <| w_f b225 d225_113 rfl rfl rfl <| w_f b225 d225_114 rfl rfl rfl <| w_f b225 d225_115 rfl rfl rfl <| w_f b225 d225_116 rfl rfl rfl <| w_f b225 d225_117 rfl rfl rfl <| w_cc b225 d225_119 rfl (pcl_v (n := 2) rfl rfl rfl (by decide +kernel) (sh_isOb hl.sh (tlt 0 rfl) tbC_0) rfl rfl) rfl <| q74 hl hx3 hx4 (h.2 c1).1 (h.2 c1).2.1 (fun w2 lw2 bw2 => w_f b225 d225_122 rfl rfl rfl <| w_f b225 d225_123 rfl rfl rfl <| w_f b225 d225_124 rfl rfl rfl <| w_f b225 d225_125 rfl (pf_iinc rfl rfl) rfl <| w_j b225 d225_128 rfl (by decide +kernel) <| ((h.2 c1).2.2 w2 lw2 bw2)))
theorem v225_139 {w : PW} {Q : PO → PW → Prop} {m : Row} {H : Nat → Row} {n : Nat} {k0 : Option Row} {sn : Nat} {sf : Nat → Int32} {y1 : Int64} {x3 : Int} {o4 : Option Value} (hl : LW w m H n k0 sn sf) (hx3 : bd x3) (ho4 : pc2 o4 = false) (h : ∀ w1 : PW, LW w1 m H n k0 sn sf → bd (m 1) → ((m 1) ≤ x3 → Q (.inl (some (.long y1))) w1) ∧ (x3 < (m 1) → pX 225 151 [some (.ref 0), some (.long y1), none, some (iv x3), some (iv 0)] [] w1 Q)) : pX 225 139 [some (.ref 0), some (.long y1), none, some (iv x3), o4] [] w Q :=
  w_f b225 d225_139 rfl rfl rfl <| w_f b225 d225_140 rfl rfl rfl <| w_f b225 d225_141 rfl rfl rfl <| w_cc b225 d225_142 rfl (pcl_v (n := 1) rfl rfl rfl (by decide +kernel) (sh_isOb hl.sh (tlt 0 rfl) tbC_0) rfl rfl) rfl <| q65_1 hl ⟨by decide, by decide⟩ (fun w1 lw1 bw1 => w_icge b225 d225_145 rfl rfl (by decide +kernel) hx3 bw1 (fun c2 => w_f b225 d225_188 rfl rfl rfl <| w_rl b225 d225_189 r225 ((h w1 lw1 bw1).1 c2)) (fun c2 => w_f b225 d225_148 rfl rfl rfl <| w_f b225 d225_149 rfl rfl rfl <| ((h w1 lw1 bw1).2 c2)))
theorem v225_151 {w : PW} {Q : PO → PW → Prop} {m : Row} {H : Nat → Row} {n : Nat} {k0 : Option Row} {sn : Nat} {sf : Nat → Int32} {y1 : Int64} {x3 : Int} {x4 : Int} (hl : LW w m H n k0 sn sf) (hx3 : bd x3) (hx4 : bd x4) (h : ∀ w1 : PW, LW w1 m H n k0 sn sf → bd (m 0) → ((m 0) ≤ x4 → pX 225 139 [some (.ref 0), some (.long y1), none, some (iv (x3 + 1)), some (iv x4)] [] w1 Q) ∧ (x4 < (m 0) → (0 ≤ x3 ∧ x3 < m 1) ∧ (0 ≤ x4 ∧ x4 < m 0) ∧ ∀ w3 : PW, LW w3 m H n k0 sn sf → bd (m (251 + 64 * (x3).toNat + (x4).toNat)) → pX 225 151 [some (.ref 0), some (.long ((((31 : Int64)) * y1) + (i2L (m (251 + 64 * (x3).toNat + (x4).toNat))))), none, some (iv x3), some (iv (x4 + 1))] [] w3 Q)) : pX 225 151 [some (.ref 0), some (.long y1), none, some (iv x3), some (iv x4)] [] w Q :=
  w_f b225 d225_151 rfl rfl rfl <| w_f b225 d225_153 rfl rfl rfl <| w_f b225 d225_154 rfl rfl rfl <| w_cc b225 d225_155 rfl (pcl_v (n := 1) rfl rfl rfl (by decide +kernel) (sh_isOb hl.sh (tlt 0 rfl) tbC_0) rfl rfl) rfl <| q65_0 hl ⟨by decide, by decide⟩ (fun w1 lw1 bw1 => w_icge b225 d225_158 rfl rfl (by decide +kernel) hx4 bw1 (fun c2 => w_f b225 d225_182 rfl (pf_iinc rfl rfl) rfl <| w_j b225 d225_185 rfl (by decide +kernel) <| ((h w1 lw1 bw1).1 c2)) (fun c2 => w_ldcL b225 d225_161 rfl rfl <| w_f b225 d225_164 rfl rfl rfl <| w_f b225 d225_165 rfl rfl rfl <| w_f b225 d225_166 rfl rfl rfl <| w_f b225 d225_167 rfl rfl rfl <| w_f b225 d225_168 rfl rfl rfl <| w_cc b225 d225_170 rfl (pcl_v (n := 2) rfl rfl rfl (by decide +kernel) (sh_isOb lw1.sh (tlt 0 rfl) tbC_0) rfl rfl) rfl <| q85 lw1 hx3 hx4 ((h w1 lw1 bw1).2 c2).1 ((h w1 lw1 bw1).2 c2).2.1 (fun w3 lw3 bw3 => w_f b225 d225_173 rfl rfl rfl <| w_f b225 d225_174 rfl rfl rfl <| w_f b225 d225_175 rfl rfl rfl <| w_f b225 d225_176 rfl (pf_iinc rfl rfl) rfl <| w_j b225 d225_179 rfl (by decide +kernel) <| (((h w1 lw1 bw1).2 c2).2.2 w3 lw3 bw3))))
def wF (f : Nat → Int) : Nat → Int64 → Int64
  | 0, v => v
  | k + 1, v => 31 * wF f k v + i2L (f k)
def wG (f : Nat → Nat → Int) (c : Nat) : Nat → Int64 → Int64
  | 0, v => v
  | k + 1, v => wF (f k) c (wG f c k v)
def sWhl1 (m : Row) : Int64 := wF (fun k => sSize m 0 (k : Nat)) 13 (i2L (sHeard m (m 9 - 1) 0))
def sWhl2 (m : Row) : Int64 := wG (fun t x => sTooA m t (x : Nat)) 8 (m 4).toNat (sWhl1 m)
def sWhl3 (m : Row) : Int64 := wG (fun i x => sNotA m i (x : Nat)) 4 (m 5).toNat (sWhl2 m)
/-- what whole tells of a row -/
def sWhl (m : Row) : Int64 := wG (fun u s => m (251 + 64 * u + s)) (m 0).toNat (m 1).toNat (sWhl3 m)
theorem sSize_n (m : Row) (n : Nat) {x : Int} (h : x ≤ 12) : sSize m n x = sSize m 0 x := by
  unfold sSize
  split
  · rfl
  · split
    · rfl
    · split
      · rfl
      · split
        · rfl
        · split
          · rfl
          · split
            · rfl
            · split
              · rfl
              · split
                · rfl
                · omega
theorem wG_0 (f : Nat → Nat → Int) (c : Nat) (v : Int64) : wG f c 0 v = v := rfl
section LWH
variable {Q : PO → PW → Prop} {m : Row} {H : Nat → Row} {n : Nat} {k0 : Option Row} {sn : Nat} {sf : Nat → Int32}
abbrev whQ (m : Row) (H : Nat → Row) (n : Nat) (k0 : Option Row) (sn : Nat) (sf : Nat → Int32) (Q : PO → PW → Prop) : Prop := ∀ w', LW w' m H n k0 sn sf → Q (.inl (some (.long (sWhl m)))) w'
theorem l225_151 (h0 : RowOK m) {u : Nat} (hu : (u : Int) < m 1) {v : Int64} (hh : ∀ w x, LW w m H n k0 sn sf → pX 225 139 [some (.ref 0), some (.long (wF (fun s => m (251 + 64 * u + s)) (m 0).toNat v)), none, some (iv ((u : Nat) + 1 : Int)), some (iv ((x : Nat) : Int))] [] w Q) :
    ∀ d k : Nat, k + d = (m 0).toNat → ∀ w, LW w m H n k0 sn sf → pX 225 151 [some (.ref 0), some (.long (wF (fun s => m (251 + 64 * u + s)) k v)), none, some (iv (u : Nat)), some (iv (k : Nat))] [] w Q := by
  have s0 := h0.s
  have s1 := h0.u
  intro d
  induction d with
  | zero =>
    intro k hk w l
    refine v225_151 l (bdk (by omega)) (bdk (by omega)) (fun w1 l1 _ => ⟨fun _ => ?_, fun q => by omega⟩)
    rw [show k = (m 0).toNat by omega]
    exact hh w1 _ l1
  | succ d ih =>
    intro k hk w l
    refine v225_151 l (bdk (by omega)) (bdk (by omega)) (fun w1 l1 _ => ⟨fun q => by omega, fun _ => ⟨⟨by omega, hu⟩, ⟨by omega, by omega⟩, fun w3 l3 _ => ?_⟩⟩)
    rw [Int.toNat_natCast, Int.toNat_natCast]
    exact ih (k + 1) (by omega) w3 l3
theorem l225_139 (h0 : RowOK m) (h : whQ m H n k0 sn sf Q) :
    ∀ d k : Nat, k + d = (m 1).toNat → ∀ w, LW w m H n k0 sn sf → ∀ o4, pc2 o4 = false → pX 225 139 [some (.ref 0), some (.long (wG (fun u s => m (251 + 64 * u + s)) (m 0).toNat k (sWhl3 m))), none, some (iv (k : Nat)), o4] [] w Q := by
  have s1 := h0.u
  intro d
  induction d with
  | zero =>
    intro k hk w l o4 ho
    refine v225_139 l (bdk (by omega)) ho (fun w1 l1 _ => ⟨fun _ => ?_, fun q => by omega⟩)
    rw [show k = (m 1).toNat by omega]
    exact h w1 l1
  | succ d ih =>
    intro k hk w l o4 ho
    refine v225_139 l (bdk (by omega)) ho (fun w1 l1 _ => ⟨fun q => by omega, fun q => l225_151 h0 q (fun w2 x l2 => ih (k + 1) (by omega) w2 l2 _ rfl) (m 0).toNat 0 (by omega) w1 l1⟩)
theorem l225_104 (h0 : RowOK m) {u : Nat} (hu : (u : Int) < m 5) {v : Int64} (hh : ∀ w x, LW w m H n k0 sn sf → pX 225 92 [some (.ref 0), some (.long (wF (fun x => sNotA m u (x : Nat)) 4 v)), none, some (iv ((u : Nat) + 1 : Int)), some (iv ((x : Nat) : Int))] [] w Q) :
    ∀ d k : Nat, k + d = 4 → ∀ w, LW w m H n k0 sn sf → pX 225 104 [some (.ref 0), some (.long (wF (fun x => sNotA m u (x : Nat)) k v)), none, some (iv (u : Nat)), some (iv (k : Nat))] [] w Q := by
  have s1 := h0.n
  intro d
  induction d with
  | zero =>
    intro k hk w l
    refine v225_104 l (bdk (by omega)) (bdk (by omega)) ⟨fun _ => ?_, fun q => by omega⟩
    rw [show k = 4 by omega]
    exact hh w _ l
  | succ d ih =>
    intro k hk w l
    refine v225_104 l (bdk (by omega)) (bdk (by omega)) ⟨fun q => by omega, fun _ => ⟨⟨by omega, hu⟩, ⟨by omega, by omega⟩, fun w3 l3 _ => ?_⟩⟩
    rw [Int.toNat_natCast]
    exact ih (k + 1) (by omega) w3 l3
theorem l225_92 (h0 : RowOK m) (h : whQ m H n k0 sn sf Q) :
    ∀ d k : Nat, k + d = (m 5).toNat → ∀ w, LW w m H n k0 sn sf → ∀ o4, pc2 o4 = false → pX 225 92 [some (.ref 0), some (.long (wG (fun i x => sNotA m i (x : Nat)) 4 k (sWhl2 m))), none, some (iv (k : Nat)), o4] [] w Q := by
  have s1 := h0.n
  intro d
  induction d with
  | zero =>
    intro k hk w l o4 ho
    refine v225_92 l (bdk (by omega)) ho (fun w1 l1 _ => ⟨fun _ => ?_, fun q => by omega⟩)
    rw [show k = (m 5).toNat by omega]
    have := l225_139 h0 h (m 1).toNat 0 (by omega) w1 l1 _ ho
    rw [wG_0] at this
    rw [show wG (fun i x => sNotA m i (x : Nat)) 4 (m 5).toNat (sWhl2 m) = sWhl3 m from rfl]
    exact this
  | succ d ih =>
    intro k hk w l o4 ho
    refine v225_92 l (bdk (by omega)) ho (fun w1 l1 _ => ⟨fun q => by omega, fun q => l225_104 h0 q (fun w2 x l2 => ih (k + 1) (by omega) w2 l2 _ rfl) 4 0 (by omega) w1 l1⟩)
theorem l225_56 (h0 : RowOK m) {u : Nat} (hu : (u : Int) < m 4) {v : Int64} (hh : ∀ w x, LW w m H n k0 sn sf → pX 225 44 [some (.ref 0), some (.long (wF (fun x => sTooA m u (x : Nat)) 8 v)), none, some (iv ((u : Nat) + 1 : Int)), some (iv ((x : Nat) : Int))] [] w Q) :
    ∀ d k : Nat, k + d = 8 → ∀ w, LW w m H n k0 sn sf → pX 225 56 [some (.ref 0), some (.long (wF (fun x => sTooA m u (x : Nat)) k v)), none, some (iv (u : Nat)), some (iv (k : Nat))] [] w Q := by
  have s1 := h0.t
  intro d
  induction d with
  | zero =>
    intro k hk w l
    refine v225_56 l (bdk (by omega)) (bdk (by omega)) ⟨fun _ => ?_, fun q => by omega⟩
    rw [show k = 8 by omega]
    exact hh w _ l
  | succ d ih =>
    intro k hk w l
    refine v225_56 l (bdk (by omega)) (bdk (by omega)) ⟨fun q => by omega, fun _ => ⟨⟨by omega, hu⟩, ⟨by omega, by omega⟩, fun w3 l3 _ => ?_⟩⟩
    rw [Int.toNat_natCast]
    exact ih (k + 1) (by omega) w3 l3
theorem l225_44 (h0 : RowOK m) (h : whQ m H n k0 sn sf Q) :
    ∀ d k : Nat, k + d = (m 4).toNat → ∀ w, LW w m H n k0 sn sf → ∀ o4, pc2 o4 = false → pX 225 44 [some (.ref 0), some (.long (wG (fun t x => sTooA m t (x : Nat)) 8 k (sWhl1 m))), none, some (iv (k : Nat)), o4] [] w Q := by
  have s1 := h0.t
  intro d
  induction d with
  | zero =>
    intro k hk w l o4 ho
    refine v225_44 l (bdk (by omega)) ho (fun w1 l1 _ => ⟨fun _ => ?_, fun q => by omega⟩)
    rw [show k = (m 4).toNat by omega]
    have := l225_92 h0 h (m 5).toNat 0 (by omega) w1 l1 _ ho
    rw [wG_0] at this
    rw [show wG (fun t x => sTooA m t (x : Nat)) 8 (m 4).toNat (sWhl1 m) = sWhl2 m from rfl]
    exact this
  | succ d ih =>
    intro k hk w l o4 ho
    refine v225_44 l (bdk (by omega)) ho (fun w1 l1 _ => ⟨fun q => by omega, fun q => l225_56 h0 q (fun w2 x l2 => ih (k + 1) (by omega) w2 l2 _ rfl) 8 0 (by omega) w1 l1⟩)
theorem l225_17 (h0 : RowOK m) (h : whQ m H n k0 sn sf Q) :
    ∀ d k : Nat, k + d = 13 → ∀ w, LW w m H n k0 sn sf → pX 225 17 [some (.ref 0), some (.long (wF (fun k => sSize m 0 (k : Nat)) k (i2L (sHeard m (m 9 - 1) 0)))), none, some (iv (k : Nat)), none] [] w Q := by
  intro d
  induction d with
  | zero =>
    intro k hk w l
    refine v225_17 l (bdk (by omega)) rfl ⟨fun _ => ?_, fun q => by omega⟩
    rw [show k = 13 by omega]
    exact l225_44 h0 h (m 4).toNat 0 (by omega) w l _ rfl
  | succ d ih =>
    intro k hk w l
    refine v225_17 l (bdk (by omega)) rfl ⟨fun q => by omega, fun _ => ⟨⟨by omega, by omega⟩, fun w3 l3 _ => ?_⟩⟩
    rw [sSize_n m n (by omega)]
    exact ih (k + 1) (by omega) w3 l3
theorem q225 {w : PW} (hl : LW w m H n k0 sn sf) (h : whQ m H n k0 sn sf Q) : pC 225 [.ref 0] w Q := by
  have h9 := hl.ok.pp
  have h8 := hl.ok.pt
  exact e225 hl (fun w1 l1 _ => ⟨⟨by omega, by omega⟩, ⟨by omega, by omega⟩, fun w2 l2 _ => l225_17 hl.ok h 13 0 (by omega) w2 l2⟩)
end LWH
