/-! THE LAW's METHODS: collisions -/
/-! 221: PinBarrelLaw.collisions(LPinBarrel;)Z -/
theorem b221 : mB 221 = cL_collisions := rfl
theorem r221 : mR 221 = (some .boolean) := rfl
theorem d221_0 : decode cL_collisions 0 = .ok (.aload_n 0, 1) := by decide +kernel
theorem d221_1 : decode cL_collisions 1 = .ok (.bipush 12, 2) := by decide +kernel
theorem d221_3 : decode cL_collisions 3 = .ok (.invokevirtual 79, 3) := by decide +kernel
theorem d221_6 : decode cL_collisions 6 = .ok (.istore_n 1, 1) := by decide +kernel
theorem d221_7 : decode cL_collisions 7 = .ok (.aload_n 0, 1) := by decide +kernel
theorem d221_8 : decode cL_collisions 8 = .ok (.iload_n 1, 1) := by decide +kernel
theorem d221_9 : decode cL_collisions 9 = .ok (.iconst 0, 1) := by decide +kernel
theorem d221_10 : decode cL_collisions 10 = .ok (.invokevirtual 154, 3) := by decide +kernel
theorem d221_13 : decode cL_collisions 13 = .ok (.iconst (-1), 1) := by decide +kernel
theorem d221_14 : decode cL_collisions 14 = .ok (.if_icmp .eq 5, 3) := by decide +kernel
theorem d221_17 : decode cL_collisions 17 = .ok (.iconst 0, 1) := by decide +kernel
theorem d221_18 : decode cL_collisions 18 = .ok (.ireturn, 1) := by decide +kernel
theorem d221_19 : decode cL_collisions 19 = .ok (.iconst 0, 1) := by decide +kernel
theorem d221_20 : decode cL_collisions 20 = .ok (.istore_n 2, 1) := by decide +kernel
theorem d221_21 : decode cL_collisions 21 = .ok (.iconst 0, 1) := by decide +kernel
theorem d221_22 : decode cL_collisions 22 = .ok (.istore_n 3, 1) := by decide +kernel
theorem d221_23 : decode cL_collisions 23 = .ok (.iload_n 3, 1) := by decide +kernel
theorem d221_24 : decode cL_collisions 24 = .ok (.aload_n 0, 1) := by decide +kernel
theorem d221_25 : decode cL_collisions 25 = .ok (.iconst 1, 1) := by decide +kernel
theorem d221_26 : decode cL_collisions 26 = .ok (.invokevirtual 79, 3) := by decide +kernel
theorem d221_29 : decode cL_collisions 29 = .ok (.aload_n 0, 1) := by decide +kernel
theorem d221_30 : decode cL_collisions 30 = .ok (.iconst 4, 1) := by decide +kernel
theorem d221_31 : decode cL_collisions 31 = .ok (.invokevirtual 79, 3) := by decide +kernel
theorem d221_34 : decode cL_collisions 34 = .ok (.imul, 1) := by decide +kernel
theorem d221_35 : decode cL_collisions 35 = .ok (.iconst 1, 1) := by decide +kernel
theorem d221_36 : decode cL_collisions 36 = .ok (.isub, 1) := by decide +kernel
theorem d221_37 : decode cL_collisions 37 = .ok (.if_icmp .ge 191, 3) := by decide +kernel
theorem d221_40 : decode cL_collisions 40 = .ok (.iconst 0, 1) := by decide +kernel
theorem d221_41 : decode cL_collisions 41 = .ok (.istore 4, 2) := by decide +kernel
theorem d221_43 : decode cL_collisions 43 = .ok (.iload 4, 2) := by decide +kernel
theorem d221_45 : decode cL_collisions 45 = .ok (.aload_n 0, 1) := by decide +kernel
theorem d221_46 : decode cL_collisions 46 = .ok (.iconst 0, 1) := by decide +kernel
theorem d221_47 : decode cL_collisions 47 = .ok (.invokevirtual 79, 3) := by decide +kernel
theorem d221_50 : decode cL_collisions 50 = .ok (.if_icmp .ge 172, 3) := by decide +kernel
theorem d221_53 : decode cL_collisions 53 = .ok (.aload_n 0, 1) := by decide +kernel
theorem d221_54 : decode cL_collisions 54 = .ok (.iload_n 3, 1) := by decide +kernel
theorem d221_55 : decode cL_collisions 55 = .ok (.aload_n 0, 1) := by decide +kernel
theorem d221_56 : decode cL_collisions 56 = .ok (.iconst 1, 1) := by decide +kernel
theorem d221_57 : decode cL_collisions 57 = .ok (.invokevirtual 79, 3) := by decide +kernel
theorem d221_60 : decode cL_collisions 60 = .ok (.irem, 1) := by decide +kernel
theorem d221_61 : decode cL_collisions 61 = .ok (.iload 4, 2) := by decide +kernel
theorem d221_63 : decode cL_collisions 63 = .ok (.iload_n 3, 1) := by decide +kernel
theorem d221_64 : decode cL_collisions 64 = .ok (.aload_n 0, 1) := by decide +kernel
theorem d221_65 : decode cL_collisions 65 = .ok (.iconst 1, 1) := by decide +kernel
theorem d221_66 : decode cL_collisions 66 = .ok (.invokevirtual 79, 3) := by decide +kernel
theorem d221_69 : decode cL_collisions 69 = .ok (.idiv, 1) := by decide +kernel
theorem d221_70 : decode cL_collisions 70 = .ok (.invokevirtual 157, 3) := by decide +kernel
theorem d221_73 : decode cL_collisions 73 = .ok (.ifCond .ne 6, 3) := by decide +kernel
theorem d221_76 : decode cL_collisions 76 = .ok (.goto 140, 3) := by decide +kernel
theorem d221_79 : decode cL_collisions 79 = .ok (.iconst 0, 1) := by decide +kernel
theorem d221_80 : decode cL_collisions 80 = .ok (.istore 5, 2) := by decide +kernel
theorem d221_82 : decode cL_collisions 82 = .ok (.iload 5, 2) := by decide +kernel
theorem d221_84 : decode cL_collisions 84 = .ok (.aload_n 0, 1) := by decide +kernel
theorem d221_85 : decode cL_collisions 85 = .ok (.iconst 0, 1) := by decide +kernel
theorem d221_86 : decode cL_collisions 86 = .ok (.invokevirtual 79, 3) := by decide +kernel
theorem d221_89 : decode cL_collisions 89 = .ok (.if_icmp .ge 127, 3) := by decide +kernel
theorem d221_92 : decode cL_collisions 92 = .ok (.aload_n 0, 1) := by decide +kernel
theorem d221_93 : decode cL_collisions 93 = .ok (.iload_n 3, 1) := by decide +kernel
theorem d221_94 : decode cL_collisions 94 = .ok (.iconst 1, 1) := by decide +kernel
theorem d221_95 : decode cL_collisions 95 = .ok (.iadd, 1) := by decide +kernel
theorem d221_96 : decode cL_collisions 96 = .ok (.aload_n 0, 1) := by decide +kernel
theorem d221_97 : decode cL_collisions 97 = .ok (.iconst 1, 1) := by decide +kernel
theorem d221_98 : decode cL_collisions 98 = .ok (.invokevirtual 79, 3) := by decide +kernel
theorem d221_101 : decode cL_collisions 101 = .ok (.irem, 1) := by decide +kernel
theorem d221_102 : decode cL_collisions 102 = .ok (.iload 5, 2) := by decide +kernel
theorem d221_104 : decode cL_collisions 104 = .ok (.iload_n 3, 1) := by decide +kernel
theorem d221_105 : decode cL_collisions 105 = .ok (.iconst 1, 1) := by decide +kernel
theorem d221_106 : decode cL_collisions 106 = .ok (.iadd, 1) := by decide +kernel
theorem d221_107 : decode cL_collisions 107 = .ok (.aload_n 0, 1) := by decide +kernel
theorem d221_108 : decode cL_collisions 108 = .ok (.iconst 1, 1) := by decide +kernel
theorem d221_109 : decode cL_collisions 109 = .ok (.invokevirtual 79, 3) := by decide +kernel
theorem d221_112 : decode cL_collisions 112 = .ok (.idiv, 1) := by decide +kernel
theorem d221_113 : decode cL_collisions 113 = .ok (.invokevirtual 157, 3) := by decide +kernel
theorem d221_116 : decode cL_collisions 116 = .ok (.ifCond .eq 94, 3) := by decide +kernel
theorem d221_119 : decode cL_collisions 119 = .ok (.aload_n 0, 1) := by decide +kernel
theorem d221_120 : decode cL_collisions 120 = .ok (.iload 4, 2) := by decide +kernel
theorem d221_122 : decode cL_collisions 122 = .ok (.iload 5, 2) := by decide +kernel
theorem d221_124 : decode cL_collisions 124 = .ok (.invokestatic 161, 3) := by decide +kernel
theorem d221_127 : decode cL_collisions 127 = .ok (.ifCond .ne 6, 3) := by decide +kernel
theorem d221_130 : decode cL_collisions 130 = .ok (.goto 80, 3) := by decide +kernel
theorem d221_133 : decode cL_collisions 133 = .ok (.aload_n 0, 1) := by decide +kernel
theorem d221_134 : decode cL_collisions 134 = .ok (.iload_n 2, 1) := by decide +kernel
theorem d221_135 : decode cL_collisions 135 = .ok (.iconst 0, 1) := by decide +kernel
theorem d221_136 : decode cL_collisions 136 = .ok (.invokevirtual 154, 3) := by decide +kernel
theorem d221_139 : decode cL_collisions 139 = .ok (.iload_n 3, 1) := by decide +kernel
theorem d221_140 : decode cL_collisions 140 = .ok (.aload_n 0, 1) := by decide +kernel
theorem d221_141 : decode cL_collisions 141 = .ok (.iconst 1, 1) := by decide +kernel
theorem d221_142 : decode cL_collisions 142 = .ok (.invokevirtual 79, 3) := by decide +kernel
theorem d221_145 : decode cL_collisions 145 = .ok (.irem, 1) := by decide +kernel
theorem d221_146 : decode cL_collisions 146 = .ok (.if_icmp .ne 59, 3) := by decide +kernel
theorem d221_149 : decode cL_collisions 149 = .ok (.aload_n 0, 1) := by decide +kernel
theorem d221_150 : decode cL_collisions 150 = .ok (.iload_n 2, 1) := by decide +kernel
theorem d221_151 : decode cL_collisions 151 = .ok (.iconst 1, 1) := by decide +kernel
theorem d221_152 : decode cL_collisions 152 = .ok (.invokevirtual 154, 3) := by decide +kernel
theorem d221_155 : decode cL_collisions 155 = .ok (.iload_n 3, 1) := by decide +kernel
theorem d221_156 : decode cL_collisions 156 = .ok (.aload_n 0, 1) := by decide +kernel
theorem d221_157 : decode cL_collisions 157 = .ok (.iconst 1, 1) := by decide +kernel
theorem d221_158 : decode cL_collisions 158 = .ok (.invokevirtual 79, 3) := by decide +kernel
theorem d221_161 : decode cL_collisions 161 = .ok (.idiv, 1) := by decide +kernel
theorem d221_162 : decode cL_collisions 162 = .ok (.if_icmp .ne 43, 3) := by decide +kernel
theorem d221_165 : decode cL_collisions 165 = .ok (.aload_n 0, 1) := by decide +kernel
theorem d221_166 : decode cL_collisions 166 = .ok (.iload_n 2, 1) := by decide +kernel
theorem d221_167 : decode cL_collisions 167 = .ok (.iconst 2, 1) := by decide +kernel
theorem d221_168 : decode cL_collisions 168 = .ok (.invokevirtual 154, 3) := by decide +kernel
theorem d221_171 : decode cL_collisions 171 = .ok (.iload 4, 2) := by decide +kernel
theorem d221_173 : decode cL_collisions 173 = .ok (.if_icmp .ne 32, 3) := by decide +kernel
theorem d221_176 : decode cL_collisions 176 = .ok (.aload_n 0, 1) := by decide +kernel
theorem d221_177 : decode cL_collisions 177 = .ok (.iload_n 2, 1) := by decide +kernel
theorem d221_178 : decode cL_collisions 178 = .ok (.iconst 3, 1) := by decide +kernel
theorem d221_179 : decode cL_collisions 179 = .ok (.invokevirtual 154, 3) := by decide +kernel
theorem d221_182 : decode cL_collisions 182 = .ok (.iload_n 3, 1) := by decide +kernel
theorem d221_183 : decode cL_collisions 183 = .ok (.iconst 1, 1) := by decide +kernel
theorem d221_184 : decode cL_collisions 184 = .ok (.iadd, 1) := by decide +kernel
theorem d221_185 : decode cL_collisions 185 = .ok (.aload_n 0, 1) := by decide +kernel
theorem d221_186 : decode cL_collisions 186 = .ok (.iconst 1, 1) := by decide +kernel
theorem d221_187 : decode cL_collisions 187 = .ok (.invokevirtual 79, 3) := by decide +kernel
theorem d221_190 : decode cL_collisions 190 = .ok (.irem, 1) := by decide +kernel
theorem d221_191 : decode cL_collisions 191 = .ok (.if_icmp .ne 14, 3) := by decide +kernel
theorem d221_194 : decode cL_collisions 194 = .ok (.aload_n 0, 1) := by decide +kernel
theorem d221_195 : decode cL_collisions 195 = .ok (.iload_n 2, 1) := by decide +kernel
theorem d221_196 : decode cL_collisions 196 = .ok (.iconst 5, 1) := by decide +kernel
theorem d221_197 : decode cL_collisions 197 = .ok (.invokevirtual 154, 3) := by decide +kernel
theorem d221_200 : decode cL_collisions 200 = .ok (.iload 5, 2) := by decide +kernel
theorem d221_202 : decode cL_collisions 202 = .ok (.if_icmp .eq 5, 3) := by decide +kernel
theorem d221_205 : decode cL_collisions 205 = .ok (.iconst 0, 1) := by decide +kernel
theorem d221_206 : decode cL_collisions 206 = .ok (.ireturn, 1) := by decide +kernel
theorem d221_207 : decode cL_collisions 207 = .ok (.iinc 2 1, 3) := by decide +kernel
theorem d221_210 : decode cL_collisions 210 = .ok (.iinc 5 1, 3) := by decide +kernel
theorem d221_213 : decode cL_collisions 213 = .ok (.goto (-131), 3) := by decide +kernel
theorem d221_216 : decode cL_collisions 216 = .ok (.iinc 4 1, 3) := by decide +kernel
theorem d221_219 : decode cL_collisions 219 = .ok (.goto (-176), 3) := by decide +kernel
theorem d221_222 : decode cL_collisions 222 = .ok (.iinc 3 1, 3) := by decide +kernel
theorem d221_225 : decode cL_collisions 225 = .ok (.goto (-202), 3) := by decide +kernel
theorem d221_228 : decode cL_collisions 228 = .ok (.iload_n 2, 1) := by decide +kernel
theorem d221_229 : decode cL_collisions 229 = .ok (.iload_n 1, 1) := by decide +kernel
theorem d221_230 : decode cL_collisions 230 = .ok (.if_icmp .ne 7, 3) := by decide +kernel
theorem d221_233 : decode cL_collisions 233 = .ok (.iconst 1, 1) := by decide +kernel
theorem d221_234 : decode cL_collisions 234 = .ok (.goto 4, 3) := by decide +kernel
theorem d221_237 : decode cL_collisions 237 = .ok (.iconst 0, 1) := by decide +kernel
theorem d221_238 : decode cL_collisions 238 = .ok (.ireturn, 1) := by decide +kernel
theorem v221_0 {w : PW} {Q : PO → PW → Prop} {m : Row} {H : Nat → Row} {n : Nat} {k0 : Option Row} {sn : Nat} {sf : Nat → Int32} (hl : LW w m H n k0 sn sf)  (h : ∀ w1 : PW, LW w1 m H n k0 sn sf → bd ((sCo m : Nat)) → (0 ≤ (0 : Int) ∧ (0 : Int) ≤ 5) ∧ ∀ w2 : PW, LW w2 m H n k0 sn sf → bd (sCoQ m ((sCo m : Nat)) (0 : Int)) → ((sCoQ m ((sCo m : Nat)) (0 : Int)) = ((-1)) → pX 221 23 [some (.ref 0), some (iv ((sCo m : Nat))), some (iv 0), some (iv 0), none, none] [] w2 Q) ∧ ((sCoQ m ((sCo m : Nat)) (0 : Int)) ≠ ((-1)) → Q (.inl (some (iv 0))) w2)) : pX 221 0 [some (.ref 0), none, none, none, none, none] [] w Q :=
  w_f b221 d221_0 rfl rfl rfl <| w_f b221 d221_1 rfl rfl rfl <| w_cc b221 d221_3 rfl (pcl_v (n := 1) rfl rfl rfl (by decide +kernel) (sh_isOb hl.sh (tlt 0 rfl) tbC_0) rfl rfl) rfl <| q65_12 hl ⟨by decide, by decide⟩ (fun w1 lw1 bw1 => w_f b221 d221_6 rfl rfl rfl <| w_f b221 d221_7 rfl rfl rfl <| w_f b221 d221_8 rfl rfl rfl <| w_f b221 d221_9 rfl rfl rfl <| w_cc b221 d221_10 rfl (pcl_v (n := 2) rfl rfl rfl (by decide +kernel) (sh_isOb lw1.sh (tlt 0 rfl) tbC_0) rfl rfl) rfl <| q104 lw1 bw1 ⟨by decide, by decide⟩ (h w1 lw1 bw1).1 (fun w2 lw2 bw2 => w_f b221 d221_13 rfl rfl rfl <| w_iceq b221 d221_14 rfl rfl (by decide +kernel) bw2 ⟨by decide, by decide⟩ (fun c3 => w_f b221 d221_19 rfl rfl rfl <| w_f b221 d221_20 rfl rfl rfl <| w_f b221 d221_21 rfl rfl rfl <| w_f b221 d221_22 rfl rfl rfl <| (((h w1 lw1 bw1).2 w2 lw2 bw2).1 c3)) (fun c3 => w_f b221 d221_17 rfl rfl rfl <| w_rz b221 d221_18 r221 (by decide) (((h w1 lw1 bw1).2 w2 lw2 bw2).2 c3))))
theorem e221 {w : PW} {Q : PO → PW → Prop} {m : Row} {H : Nat → Row} {n : Nat} {k0 : Option Row} {sn : Nat} {sf : Nat → Int32} (hl : LW w m H n k0 sn sf)  (h : ∀ w1 : PW, LW w1 m H n k0 sn sf → bd ((sCo m : Nat)) → (0 ≤ (0 : Int) ∧ (0 : Int) ≤ 5) ∧ ∀ w2 : PW, LW w2 m H n k0 sn sf → bd (sCoQ m ((sCo m : Nat)) (0 : Int)) → ((sCoQ m ((sCo m : Nat)) (0 : Int)) = ((-1)) → pX 221 23 [some (.ref 0), some (iv ((sCo m : Nat))), some (iv 0), some (iv 0), none, none] [] w2 Q) ∧ ((sCoQ m ((sCo m : Nat)) (0 : Int)) ≠ ((-1)) → Q (.inl (some (iv 0))) w2)) : pC 221 [.ref 0] w Q :=
  (pC_in (Nat.le_of_ble_eq_true rfl) rfl Q).mpr (v221_0 hl  h)
theorem v221_23 {w : PW} {Q : PO → PW → Prop} {m : Row} {H : Nat → Row} {n : Nat} {k0 : Option Row} {sn : Nat} {sf : Nat → Int32} {x1 : Int} {x2 : Int} {x3 : Int} {o4 : Option Value} {o5 : Option Value} (hl : LW w m H n k0 sn sf) (hx1 : bd x1) (hx2 : bd x2) (hx3 : bd x3) (ho4 : pc2 o4 = false) (ho5 : pc2 o5 = false) (h : ∀ w1 : PW, LW w1 m H n k0 sn sf → bd (m 1) → ∀ w2 : PW, LW w2 m H n k0 sn sf → bd (m 4) → (bd (((m 1) * (m 4)) - 1)) ∧ ((((m 1) * (m 4)) - 1) ≤ x3 → (x2 ≠ x1 → Q (.inl (some (iv 0))) w2) ∧ (x2 = x1 → Q (.inl (some (iv 1))) w2)) ∧ (x3 < (((m 1) * (m 4)) - 1) → pX 221 43 [some (.ref 0), some (iv x1), some (iv x2), some (iv x3), some (iv 0), o5] [] w2 Q)) : pX 221 23 [some (.ref 0), some (iv x1), some (iv x2), some (iv x3), o4, o5] [] w Q :=
  w_f b221 d221_23 rfl rfl rfl <| w_f b221 d221_24 rfl rfl rfl <| w_f b221 d221_25 rfl rfl rfl <| w_cc b221 d221_26 rfl (pcl_v (n := 1) rfl rfl rfl (by decide +kernel) (sh_isOb hl.sh (tlt 0 rfl) tbC_0) rfl rfl) rfl <| q65_1 hl ⟨by decide, by decide⟩ (fun w1 lw1 bw1 => w_f b221 d221_29 rfl rfl rfl <| w_f b221 d221_30 rfl rfl rfl <| w_cc b221 d221_31 rfl (pcl_v (n := 1) rfl rfl rfl (by decide +kernel) (sh_isOb lw1.sh (tlt 0 rfl) tbC_0) rfl rfl) rfl <| q65_4 lw1 ⟨by decide, by decide⟩ (fun w2 lw2 bw2 => w_f b221 d221_34 rfl (pf_imul (m 1) (m 4)) rfl <| w_f b221 d221_35 rfl rfl rfl <| w_f b221 d221_36 rfl (pf_isub ((m 1) * (m 4)) 1) rfl <| w_icge b221 d221_37 rfl rfl (by decide +kernel) hx3 ((h w1 lw1 bw1) w2 lw2 bw2).1 (fun c3 => w_f b221 d221_228 rfl rfl rfl <| w_f b221 d221_229 rfl rfl rfl <| w_icne b221 d221_230 rfl rfl (by decide +kernel) hx2 hx1 (fun c4 => w_f b221 d221_237 rfl rfl rfl <| w_rz b221 d221_238 r221 (by decide) ((((h w1 lw1 bw1) w2 lw2 bw2).2.1 c3).1 c4)) (fun c4 => w_f b221 d221_233 rfl rfl rfl <| w_j b221 d221_234 rfl (by decide +kernel) <| w_rz b221 d221_238 r221 (by decide) ((((h w1 lw1 bw1) w2 lw2 bw2).2.1 c3).2 c4))) (fun c3 => w_f b221 d221_40 rfl rfl rfl <| w_f b221 d221_41 rfl rfl rfl <| (((h w1 lw1 bw1) w2 lw2 bw2).2.2 c3))))
theorem v221_43 {w : PW} {Q : PO → PW → Prop} {m : Row} {H : Nat → Row} {n : Nat} {k0 : Option Row} {sn : Nat} {sf : Nat → Int32} {x1 : Int} {x2 : Int} {x3 : Int} {x4 : Int} {o5 : Option Value} (hl : LW w m H n k0 sn sf) (hx1 : bd x1) (hx2 : bd x2) (hx3 : bd x3) (hx4 : bd x4) (ho5 : pc2 o5 = false) (h : ∀ w1 : PW, LW w1 m H n k0 sn sf → bd (m 0) → ((m 0) ≤ x4 → pX 221 23 [some (.ref 0), some (iv x1), some (iv x2), some (iv (x3 + 1)), some (iv x4), o5] [] w1 Q) ∧ (x4 < (m 0) → ∀ w3 : PW, LW w3 m H n k0 sn sf → bd (m 1) → (0 < (m 1) ∧ (m 1) < 2147483648) ∧ ∀ w4 : PW, LW w4 m H n k0 sn sf → bd (m 1) → (0 < (m 1) ∧ (m 1) < 2147483648) ∧ (bd (x3.tmod (m 1))) ∧ (bd (x3.tdiv (m 1))) ∧ (0 ≤ (x3.tmod (m 1)) ∧ (x3.tmod (m 1)) < m 1) ∧ (0 ≤ x4 ∧ x4 < m 0) ∧ (0 ≤ (x3.tdiv (m 1)) ∧ (x3.tdiv (m 1)) < m 4) ∧ ∀ w5 : PW, LW w5 m H n k0 sn sf → ((rPin m ((x3.tmod (m 1))).toNat (x4).toNat ((x3.tdiv (m 1))).toNat = true) → pX 221 82 [some (.ref 0), some (iv x1), some (iv x2), some (iv x3), some (iv x4), some (iv 0)] [] w5 Q) ∧ ((¬ (rPin m ((x3.tmod (m 1))).toNat (x4).toNat ((x3.tdiv (m 1))).toNat = true)) → pX 221 43 [some (.ref 0), some (iv x1), some (iv x2), some (iv x3), some (iv (x4 + 1)), o5] [] w5 Q))) : pX 221 43 [some (.ref 0), some (iv x1), some (iv x2), some (iv x3), some (iv x4), o5] [] w Q :=
  w_f b221 d221_43 rfl rfl rfl <| w_f b221 d221_45 rfl rfl rfl <| w_f b221 d221_46 rfl rfl rfl <| w_cc b221 d221_47 rfl (pcl_v (n := 1) rfl rfl rfl (by decide +kernel) (sh_isOb hl.sh (tlt 0 rfl) tbC_0) rfl rfl) rfl <| q65_0 hl ⟨by decide, by decide⟩ (fun w1 lw1 bw1 => w_icge b221 d221_50 rfl rfl (by decide +kernel) hx4 bw1 (fun c2 => w_f b221 d221_222 rfl (pf_iinc rfl rfl) rfl <| w_j b221 d221_225 rfl (by decide +kernel) <| ((h w1 lw1 bw1).1 c2)) (fun c2 => w_f b221 d221_53 rfl rfl rfl <| w_f b221 d221_54 rfl rfl rfl <| w_f b221 d221_55 rfl rfl rfl <| w_f b221 d221_56 rfl rfl rfl <| w_cc b221 d221_57 rfl (pcl_v (n := 1) rfl rfl rfl (by decide +kernel) (sh_isOb lw1.sh (tlt 0 rfl) tbC_0) rfl rfl) rfl <| q65_1 lw1 ⟨by decide, by decide⟩ (fun w3 lw3 bw3 => w_f b221 d221_60 rfl (pf_irem hx3 (((h w1 lw1 bw1).2 c2) w3 lw3 bw3).1) rfl <| w_f b221 d221_61 rfl rfl rfl <| w_f b221 d221_63 rfl rfl rfl <| w_f b221 d221_64 rfl rfl rfl <| w_f b221 d221_65 rfl rfl rfl <| w_cc b221 d221_66 rfl (pcl_v (n := 1) rfl rfl rfl (by decide +kernel) (sh_isOb lw3.sh (tlt 0 rfl) tbC_0) rfl rfl) rfl <| q65_1 lw3 ⟨by decide, by decide⟩ (fun w4 lw4 bw4 => w_f b221 d221_69 rfl (pf_idiv hx3 ((((h w1 lw1 bw1).2 c2) w3 lw3 bw3).2 w4 lw4 bw4).1) rfl <| w_cc b221 d221_70 rfl (pcl_v (n := 3) rfl rfl rfl (by decide +kernel) (sh_isOb lw4.sh (tlt 0 rfl) tbC_0) rfl rfl) rfl <| q79 lw4 ((((h w1 lw1 bw1).2 c2) w3 lw3 bw3).2 w4 lw4 bw4).2.1 hx4 ((((h w1 lw1 bw1).2 c2) w3 lw3 bw3).2 w4 lw4 bw4).2.2.1 ((((h w1 lw1 bw1).2 c2) w3 lw3 bw3).2 w4 lw4 bw4).2.2.2.1 ((((h w1 lw1 bw1).2 c2) w3 lw3 bw3).2 w4 lw4 bw4).2.2.2.2.1 ((((h w1 lw1 bw1).2 c2) w3 lw3 bw3).2 w4 lw4 bw4).2.2.2.2.2.1 (fun w5 lw5 => w_ifneZ b221 d221_73 rfl rfl (by decide +kernel) (fun c6 => w_f b221 d221_79 rfl rfl rfl <| w_f b221 d221_80 rfl rfl rfl <| ((((((h w1 lw1 bw1).2 c2) w3 lw3 bw3).2 w4 lw4 bw4).2.2.2.2.2.2 w5 lw5).1 c6)) (fun c6 => w_j b221 d221_76 rfl (by decide +kernel) <| w_f b221 d221_216 rfl (pf_iinc rfl rfl) rfl <| w_j b221 d221_219 rfl (by decide +kernel) <| ((((((h w1 lw1 bw1).2 c2) w3 lw3 bw3).2 w4 lw4 bw4).2.2.2.2.2.2 w5 lw5).2 c6)))))))
theorem v221_82 {w : PW} {Q : PO → PW → Prop} {m : Row} {H : Nat → Row} {n : Nat} {k0 : Option Row} {sn : Nat} {sf : Nat → Int32} {x1 : Int} {x2 : Int} {x3 : Int} {x4 : Int} {x5 : Int} (hl : LW w m H n k0 sn sf) (hx1 : bd x1) (hx2 : bd x2) (hx3 : bd x3) (hx4 : bd x4) (hx5 : bd x5) (h : ∀ w1 : PW, LW w1 m H n k0 sn sf → bd (m 0) → ((m 0) ≤ x5 → pX 221 43 [some (.ref 0), some (iv x1), some (iv x2), some (iv x3), some (iv (x4 + 1)), some (iv x5)] [] w1 Q) ∧ (x5 < (m 0) → ∀ w3 : PW, LW w3 m H n k0 sn sf → bd (m 1) → (bd (x3 + 1)) ∧ (0 < (m 1) ∧ (m 1) < 2147483648) ∧ ∀ w4 : PW, LW w4 m H n k0 sn sf → bd (m 1) → (bd (x3 + 1)) ∧ (0 < (m 1) ∧ (m 1) < 2147483648) ∧ (bd ((x3 + 1).tmod (m 1))) ∧ (bd ((x3 + 1).tdiv (m 1))) ∧ (0 ≤ ((x3 + 1).tmod (m 1)) ∧ ((x3 + 1).tmod (m 1)) < m 1) ∧ (0 ≤ x5 ∧ x5 < m 0) ∧ (0 ≤ ((x3 + 1).tdiv (m 1)) ∧ ((x3 + 1).tdiv (m 1)) < m 4) ∧ ∀ w5 : PW, LW w5 m H n k0 sn sf → ((¬ (rPin m (((x3 + 1).tmod (m 1))).toNat (x5).toNat (((x3 + 1).tdiv (m 1))).toNat = true)) → pX 221 82 [some (.ref 0), some (iv x1), some (iv x2), some (iv x3), some (iv x4), some (iv (x5 + 1))] [] w5 Q) ∧ ((rPin m (((x3 + 1).tmod (m 1))).toNat (x5).toNat (((x3 + 1).tdiv (m 1))).toNat = true) → (0 ≤ x4 ∧ x4 < m 0) ∧ (0 ≤ x5 ∧ x5 < m 0) ∧ ∀ w7 : PW, LW w7 m H n k0 sn sf → ((nearI (m 0) x4 x5 (m 2) = true) → (0 ≤ (0 : Int) ∧ (0 : Int) ≤ 5) ∧ ∀ w9 : PW, LW w9 m H n k0 sn sf → bd (sCoQ m x2 (0 : Int)) → ∀ w10 : PW, LW w10 m H n k0 sn sf → bd (m 1) → (0 < (m 1) ∧ (m 1) < 2147483648) ∧ (bd (x3.tmod (m 1))) ∧ ((sCoQ m x2 (0 : Int)) ≠ (x3.tmod (m 1)) → Q (.inl (some (iv 0))) w10) ∧ ((sCoQ m x2 (0 : Int)) = (x3.tmod (m 1)) → (0 ≤ (1 : Int) ∧ (1 : Int) ≤ 5) ∧ ∀ w12 : PW, LW w12 m H n k0 sn sf → bd (sCoQ m x2 (1 : Int)) → ∀ w13 : PW, LW w13 m H n k0 sn sf → bd (m 1) → (0 < (m 1) ∧ (m 1) < 2147483648) ∧ (bd (x3.tdiv (m 1))) ∧ ((sCoQ m x2 (1 : Int)) ≠ (x3.tdiv (m 1)) → Q (.inl (some (iv 0))) w13) ∧ ((sCoQ m x2 (1 : Int)) = (x3.tdiv (m 1)) → (0 ≤ (2 : Int) ∧ (2 : Int) ≤ 5) ∧ ∀ w15 : PW, LW w15 m H n k0 sn sf → bd (sCoQ m x2 (2 : Int)) → ((sCoQ m x2 (2 : Int)) ≠ x4 → Q (.inl (some (iv 0))) w15) ∧ ((sCoQ m x2 (2 : Int)) = x4 → (0 ≤ (3 : Int) ∧ (3 : Int) ≤ 5) ∧ ∀ w17 : PW, LW w17 m H n k0 sn sf → bd (sCoQ m x2 (3 : Int)) → ∀ w18 : PW, LW w18 m H n k0 sn sf → bd (m 1) → (bd (x3 + 1)) ∧ (0 < (m 1) ∧ (m 1) < 2147483648) ∧ (bd ((x3 + 1).tmod (m 1))) ∧ ((sCoQ m x2 (3 : Int)) ≠ ((x3 + 1).tmod (m 1)) → Q (.inl (some (iv 0))) w18) ∧ ((sCoQ m x2 (3 : Int)) = ((x3 + 1).tmod (m 1)) → (0 ≤ (5 : Int) ∧ (5 : Int) ≤ 5) ∧ ∀ w20 : PW, LW w20 m H n k0 sn sf → bd (sCoQ m x2 (5 : Int)) → ((sCoQ m x2 (5 : Int)) = x5 → pX 221 82 [some (.ref 0), some (iv x1), some (iv (x2 + 1)), some (iv x3), some (iv x4), some (iv (x5 + 1))] [] w20 Q) ∧ ((sCoQ m x2 (5 : Int)) ≠ x5 → Q (.inl (some (iv 0))) w20)))))) ∧ ((¬ (nearI (m 0) x4 x5 (m 2) = true)) → pX 221 82 [some (.ref 0), some (iv x1), some (iv x2), some (iv x3), some (iv x4), some (iv (x5 + 1))] [] w7 Q)))) : pX 221 82 [some (.ref 0), some (iv x1), some (iv x2), some (iv x3), some (iv x4), some (iv x5)] [] w Q :=
  w_f b221 d221_82 rfl rfl rfl <| w_f b221 d221_84 rfl rfl rfl <| w_f b221 d221_85 rfl rfl rfl <| w_cc b221 d221_86 rfl (pcl_v (n := 1) rfl rfl rfl (by decide +kernel) (sh_isOb hl.sh (tlt 0 rfl) tbC_0) rfl rfl) rfl <| q65_0 hl ⟨by decide, by decide⟩ (fun w1 lw1 bw1 => w_icge b221 d221_89 rfl rfl (by decide +kernel) hx5 bw1 (fun c2 => w_f b221 d221_216 rfl (pf_iinc rfl rfl) rfl <| w_j b221 d221_219 rfl (by decide +kernel) <| ((h w1 lw1 bw1).1 c2)) (fun c2 => w_f b221 d221_92 rfl rfl rfl <| w_f b221 d221_93 rfl rfl rfl <| w_f b221 d221_94 rfl rfl rfl <| w_f b221 d221_95 rfl (pf_iadd x3 1) rfl <| w_f b221 d221_96 rfl rfl rfl <| w_f b221 d221_97 rfl rfl rfl <| w_cc b221 d221_98 rfl (pcl_v (n := 1) rfl rfl rfl (by decide +kernel) (sh_isOb lw1.sh (tlt 0 rfl) tbC_0) rfl rfl) rfl <| q65_1 lw1 ⟨by decide, by decide⟩ (fun w3 lw3 bw3 => w_f b221 d221_101 rfl (pf_irem (((h w1 lw1 bw1).2 c2) w3 lw3 bw3).1 (((h w1 lw1 bw1).2 c2) w3 lw3 bw3).2.1) rfl <| w_f b221 d221_102 rfl rfl rfl <| w_f b221 d221_104 rfl rfl rfl <| w_f b221 d221_105 rfl rfl rfl <| w_f b221 d221_106 rfl (pf_iadd x3 1) rfl <| w_f b221 d221_107 rfl rfl rfl <| w_f b221 d221_108 rfl rfl rfl <| w_cc b221 d221_109 rfl (pcl_v (n := 1) rfl rfl rfl (by decide +kernel) (sh_isOb lw3.sh (tlt 0 rfl) tbC_0) rfl rfl) rfl <| q65_1 lw3 ⟨by decide, by decide⟩ (fun w4 lw4 bw4 => w_f b221 d221_112 rfl (pf_idiv ((((h w1 lw1 bw1).2 c2) w3 lw3 bw3).2.2 w4 lw4 bw4).1 ((((h w1 lw1 bw1).2 c2) w3 lw3 bw3).2.2 w4 lw4 bw4).2.1) rfl <| w_cc b221 d221_113 rfl (pcl_v (n := 3) rfl rfl rfl (by decide +kernel) (sh_isOb lw4.sh (tlt 0 rfl) tbC_0) rfl rfl) rfl <| q79 lw4 ((((h w1 lw1 bw1).2 c2) w3 lw3 bw3).2.2 w4 lw4 bw4).2.2.1 hx5 ((((h w1 lw1 bw1).2 c2) w3 lw3 bw3).2.2 w4 lw4 bw4).2.2.2.1 ((((h w1 lw1 bw1).2 c2) w3 lw3 bw3).2.2 w4 lw4 bw4).2.2.2.2.1 ((((h w1 lw1 bw1).2 c2) w3 lw3 bw3).2.2 w4 lw4 bw4).2.2.2.2.2.1 ((((h w1 lw1 bw1).2 c2) w3 lw3 bw3).2.2 w4 lw4 bw4).2.2.2.2.2.2.1 (fun w5 lw5 => w_ifeqZ b221 d221_116 rfl rfl (by decide +kernel) (fun c6 => w_f b221 d221_210 rfl (pf_iinc rfl rfl) rfl <| w_j b221 d221_213 rfl (by decide +kernel) <| ((((((h w1 lw1 bw1).2 c2) w3 lw3 bw3).2.2 w4 lw4 bw4).2.2.2.2.2.2.2 w5 lw5).1 c6)) (fun c6 => w_f b221 d221_119 rfl rfl rfl <| w_f b221 d221_120 rfl rfl rfl <| w_f b221 d221_122 rfl rfl rfl <| w_cc b221 d221_124 rfl (pcl_s1 (n := 3) rfl rfl rfl (by decide +kernel) rfl rfl) rfl <| q220 lw5 hx4 hx5 ((((((h w1 lw1 bw1).2 c2) w3 lw3 bw3).2.2 w4 lw4 bw4).2.2.2.2.2.2.2 w5 lw5).2 c6).1 ((((((h w1 lw1 bw1).2 c2) w3 lw3 bw3).2.2 w4 lw4 bw4).2.2.2.2.2.2.2 w5 lw5).2 c6).2.1 (fun w7 lw7 => w_ifneZ b221 d221_127 rfl rfl (by decide +kernel) (fun c8 => w_f b221 d221_133 rfl rfl rfl <| w_f b221 d221_134 rfl rfl rfl <| w_f b221 d221_135 rfl rfl rfl <| w_cc b221 d221_136 rfl (pcl_v (n := 2) rfl rfl rfl (by decide +kernel) (sh_isOb lw7.sh (tlt 0 rfl) tbC_0) rfl rfl) rfl <| q104 lw7 hx2 ⟨by decide, by decide⟩ ((((((((h w1 lw1 bw1).2 c2) w3 lw3 bw3).2.2 w4 lw4 bw4).2.2.2.2.2.2.2 w5 lw5).2 c6).2.2 w7 lw7).1 c8).1 (fun w9 lw9 bw9 => w_f b221 d221_139 rfl rfl rfl <| w_f b221 d221_140 rfl rfl rfl <| w_f b221 d221_141 rfl rfl rfl <| w_cc b221 d221_142 rfl (pcl_v (n := 1) rfl rfl rfl (by decide +kernel) (sh_isOb lw9.sh (tlt 0 rfl) tbC_0) rfl rfl) rfl <| q65_1 lw9 ⟨by decide, by decide⟩ (fun w10 lw10 bw10 => w_f b221 d221_145 rfl (pf_irem hx3 ((((((((((h w1 lw1 bw1).2 c2) w3 lw3 bw3).2.2 w4 lw4 bw4).2.2.2.2.2.2.2 w5 lw5).2 c6).2.2 w7 lw7).1 c8).2 w9 lw9 bw9) w10 lw10 bw10).1) rfl <| w_icne b221 d221_146 rfl rfl (by decide +kernel) bw9 ((((((((((h w1 lw1 bw1).2 c2) w3 lw3 bw3).2.2 w4 lw4 bw4).2.2.2.2.2.2.2 w5 lw5).2 c6).2.2 w7 lw7).1 c8).2 w9 lw9 bw9) w10 lw10 bw10).2.1 (fun c11 => w_f b221 d221_205 rfl rfl rfl <| w_rz b221 d221_206 r221 (by decide) (((((((((((h w1 lw1 bw1).2 c2) w3 lw3 bw3).2.2 w4 lw4 bw4).2.2.2.2.2.2.2 w5 lw5).2 c6).2.2 w7 lw7).1 c8).2 w9 lw9 bw9) w10 lw10 bw10).2.2.1 c11)) (fun c11 => w_f b221 d221_149 rfl rfl rfl <| w_f b221 d221_150 rfl rfl rfl <| w_f b221 d221_151 rfl rfl rfl <| w_cc b221 d221_152 rfl (pcl_v (n := 2) rfl rfl rfl (by decide +kernel) (sh_isOb lw10.sh (tlt 0 rfl) tbC_0) rfl rfl) rfl <| q104 lw10 hx2 ⟨by decide, by decide⟩ (((((((((((h w1 lw1 bw1).2 c2) w3 lw3 bw3).2.2 w4 lw4 bw4).2.2.2.2.2.2.2 w5 lw5).2 c6).2.2 w7 lw7).1 c8).2 w9 lw9 bw9) w10 lw10 bw10).2.2.2 c11).1 (fun w12 lw12 bw12 => w_f b221 d221_155 rfl rfl rfl <| w_f b221 d221_156 rfl rfl rfl <| w_f b221 d221_157 rfl rfl rfl <| w_cc b221 d221_158 rfl (pcl_v (n := 1) rfl rfl rfl (by decide +kernel) (sh_isOb lw12.sh (tlt 0 rfl) tbC_0) rfl rfl) rfl <| q65_1 lw12 ⟨by decide, by decide⟩ (fun w13 lw13 bw13 => w_f b221 d221_161 rfl (pf_idiv hx3 (((((((((((((h w1 lw1 bw1).2 c2) w3 lw3 bw3).2.2 w4 lw4 bw4).2.2.2.2.2.2.2 w5 lw5).2 c6).2.2 w7 lw7).1 c8).2 w9 lw9 bw9) w10 lw10 bw10).2.2.2 c11).2 w12 lw12 bw12) w13 lw13 bw13).1) rfl <| w_icne b221 d221_162 rfl rfl (by decide +kernel) bw12 (((((((((((((h w1 lw1 bw1).2 c2) w3 lw3 bw3).2.2 w4 lw4 bw4).2.2.2.2.2.2.2 w5 lw5).2 c6).2.2 w7 lw7).1 c8).2 w9 lw9 bw9) w10 lw10 bw10).2.2.2 c11).2 w12 lw12 bw12) w13 lw13 bw13).2.1 (fun c14 => w_f b221 d221_205 rfl rfl rfl <| w_rz b221 d221_206 r221 (by decide) ((((((((((((((h w1 lw1 bw1).2 c2) w3 lw3 bw3).2.2 w4 lw4 bw4).2.2.2.2.2.2.2 w5 lw5).2 c6).2.2 w7 lw7).1 c8).2 w9 lw9 bw9) w10 lw10 bw10).2.2.2 c11).2 w12 lw12 bw12) w13 lw13 bw13).2.2.1 c14)) (fun c14 => w_f b221 d221_165 rfl rfl rfl <| w_f b221 d221_166 rfl rfl rfl <| w_f b221 d221_167 rfl rfl rfl <| w_cc b221 d221_168 rfl (pcl_v (n := 2) rfl rfl rfl (by decide +kernel) (sh_isOb lw13.sh (tlt 0 rfl) tbC_0) rfl rfl) rfl <| q104 lw13 hx2 ⟨by decide, by decide⟩ ((((((((((((((h w1 lw1 bw1).2 c2) w3 lw3 bw3).2.2 w4 lw4 bw4).2.2.2.2.2.2.2 w5 lw5).2 c6).2.2 w7 lw7).1 c8).2 w9 lw9 bw9) w10 lw10 bw10).2.2.2 c11).2 w12 lw12 bw12) w13 lw13 bw13).2.2.2 c14).1 (fun w15 lw15 bw15 => w_f b221 d221_171 rfl rfl rfl <| w_icne b221 d221_173 rfl rfl (by decide +kernel) bw15 hx4 (fun c16 => w_f b221 d221_205 rfl rfl rfl <| w_rz b221 d221_206 r221 (by decide) ((((((((((((((((h w1 lw1 bw1).2 c2) w3 lw3 bw3).2.2 w4 lw4 bw4).2.2.2.2.2.2.2 w5 lw5).2 c6).2.2 w7 lw7).1 c8).2 w9 lw9 bw9) w10 lw10 bw10).2.2.2 c11).2 w12 lw12 bw12) w13 lw13 bw13).2.2.2 c14).2 w15 lw15 bw15).1 c16)) (fun c16 => w_f b221 d221_176 rfl rfl rfl <| w_f b221 d221_177 rfl rfl rfl <| w_f b221 d221_178 rfl rfl rfl <| w_cc b221 d221_179 rfl (pcl_v (n := 2) rfl rfl rfl (by decide +kernel) (sh_isOb lw15.sh (tlt 0 rfl) tbC_0) rfl rfl) rfl <| q104 lw15 hx2 ⟨by decide, by decide⟩ ((((((((((((((((h w1 lw1 bw1).2 c2) w3 lw3 bw3).2.2 w4 lw4 bw4).2.2.2.2.2.2.2 w5 lw5).2 c6).2.2 w7 lw7).1 c8).2 w9 lw9 bw9) w10 lw10 bw10).2.2.2 c11).2 w12 lw12 bw12) w13 lw13 bw13).2.2.2 c14).2 w15 lw15 bw15).2 c16).1 (fun w17 lw17 bw17 => w_f b221 d221_182 rfl rfl rfl <| w_f b221 d221_183 rfl rfl rfl <| w_f b221 d221_184 rfl (pf_iadd x3 1) rfl <| w_f b221 d221_185 rfl rfl rfl <| w_f b221 d221_186 rfl rfl rfl <| w_cc b221 d221_187 rfl (pcl_v (n := 1) rfl rfl rfl (by decide +kernel) (sh_isOb lw17.sh (tlt 0 rfl) tbC_0) rfl rfl) rfl <| q65_1 lw17 ⟨by decide, by decide⟩ (fun w18 lw18 bw18 => w_f b221 d221_190 rfl (pf_irem ((((((((((((((((((h w1 lw1 bw1).2 c2) w3 lw3 bw3).2.2 w4 lw4 bw4).2.2.2.2.2.2.2 w5 lw5).2 c6).2.2 w7 lw7).1 c8).2 w9 lw9 bw9) w10 lw10 bw10).2.2.2 c11).2 w12 lw12 bw12) w13 lw13 bw13).2.2.2 c14).2 w15 lw15 bw15).2 c16).2 w17 lw17 bw17) w18 lw18 bw18).1 ((((((((((((((((((h w1 lw1 bw1).2 c2) w3 lw3 bw3).2.2 w4 lw4 bw4).2.2.2.2.2.2.2 w5 lw5).2 c6).2.2 w7 lw7).1 c8).2 w9 lw9 bw9) w10 lw10 bw10).2.2.2 c11).2 w12 lw12 bw12) w13 lw13 bw13).2.2.2 c14).2 w15 lw15 bw15).2 c16).2 w17 lw17 bw17) w18 lw18 bw18).2.1) rfl <| w_icne b221 d221_191 rfl rfl (by decide +kernel) bw17 ((((((((((((((((((h w1 lw1 bw1).2 c2) w3 lw3 bw3).2.2 w4 lw4 bw4).2.2.2.2.2.2.2 w5 lw5).2 c6).2.2 w7 lw7).1 c8).2 w9 lw9 bw9) w10 lw10 bw10).2.2.2 c11).2 w12 lw12 bw12) w13 lw13 bw13).2.2.2 c14).2 w15 lw15 bw15).2 c16).2 w17 lw17 bw17) w18 lw18 bw18).2.2.1 (fun c19 => w_f b221 d221_205 rfl rfl rfl <| w_rz b221 d221_206 r221 (by decide) (((((((((((((((((((h w1 lw1 bw1).2 c2) w3 lw3 bw3).2.2 w4 lw4 bw4).2.2.2.2.2.2.2 w5 lw5).2 c6).2.2 w7 lw7).1 c8).2 w9 lw9 bw9) w10 lw10 bw10).2.2.2 c11).2 w12 lw12 bw12) w13 lw13 bw13).2.2.2 c14).2 w15 lw15 bw15).2 c16).2 w17 lw17 bw17) w18 lw18 bw18).2.2.2.1 c19)) (fun c19 => w_f b221 d221_194 rfl rfl rfl <| w_f b221 d221_195 rfl rfl rfl <| w_f b221 d221_196 rfl rfl rfl <| w_cc b221 d221_197 rfl (pcl_v (n := 2) rfl rfl rfl (by decide +kernel) (sh_isOb lw18.sh (tlt 0 rfl) tbC_0) rfl rfl) rfl <| q104 lw18 hx2 ⟨by decide, by decide⟩ (((((((((((((((((((h w1 lw1 bw1).2 c2) w3 lw3 bw3).2.2 w4 lw4 bw4).2.2.2.2.2.2.2 w5 lw5).2 c6).2.2 w7 lw7).1 c8).2 w9 lw9 bw9) w10 lw10 bw10).2.2.2 c11).2 w12 lw12 bw12) w13 lw13 bw13).2.2.2 c14).2 w15 lw15 bw15).2 c16).2 w17 lw17 bw17) w18 lw18 bw18).2.2.2.2 c19).1 (fun w20 lw20 bw20 => w_f b221 d221_200 rfl rfl rfl <| w_iceq b221 d221_202 rfl rfl (by decide +kernel) bw20 hx5 (fun c21 => w_f b221 d221_207 rfl (pf_iinc rfl rfl) rfl <| w_f b221 d221_210 rfl (pf_iinc rfl rfl) rfl <| w_j b221 d221_213 rfl (by decide +kernel) <| (((((((((((((((((((((h w1 lw1 bw1).2 c2) w3 lw3 bw3).2.2 w4 lw4 bw4).2.2.2.2.2.2.2 w5 lw5).2 c6).2.2 w7 lw7).1 c8).2 w9 lw9 bw9) w10 lw10 bw10).2.2.2 c11).2 w12 lw12 bw12) w13 lw13 bw13).2.2.2 c14).2 w15 lw15 bw15).2 c16).2 w17 lw17 bw17) w18 lw18 bw18).2.2.2.2 c19).2 w20 lw20 bw20).1 c21)) (fun c21 => w_f b221 d221_205 rfl rfl rfl <| w_rz b221 d221_206 r221 (by decide) (((((((((((((((((((((h w1 lw1 bw1).2 c2) w3 lw3 bw3).2.2 w4 lw4 bw4).2.2.2.2.2.2.2 w5 lw5).2 c6).2.2 w7 lw7).1 c8).2 w9 lw9 bw9) w10 lw10 bw10).2.2.2 c11).2 w12 lw12 bw12) w13 lw13 bw13).2.2.2 c14).2 w15 lw15 bw15).2 c16).2 w17 lw17 bw17) w18 lw18 bw18).2.2.2.2 c19).2 w20 lw20 bw20).2 c21))))))))))))))) (fun c8 => w_j b221 d221_130 rfl (by decide +kernel) <| w_f b221 d221_210 rfl (pf_iinc rfl rfl) rfl <| w_j b221 d221_213 rfl (by decide +kernel) <| ((((((((h w1 lw1 bw1).2 c2) w3 lw3 bw3).2.2 w4 lw4 bw4).2.2.2.2.2.2.2 w5 lw5).2 c6).2.2 w7 lw7).2 c8)))))))))
theorem tdm {m : Row} (hR : RowOK m) (j : Nat) : ((j : Nat) : Int).tmod (m 1) = ((j % (m 1).toNat : Nat) : Int) ∧ ((j : Nat) : Int).tdiv (m 1) = ((j / (m 1).toNat : Nat) : Int) := by
  have h1 := hR.u
  obtain ⟨U, hU⟩ := nat_of (show 0 ≤ m 1 by omega)
  rw [hU, Int.toNat_natCast, Int.tmod_eq_emod_of_nonneg (by omega), Int.tdiv_eq_ediv_of_nonneg (by omega), Int.natCast_emod, Int.natCast_ediv]
  exact ⟨rfl, rfl⟩
theorem rTr_in {m : Row} {j s : Nat} (hj : j < (m 1).toNat * (m 4).toNat) (hs : s < (m 0).toNat) : rTr m j s = rPin m (j % (m 1).toNat) s (j / (m 1).toNat) := by
  unfold rTr
  rw [decide_eq_true hj, decide_eq_true hs]
  rfl
theorem rTr_out {m : Row} {j s : Nat} (h : (m 1).toNat * (m 4).toNat ≤ j ∨ (m 0).toNat ≤ s) : rTr m j s = false := by
  unfold rTr
  rcases h with h | h
  · rw [decide_eq_false (show ¬ j < (m 1).toNat * (m 4).toNat by omega)]; rfl
  · rw [decide_eq_false (show ¬ s < (m 0).toNat by omega), Bool.false_and, Bool.and_false]
theorem coP_at {m : Row} {j a b : Nat} (ha : a < 64) (hb : b < 64) : sCoP m (4096 * j + 64 * a + b) = (rTr m j a && (rTr m (j + 1) b && nearI (m 0) (a : Nat) (b : Nat) (m 2))) := by
  unfold sCoP sCo1 prP
  rw [show (4096 * j + 64 * a + b) / 4096 = j by omega, show (4096 * j + 64 * a + b) % 4096 / 64 = a by omega, show (4096 * j + 64 * a + b) % 4096 % 64 = b by omega]
theorem coP_ix (c : Nat) : c = 4096 * (c / 4096) + 64 * (c % 4096 / 64) + c % 4096 % 64 := by omega
theorem coP_out {m : Row} {c : Nat} (h : (m 1).toNat * (m 4).toNat ≤ c / 4096 + 1 ∨ (m 0).toNat ≤ c % 4096 / 64 ∨ (m 0).toNat ≤ c % 4096 % 64) : sCoP m c = false := by
  rw [coP_ix c, coP_at (by omega) (by omega)]
  rcases h with h | h | h
  · rw [rTr_out (j := c / 4096 + 1) (Or.inl h), Bool.false_and, Bool.and_false]
  · rw [rTr_out (s := c % 4096 / 64) (Or.inr h), Bool.false_and]
  · rw [rTr_out (s := c % 4096 % 64) (Or.inr h), Bool.false_and, Bool.and_false]
/-- a collision's numbers, by its place -/
theorem sCoQ_at {m : Row} {j a b : Nat} (hj : j < 36) (ha : a < 64) (hb : b < 64) (h : sCoP m (4096 * j + 64 * a + b) = true) (x : Int) : sCoQ m (cnt (sCoP m) (4096 * j + 64 * a + b) : Nat) x = if x = 0 then ((j % (m 1).toNat : Nat) : Int) else if x = 1 then ((j / (m 1).toNat : Nat) : Int) else if x = 2 then ((a : Nat) : Int) else if x = 3 then (((j + 1) % (m 1).toNat : Nat) : Int) else if x = 4 then (((j + 1) / (m 1).toNat : Nat) : Int) else ((b : Nat) : Int) := by
  have e := sel_at (P := sCoP m) (x := (cnt (sCoP m) (4096 * j + 64 * a + b) : Nat)) (n := 4096 * 36) (by omega) h rfl
  unfold sCoQ
  rw [e, if_neg (by omega), Int.toNat_natCast]
  unfold sCoA
  rw [show (4096 * j + 64 * a + b) / 4096 = j by omega, show (4096 * j + 64 * a + b) / 64 % 64 = a by omega, show (4096 * j + 64 * a + b) % 64 = b by omega]
section LCO
variable {Q : PO → PW → Prop} {m : Row} {H : Nat → Row} {n : Nat} {k0 : Option Row} {sn : Nat} {sf : Nat → Int32}
abbrev L221 (m : Row) (c j : Nat) (t : List (Option Value)) : PL := [some (.ref 0), some (iv (sCo m : Nat)), some (iv (cnt (sCoP m) c : Nat)), some (iv (j : Nat))] ++ t
theorem l221_82 (hR : RowOK m) {j a : Nat} (hj : j + 1 < (m 1).toNat * (m 4).toNat) (ha : a < (m 0).toNat) (hp : rPin m (j % (m 1).toNat) a (j / (m 1).toNat) = true) (h : ∀ w', LW w' m H n k0 sn sf → ∀ o5, pc2 o5 = false → pX 221 43 (L221 m (4096 * j + 64 * (a + 1)) j [some (iv ((a + 1 : Nat) : Int)), o5]) [] w' Q) :
    ∀ k b : Nat, b + k = (m 0).toNat → ∀ w, LW w m H n k0 sn sf → pX 221 82 (L221 m (4096 * j + 64 * a + b) j [some (iv (a : Nat)), some (iv (b : Nat))]) [] w Q := by
  have h0 := hR.s
  have h1 := hR.u
  have h4 := hR.t
  have hut := (UT_le hR).1
  have hco := sCo_bd m
  have hU : 0 < (m 1).toNat := by omega
  have g1 := Nat.mod_lt (j + 1) hU
  have g2 : (j + 1) / (m 1).toNat < (m 4).toNat := Nat.div_lt_of_lt_mul hj
  have g3 := Nat.mod_lt j hU
  have g4 : j / (m 1).toNat < (m 4).toNat := Nat.div_lt_of_lt_mul (by omega)
  have hm1 : 0 < m 1 ∧ m 1 < 2147483648 := ⟨by omega, by omega⟩
  have bj : bd ((j + 1 : Nat) : Int) := bdk (by omega)
  have bm : bd ((j % (m 1).toNat : Nat) : Int) := bdk (by omega)
  have bm1 : bd (((j + 1) % (m 1).toNat : Nat) : Int) := bdk (by omega)
  have bd0 : bd ((j / (m 1).toNat : Nat) : Int) := bdk (by omega)
  have bd1 : bd (((j + 1) / (m 1).toNat : Nat) : Int) := bdk (by omega)
  intro k
  induction k with
  | zero =>
    intro b hb w l
    have hc := cnt_le (sCoP m) (4096 * j + 64 * a + b)
    refine v221_82 l (bdk (by omega)) (bdk (by omega)) (bdk (by omega)) (bdk (by omega)) (bdk (by omega)) (fun w1 l1 _ => ⟨fun _ => ?_, fun q => by omega⟩)
    rw [show cnt (sCoP m) (4096 * j + 64 * a + b) = cnt (sCoP m) (4096 * j + 64 * (a + 1)) from cnt_gap (by omega) (fun i hi1 hi2 => coP_out (Or.inr (Or.inr (by omega))))]
    exact h w1 l1 _ rfl
  | succ k ih =>
    intro b hb w l
    have hc := cnt_le (sCoP m) (4096 * j + 64 * a + b)
    have hP := coP_at (m := m) (j := j) (a := a) (b := b) (by omega) (by omega)
    rw [rTr_in (by omega) ha, rTr_in hj (by omega), hp, Bool.true_and] at hP
    have go : sCoP m (4096 * j + 64 * a + b) = false → ∀ w', LW w' m H n k0 sn sf → pX 221 82 (L221 m (4096 * j + 64 * a + b) j [some (iv (a : Nat)), some (iv ((b : Nat) + 1 : Int))]) [] w' Q := by
      intro q w' l'
      have := ih (b + 1) (by omega) w' l'
      rw [show 4096 * j + 64 * a + (b + 1) = (4096 * j + 64 * a + b) + 1 from rfl] at this
      unfold L221 at this
      rw [cnt_f q] at this
      exact this
    refine v221_82 l (bdk (by omega)) (bdk (by omega)) (bdk (by omega)) (bdk (by omega)) (bdk (by omega)) (fun w1 l1 _ => ⟨fun q => by omega, fun _ w3 l3 _ => ?_⟩)
    rw [show ((j : Nat) : Int) + 1 = ((j + 1 : Nat) : Int) from rfl, (tdm hR (j + 1)).1, (tdm hR (j + 1)).2, (tdm hR j).1, (tdm hR j).2, Int.toNat_natCast, Int.toNat_natCast, Int.toNat_natCast]
    refine ⟨bj, hm1, fun w4 l4 _ => ⟨bj, hm1, bm1, bd1, ⟨by omega, by omega⟩, ⟨by omega, by omega⟩, ⟨Int.natCast_nonneg _, by omega⟩, fun w5 l5 => ⟨fun q => ?_, fun q => ?_⟩⟩⟩
    · exact go (by rw [hP, Bool.eq_false_iff.mpr q]; rfl) w5 l5
    · refine ⟨⟨by omega, by omega⟩, ⟨by omega, by omega⟩, fun w7 l7 => ⟨fun qn => ?_, fun qn => ?_⟩⟩
      · have hT : sCoP m (4096 * j + 64 * a + b) = true := by rw [hP, q, qn]; rfl
        have hQ := sCoQ_at (m := m) (j := j) (a := a) (b := b) (by omega) (by omega) (by omega) hT
        have q0 := hQ 0
        have q1 := hQ 1
        have q2 := hQ 2
        have q3 := hQ 3
        have q5 := hQ 5
        rw [if_pos rfl] at q0
        rw [if_neg (by decide), if_pos rfl] at q1
        rw [if_neg (by decide), if_neg (by decide), if_pos rfl] at q2
        rw [if_neg (by decide), if_neg (by decide), if_neg (by decide), if_pos rfl] at q3
        rw [if_neg (by decide), if_neg (by decide), if_neg (by decide), if_neg (by decide), if_neg (by decide)] at q5
        refine ⟨by decide, fun w9 l9 _ w10 l10 _ => ⟨hm1, bm, fun z => absurd q0 z, fun _ => ⟨by decide, fun w12 l12 _ w13 l13 _ => ⟨hm1, bd0, fun z => absurd q1 z, fun _ => ⟨by decide, fun w15 l15 _ => ⟨fun z => absurd q2 z, fun _ => ⟨by decide, fun w17 l17 _ w18 l18 _ => ⟨bj, hm1, bm1, fun z => absurd q3 z, fun _ => ⟨by decide, fun w20 l20 _ => ⟨fun _ => ?_, fun z => absurd q5 z⟩⟩⟩⟩⟩⟩⟩⟩⟩⟩
        have := ih (b + 1) (by omega) w20 l20
        rw [show 4096 * j + 64 * a + (b + 1) = (4096 * j + 64 * a + b) + 1 from rfl] at this
        unfold L221 at this
        rw [cnt_t hT] at this
        exact this
      · exact go (by rw [hP, Bool.eq_false_iff.mpr qn, Bool.and_false]) w7 l7
theorem l221_43 (hR : RowOK m) {j : Nat} (hj : j + 1 < (m 1).toNat * (m 4).toNat) (h : ∀ w', LW w' m H n k0 sn sf → ∀ o4 o5, pc2 o4 = false → pc2 o5 = false → pX 221 23 (L221 m (4096 * (j + 1)) (j + 1) [o4, o5]) [] w' Q) :
    ∀ k a : Nat, a + k = (m 0).toNat → ∀ w, LW w m H n k0 sn sf → ∀ o5, pc2 o5 = false → pX 221 43 (L221 m (4096 * j + 64 * a) j [some (iv (a : Nat)), o5]) [] w Q := by
  have h0 := hR.s
  have h1 := hR.u
  have h4 := hR.t
  have hut := (UT_le hR).1
  have hco := sCo_bd m
  have hU : 0 < (m 1).toNat := by omega
  have g3 := Nat.mod_lt j hU
  have g4 : j / (m 1).toNat < (m 4).toNat := Nat.div_lt_of_lt_mul (by omega)
  intro k
  induction k with
  | zero =>
    intro a ha w l o5 ho5
    have hc := cnt_le (sCoP m) (4096 * j + 64 * a)
    refine v221_43 l (bdk (by omega)) (bdk (by omega)) (bdk (by omega)) (bdk (by omega)) ho5 (fun w1 l1 _ => ⟨fun _ => ?_, fun q => by omega⟩)
    rw [show cnt (sCoP m) (4096 * j + 64 * a) = cnt (sCoP m) (4096 * (j + 1)) from cnt_gap (by omega) (fun i hi1 hi2 => coP_out (Or.inr (Or.inl (by omega))))]
    exact h w1 l1 _ _ rfl ho5
  | succ k ih =>
    intro a ha w l o5 ho5
    have hc := cnt_le (sCoP m) (4096 * j + 64 * a)
    refine v221_43 l (bdk (by omega)) (bdk (by omega)) (bdk (by omega)) (bdk (by omega)) ho5 (fun w1 l1 _ => ⟨fun q => by omega, fun _ w3 l3 _ => ?_⟩)
    rw [(tdm hR j).1, (tdm hR j).2, Int.toNat_natCast, Int.toNat_natCast, Int.toNat_natCast]
    refine ⟨⟨by omega, by omega⟩, fun w4 l4 _ => ⟨⟨by omega, by omega⟩, bdk (by omega), bdk (by omega), ⟨by omega, by omega⟩, ⟨by omega, by omega⟩, ⟨Int.natCast_nonneg _, by omega⟩, fun w5 l5 => ⟨fun q => ?_, fun q => ?_⟩⟩⟩
    · exact l221_82 hR hj (by omega) q (fun w' l' o5 ho5 => ih (a + 1) (by omega) w' l' o5 ho5) (m 0).toNat 0 (Nat.zero_add _) w5 l5
    · have := ih (a + 1) (by omega) w5 l5 o5 ho5
      rw [show cnt (sCoP m) (4096 * j + 64 * a) = cnt (sCoP m) (4096 * j + 64 * (a + 1)) from cnt_gap (by omega) (fun i hi1 hi2 => by
        rw [coP_ix i, coP_at (by omega) (by omega), show i / 4096 = j by omega, show i % 4096 / 64 = a by omega, rTr_in (by omega) (by omega), Bool.eq_false_iff.mpr q, Bool.false_and])]
      exact this
theorem l221_23 (hR : RowOK m) (h : ∀ w', LW w' m H n k0 sn sf → Q (rI 1) w') :
    ∀ k j : Nat, j + k = (m 1).toNat * (m 4).toNat - 1 → ∀ w, LW w m H n k0 sn sf → ∀ o4 o5, pc2 o4 = false → pc2 o5 = false → pX 221 23 (L221 m (4096 * j) j [o4, o5]) [] w Q := by
  have h1 := hR.u
  have h4 := hR.t
  obtain ⟨hut, eut⟩ := UT_le hR
  have hco := sCo_bd m
  intro k
  induction k with
  | zero =>
    intro j hj w l o4 o5 ho4 ho5
    have hc := cnt_le (sCoP m) (4096 * j)
    refine v221_23 l (bdk (by omega)) (bdk (by omega)) (bdk (by omega)) ho4 ho5 (fun w1 l1 _ w2 l2 _ => ?_)
    rw [eut]
    refine ⟨⟨by omega, by omega⟩, fun _ => ⟨fun z => absurd ?_ z, fun _ => h w2 l2⟩, fun q => by omega⟩
    rw [show cnt (sCoP m) (4096 * j) = sCo m from cnt_gap (by omega) (fun i hi1 hi2 => coP_out (Or.inl (by omega)))]
  | succ k ih =>
    intro j hj w l o4 o5 ho4 ho5
    have hc := cnt_le (sCoP m) (4096 * j)
    refine v221_23 l (bdk (by omega)) (bdk (by omega)) (bdk (by omega)) ho4 ho5 (fun w1 l1 _ w2 l2 _ => ?_)
    rw [eut]
    refine ⟨⟨by omega, by omega⟩, fun q => by omega, fun _ => ?_⟩
    exact l221_43 hR (by omega) (fun w' l' o4 o5 g4 g5 => ih (j + 1) (by omega) w' l' o4 o5 g4 g5) (m 0).toNat 0 (Nat.zero_add _) w2 l2 o5 ho5
/-- collisions says true -/
theorem q221 {w : PW} (hl : LW w m H n k0 sn sf) (h : qh m H n k0 sn sf Q 1) : pC 221 [.ref 0] w Q := by
  refine e221 hl (fun w1 l1 _ => ⟨by decide, fun w2 l2 _ => ⟨fun _ => ?_, fun z => absurd ?_ z⟩⟩)
  · exact l221_23 l2.ok (fun w' l' => h w' l' ⟨by decide, by decide⟩) _ 0 (Nat.zero_add _) w2 l2 none none rfl rfl
  · show sCoQ m (sCo m : Nat) 0 = -1
    unfold sCoQ
    have e : sel (sCoP m) (sCo m : Nat) (4096 * 36) = -1 := sel_no (Or.inr (Int.le_refl _))
    rw [if_pos e]
end LCO
